/-! the class: questions about the index -/
/-- words that rise are just their set -/
theorem srt_uniq {α : Type} (f : α → Int) : ∀ (l m : List α), l.Pairwise (fun x y => f x < f y) → m.Pairwise (fun x y => f x < f y) → (∀ x, x ∈ l ↔ x ∈ m) → l = m
  | [], [], _, _, _ => rfl
  | [], b :: m, _, _, h => absurd ((h b).mpr (List.mem_cons_self ..)) List.not_mem_nil
  | a :: l, [], _, _, h => absurd ((h a).mp (List.mem_cons_self ..)) List.not_mem_nil
  | a :: l, b :: m, hl, hm, h => by
    rw [List.pairwise_cons] at hl hm
    have hab : a = b := by
      rcases List.mem_cons.mp ((h a).mp (List.mem_cons_self ..)) with e | e
      · exact e
      · rcases List.mem_cons.mp ((h b).mpr (List.mem_cons_self ..)) with e2 | e2
        · exact e2.symm
        · have h1 := hm.1 a e
          have h2 := hl.1 b e2
          omega
    subst hab
    have := srt_uniq f l m hl.2 hm.2 (fun x => by
      have hx := h x
      rw [List.mem_cons, List.mem_cons] at hx
      constructor
      · intro hin
        rcases hx.mp (Or.inr hin) with e | e
        · subst e; have := hl.1 x hin; omega
        · exact e
      · intro hin
        rcases hx.mpr (Or.inr hin) with e | e
        · subst e; have := hm.1 x hin; omega
        · exact e)
    rw [this]
theorem srtW_pw {wp : List (Int64 × List (Nat × Nat))} (h : srtW wp) : wp.Pairwise (fun x y => x.1.toInt < y.1.toInt) := by
  rw [List.pairwise_iff_getElem]
  intro i j hi hj hij
  exact h i j _ _ hij (List.getElem?_eq_getElem hi) (List.getElem?_eq_getElem hj)
theorem wOk_mem {wp : List (Int64 × List (Nat × Nat))} {PQ : Int64 → List (Nat × Nat)} (h : wOk wp PQ) (x : Int64 × List (Nat × Nat)) : x ∈ wp ↔ x.2 = PQ x.1 ∧ PQ x.1 ≠ [] := by
  constructor
  · intro hx
    obtain ⟨j, hj⟩ := List.getElem?_of_mem hx
    exact h.2.1 j x hj
  · rintro ⟨h1, h2⟩
    obtain ⟨j, y, hj, e⟩ := h.2.2 x.1 h2
    have h3 := (h.2.1 j y hj).1
    have : y = x := Prod.ext e (by rw [h3, h1, e])
    exact this ▸ List.mem_of_getElem? hj
theorem wOk_uniq {wp wp' : List (Int64 × List (Nat × Nat))} {PQ : Int64 → List (Nat × Nat)} (h : wOk wp PQ) (h' : wOk wp' PQ) : wp = wp' :=
  srt_uniq (fun x => x.1.toInt) wp wp' (srtW_pw h.1) (srtW_pw h'.1) (fun x => (wOk_mem h x).trans (wOk_mem h' x).symm)
/-- the signs with which both words begin -/
def shN (a b : Nat) : Nat := fst0 (fun k => !(decide (0 < dg a k) && (dg a k == dg b k))) 12
/-- the words W: what the j-th shares with the one ahead of it -/
def shA (W : Nat → Nat) (j : Nat) : Nat := if j = 0 then 0 else shN (W (j - 1)) (W j)
/-- the bytes of the first words -/
noncomputable def wbN (W : Nat → Nat) : Nat → Nat
  | 0 => 0
  | j + 1 => wbN W j + (2 + lnW (W j) - shA W j)
/-- the sign of a word -/
def leN (w : Nat) (y : Int32) : Nat := if dgI w y = 0 then 32 else if dgI w y ≤ 10 then 48 + dgI w y - 1 else 97 + dgI w y - 11
theorem leN_lt (w : Nat) (y : Int32) : leN w y < 128 := by
  have := dgI_lt w y
  unfold leN
  split
  · decide
  · split <;> omega
theorem c16 {t : Nat} (h : t < 128) : ((nI t).toUInt32 % 65536).toInt32 = nI t := by
  have : ∀ j : Fin 128, ((nI j.val).toUInt32 % 65536).toInt32 = nI j.val := by decide +kernel
  exact this ⟨t, h⟩
theorem isC_n {t : Nat} (h : t < 128) : isC (nI t) := by
  unfold isC
  exact congrArg Value.int (c16 h)
section QX
variable {S T : cS} {ρ ρ' : Nat → Nat} {dp x made : Nat} {so : Nat → Nat} {sd : Nat → List Nat} {sg : Nat → List Dc} {B : List Dc} {ix : Vw} {mg : Option (Vw × Nat)} {cm pr : Option Vw} {sn : List (Nat × Vw)} {op fi w : Nat} {cc : Option Nat} {off : Bool}
theorem q_sharedOf {Q : Int32 → cS → Prop} {a b : Nat} (ha : a < 2 ^ 63) (hb : b < 2 ^ 63) (h : Q (nI (shN a b)) S) : k_X9_sharedOf Q dp (lN a) (lN b) S := by
  unfold k_X9_sharedOf k_X9_sharedOf_3L
  refine lfp_cnt 12 (fun k y => (∀ j, j < k → (!(decide (0 < dg a j) && (dg a j == dg b j))) = false) ∧ y = (lN a, lN b, nI k, S)) ?_ ⟨fun j hj => absurd hj (Nat.not_lt_zero j), rfl⟩
  rintro P k _ hk ⟨hd, rfl⟩ ih
  show k_X9_sharedOf_3 Q dp _ (lN a) (lN b) (nI k) S
  have ga := dg_lt a k
  have gb := dg_lt b k
  unfold k_X9_sharedOf_3
  refine pk_le 12 k (fun z => ?_) (fun z => q_digitAt ha z (w_z (dg a k) (fun e => ?_) (fun e => q_digitAt ha z (q_digitAt hb z (w_ne (dg a k) (dg b k) (fun ne => ?_) (fun ee => ?_))))))
  · obtain rfl : k = 12 := by omega
    rw [show shN a b = 12 from fst0_all hd] at h; exact h
  · rw [show shN a b = k from fst0_eq hd (by rw [e]; rfl) z] at h; exact h
  · rw [show shN a b = k from fst0_eq hd (by rw [beq_eq_false_iff_ne.mpr ne, Bool.and_false]; rfl) z] at h; exact h
  · rintro _ rfl
    rw [nI_add]
    refine ih _ z ⟨fun j hj => ?_, rfl⟩
    rcases Nat.lt_or_ge j k with q | q
    · exact hd j q
    · obtain rfl : j = k := by omega
      rw [decide_eq_true e, ee, beq_self_eq_true]; rfl
theorem shN_le (a b : Nat) : shN a b ≤ lnW a := by
  rcases Nat.lt_or_ge (lnW a) (shN a b) with z | z
  · have h1 := fst0_pre (q := fun k => !(decide (0 < dg a k) && (dg a k == dg b k))) (n := 12) z
    have h12 : shN a b ≤ 12 := fst0_le _ _
    have h2 := lnW_end (w := a) (by omega)
    rw [h2] at h1
    exact absurd h1 (by simp)
  · exact z
theorem shN_le2 (a b : Nat) : shN a b ≤ 12 := fst0_le _ _
theorem q_letterAt {Q : Int32 → cS → Prop} {a : Nat} {y : Int32} (ha : a < 2 ^ 63) (h : Q (nI (leN a y)) S) : k_X9_letterAt Q dp (lN a) y S := by
  have hd := dgI_lt a y
  have fin : ∀ t, t < 128 → t = leN a y → k_X9_letterAt_35 Q dp (nI t) S := by
    intro t ht e
    unfold k_X9_letterAt_35
    rw [c16 ht, e]
    exact ⟨isC_n (leN_lt a y), h⟩
  unfold k_X9_letterAt
  refine q_digitAtI ha (w_nz (dgI a y) (fun e => pk_le 11 (dgI a y) (fun z => ?_) (fun z => ?_)) (fun e => ?_))
  · rw [nI_add, pk_sub (by omega)]
    refine fin _ (by omega) ?_
    unfold leN
    rw [if_neg (by omega), if_neg (by omega)]
  · rw [nI_add, pk_sub (by omega)]
    refine fin _ (by omega) ?_
    unfold leN
    rw [if_neg (by omega), if_pos (by omega)]
  · have : leN a y = 32 := by unfold leN; rw [if_pos e]
    rw [this] at h
    exact ⟨isC_n (by decide), h⟩
theorem g_segments {Q : Int32 → cS → Prop} (g : gIx S ρ dp x so sd sg made B ix mg cm pr sn op fi w cc false) (h : Q (nI ix.1.length) S) : k_X11_segments Q dp x S := by
  obtain ⟨⟨hx, hρ, hdp⟩, gs, gb, ⟨V, e355, gv⟩, ⟨go, e357⟩, gc, gp, gl, i361, i366, i367, i368, i369, i370⟩ := g
  unfold k_X11_segments
  exact ⟨hx, q_checkUp hx i370 ⟨hx, V, e355, (g_vA gv).1, g_vsize gv h⟩⟩
theorem g_due {Q : Int32 → cS → Prop} (g : gIx S ρ dp x so sd sg made B ix mg cm pr sn op fi w cc false) (h1 : ∀ k, dueI sg ix.1 k → (∀ i, i < k → ¬ dueI sg ix.1 i) → Q (nI k) S) (h2 : (∀ i, ¬ dueI sg ix.1 i) → Q (-1) S) : k_X11_due Q dp x S := by
  obtain ⟨⟨hx, hρ, hdp⟩, gs, gb, ⟨V, e355, gv⟩, ⟨go, e357⟩, gc, gp, gl, i361, i366, i367, i368, i369, i370⟩ := g
  obtain ⟨hl, vm, hs', gx⟩ := gv
  unfold k_X11_due
  exact ⟨hx, q_checkUp hx i370 ⟨hx, V, e355, gx.1.1, q_vdue gx.1 h1 h2⟩⟩
theorem g_holdingAt {Q : Nat → cS → Prop} {k n : Nat} (g : gIx S ρ dp x so sd sg made B ix mg cm pr sn op fi w cc false) (hM : vwM made ix) (hk : ix.1[k]? = some n) (h : ∀ y r, hoT S y (so n) r (sg n).length (ix.2 n) → gSg S ρ dp (so n) n (sd n) (sg n) → Q y S) : k_X11_holdingAt Q dp x (nI k) S := by
  obtain ⟨⟨hx, hρ, hdp⟩, gs, gb, ⟨V, e355, gv⟩, ⟨go, e357⟩, gc, gp, gl, i361, i366, i367, i368, i369, i370⟩ := g
  obtain ⟨hl, vm, hs', gx⟩ := gv
  have hlen := vw_len gx.1
  obtain ⟨y, hy⟩ := get_ex (l := hs') (k := k) (by have := get_lt hk; omega)
  obtain ⟨-, -, -, r, ho⟩ := gx.1.2.2.2.2 k y n hy hk
  unfold k_X11_holdingAt
  refine ⟨hx, V, e355, gx.1.1, q_vat gx.1 hy ⟨fun c => absurd c (by simp), fun b hb => ⟨hx, fun c => absurd i370 c, fun _ => ?_⟩⟩⟩
  obtain rfl : y = b := Option.some.inj hb
  exact h y r ho (gs n (hM n (List.mem_of_getElem? hk)))
theorem x_holdingAt {Q : cS → Prop} {mc ms : Nat} {y : Int32} (g : gIx S ρ dp x so sd sg made B ix mg cm pr sn op fi w cc off) (h0 : off = true ∨ ∀ k, k < ix.1.length → y ≠ nI k) (hm : 1 ≤ mc) (hs : 6 ≤ ms) (h : Q S) : kx_X11_holdingAt "java/lang/IndexOutOfBoundsException" Q dp mc ms x y S := by
  obtain ⟨⟨hx, hρ, hdp⟩, gs, gb, ⟨V, e355, gv⟩, ⟨go, e357⟩, gc, gp, gl, i361, i366, i367, i368, i369, i370⟩ := g
  obtain ⟨hl, vm, hs', gx⟩ := gv
  have hlen := vw_len gx.1
  have bd : (0 + 1 ≤ mc ∧ 0 + 6 ≤ ms) := ⟨by omega, by omega⟩
  unfold kx_X11_holdingAt
  refine ⟨hx, V, e355, gx.1.1, ⟨by omega, by omega⟩, ?_⟩
  by_cases c : ∃ k, k < ix.1.length ∧ y = nI k
  · obtain ⟨k, hk, rfl⟩ := c
    obtain ⟨z, hz⟩ := get_ex (l := hs') (k := k) (by omega)
    refine q_vat gx.1 hz ⟨fun c => absurd c (by simp), fun b hb => ⟨hx, fun _ => ⟨rfl, bd, h⟩, fun c => ?_⟩⟩
    rcases h0 with q | q
    · rw [i370, q] at c; exact absurd c (by decide)
    · exact absurd rfl (q k hk)
  · exact q_vatN gx.1 (fun k hk e => c ⟨k, hk, e⟩) ⟨fun _ => ⟨hx, fun _ => ⟨rfl, bd, h⟩, fun _ => ⟨rfl, bd, h⟩⟩, fun b hb => absurd hb (by simp)⟩
theorem g_segmentAt {Q : Int32 → cS → Prop} {k n : Nat} (g : gIx S ρ dp x so sd sg made B ix mg cm pr sn op fi w cc false) (hM : vwM made ix) (hk : ix.1[k]? = some n) (h : Q (nI n) S) : k_X11_segmentAt Q dp x (nI k) S := by
  unfold k_X11_segmentAt
  refine ⟨g.1.1, g_holdingAt g hM hk (fun y r ho gS => ⟨ho.1, so n, ho.2.1, gS.1.1, ?_⟩)⟩
  rw [gS.1.2.1]; exact h
theorem g_live {Q : Int32 → cS → Prop} {k n : Nat} (g : gIx S ρ dp x so sd sg made B ix mg cm pr sn op fi w cc false) (hM : vwM made ix) (hk : ix.1[k]? = some n) (h : Q (nI (cntB (ix.2 n) (sg n).length)) S) : k_X11_live Q dp x (nI k) S := by
  unfold k_X11_live
  exact ⟨g.1.1, g_holdingAt g hM hk (fun y r ho gS => ⟨ho.1, q_liveCount ho h⟩)⟩
theorem g_keyAt {Q : Int32 → cS → Prop} {k n j : Nat} {d : Dc} (g : gIx S ρ dp x so sd sg made B ix mg cm pr sn op fi w cc false) (hM : vwM made ix) (hk : ix.1[k]? = some n) (hj : (sg n)[j]? = some d) (h : Q (nI (dK d)) S) : k_X11_keyAt Q dp x (nI k) (nI j) S := by
  unfold k_X11_keyAt
  refine ⟨g.1.1, g_holdingAt g hM hk (fun y r ho gS => ?_)⟩
  have hN := gS.2.2.2.2.2.1
  have hjl := get_lt hj
  obtain ⟨s1, s2, s3, ⟨dl, md, s4, s5⟩, s6⟩ := gS.1
  obtain ⟨D, hD⟩ := get_ex (l := sd n) (k := j) (by omega)
  obtain ⟨d1, d2, d3⟩ := s6 j D d hD hj
  refine ⟨ho.1, so n, ho.2.1, w_pos j ⟨s1, q_sgSize gS.1 (pk_lt j (sg n).length (fun _ => ⟨s1, dl, s4, s5.1, q_lget s5 hD ⟨d1, d1, ?_⟩⟩) (fun z => absurd z (by omega)))⟩⟩
  rw [d2]; exact h
theorem x_segmentAt {Q : cS → Prop} {mc ms : Nat} {y : Int32} (g : gIx S ρ dp x so sd sg made B ix mg cm pr sn op fi w cc off) (h0 : off = true ∨ ∀ k, k < ix.1.length → y ≠ nI k) (hm : 1 ≤ mc) (hs : 6 ≤ ms) (h : Q S) : kx_X11_segmentAt "java/lang/IndexOutOfBoundsException" Q dp mc ms x y S := by
  unfold kx_X11_segmentAt
  exact ⟨g.1.1, Or.inr ⟨mc, ms, ⟨by omega, by omega⟩, x_holdingAt g h0 hm hs h⟩⟩
theorem x_live {Q : cS → Prop} {mc ms : Nat} {y : Int32} (g : gIx S ρ dp x so sd sg made B ix mg cm pr sn op fi w cc off) (h0 : off = true ∨ ∀ k, k < ix.1.length → y ≠ nI k) (hm : 1 ≤ mc) (hs : 6 ≤ ms) (h : Q S) : kx_X11_live "java/lang/IndexOutOfBoundsException" Q dp mc ms x y S := by
  unfold kx_X11_live
  exact ⟨g.1.1, Or.inr ⟨mc, ms, ⟨by omega, by omega⟩, x_holdingAt g h0 hm hs h⟩⟩
theorem x_keyAt {Q : cS → Prop} {mc ms : Nat} {y z : Int32} (g : gIx S ρ dp x so sd sg made B ix mg cm pr sn op fi w cc off) (hM : vwM made ix) (h0 : off = true ∨ (∀ k, k < ix.1.length → y ≠ nI k) ∨ ∃ k n, ix.1[k]? = some n ∧ y = nI k ∧ ∀ j, j < (sg n).length → z ≠ nI j) (hm : 1 ≤ mc) (hs : 6 ≤ ms) (h : Q S) : kx_X11_keyAt "java/lang/IndexOutOfBoundsException" Q dp mc ms x y z S := by
  have bd : (0 + 1 ≤ mc ∧ 0 + 6 ≤ ms) := ⟨by omega, by omega⟩
  unfold kx_X11_keyAt
  cases off with
  | true => exact ⟨g.1.1, Or.inr ⟨mc, ms, ⟨by omega, by omega⟩, x_holdingAt g (Or.inl rfl) hm hs h⟩⟩
  | false =>
    rcases h0 with q | q | ⟨k, n, hk, rfl, hz⟩
    · exact absurd q (by decide)
    · exact ⟨g.1.1, Or.inr ⟨mc, ms, ⟨by omega, by omega⟩, x_holdingAt g (Or.inr q) hm hs h⟩⟩
    · refine ⟨g.1.1, Or.inl ⟨⟨by omega, by omega⟩, g_holdingAt g hM hk (fun y r ho gS => ⟨ho.1, so n, ho.2.1, fun _ => ⟨rfl, bd, h⟩, fun c => ⟨gS.1.1, ⟨by omega, by omega⟩, q_sgSize gS.1 ⟨fun c2 => ?_, fun _ => ⟨rfl, bd, h⟩⟩⟩⟩)⟩⟩
      obtain ⟨j, hj, rfl⟩ := nI_of c
      have hN := gS.2.2.2.2.2.1
      exact absurd rfl (hz j ((nI_ltI hj (by omega)).mp c2))
/-- a segment's words in a field -/
theorem g_wordsAt {Q : Nat → cS → Prop} {k n fl : Nat} {wp : List (Int64 × List (Nat × Nat))} (g : gIx S ρ dp x so sd sg made B ix mg cm pr sn op fi w cc false) (hM : vwM made ix) (hk : ix.1[k]? = some n) (hf : fl < 2) (hw : wOk wp (fun c => pstOf (tlD (sg n) fl) c (sg n).length)) (h : ∀ wl, gWd S ρ dp wl wp → Q wl S) : k_X11_wordsAt Q dp x (nI k) (nI fl) S := by
  unfold k_X11_wordsAt
  refine ⟨g.1.1, g_holdingAt g hM hk (fun y r ho gS => q_checkN hf ⟨ho.1, so n, ho.2.1, gS.1.1, ?_⟩)⟩
  obtain ⟨wl, wp', w1, w2, w3⟩ := gS.2.2.2.2.2.2 fl hf
  obtain rfl := wOk_uniq w3 hw
  exact q_wordsOf gS.1.1 hf w1 (h wl w2)
theorem x_wordsAt {Q : cS → Prop} {mc ms : Nat} {y z : Int32} (g : gIx S ρ dp x so sd sg made B ix mg cm pr sn op fi w cc off) (hM : vwM made ix) (h0 : off = true ∨ (∀ k, k < ix.1.length → y ≠ nI k) ∨ ∀ k, k < 2 → z ≠ nI k) (hm : 1 ≤ mc) (hs : 6 ≤ ms) (h : Q S) : kx_X11_wordsAt "java/lang/IndexOutOfBoundsException" Q dp mc ms x y z S := by
  unfold kx_X11_wordsAt
  refine ⟨g.1.1, ?_⟩
  by_cases c : off = true ∨ ∀ k, k < ix.1.length → y ≠ nI k
  · exact Or.inr ⟨mc, ms, ⟨by omega, by omega⟩, x_holdingAt g c hm hs h⟩
  · have c1 : off = false := by
      cases off with
      | true => exact absurd (Or.inl rfl) c
      | false => rfl
    subst c1
    have c2 : ∃ k, k < ix.1.length ∧ y = nI k := by
      apply Classical.byContradiction
      intro q
      exact c (Or.inr (fun k hk e => q ⟨k, hk, e⟩))
    obtain ⟨k, hk, rfl⟩ := c2
    obtain ⟨n, hn⟩ := get_ex hk
    have hz : ∀ k, k < 2 → z ≠ nI k := by
      rcases h0 with q | q | q
      · exact absurd q (by decide)
      · exact absurd rfl (q k hk)
      · exact q
    exact Or.inl ⟨⟨by omega, by omega⟩, g_holdingAt g hM hn (fun y r ho gS => Or.inr ⟨mc, ms, ⟨by omega, by omega⟩, x_checkN hz hm hs h⟩)⟩
theorem g_words {Q : Int32 → cS → Prop} {k n fl : Nat} {wp : List (Int64 × List (Nat × Nat))} (g : gIx S ρ dp x so sd sg made B ix mg cm pr sn op fi w cc false) (hM : vwM made ix) (hk : ix.1[k]? = some n) (hf : fl < 2) (hw : wOk wp (fun c => pstOf (tlD (sg n) fl) c (sg n).length)) (h : Q (nI wp.length) S) : k_X11_words Q dp x (nI k) (nI fl) S := by
  unfold k_X11_words
  refine ⟨g.1.1, g_wordsAt g hM hk hf hw (fun wl ⟨ws, m, w1, w2, w3, w4⟩ => ⟨w1.1, q_lsize w1 ?_⟩)⟩
  rw [w3]; exact h
theorem x_words {Q : cS → Prop} {mc ms : Nat} {y z : Int32} (g : gIx S ρ dp x so sd sg made B ix mg cm pr sn op fi w cc off) (hM : vwM made ix) (h0 : off = true ∨ (∀ k, k < ix.1.length → y ≠ nI k) ∨ ∀ k, k < 2 → z ≠ nI k) (hm : 1 ≤ mc) (hs : 6 ≤ ms) (h : Q S) : kx_X11_words "java/lang/IndexOutOfBoundsException" Q dp mc ms x y z S := by
  unfold kx_X11_words
  exact ⟨g.1.1, Or.inr ⟨mc, ms, ⟨by omega, by omega⟩, x_wordsAt g hM h0 hm hs h⟩⟩
theorem x_wordBytes {Q : cS → Prop} {mc ms : Nat} {y z : Int32} (g : gIx S ρ dp x so sd sg made B ix mg cm pr sn op fi w cc off) (hM : vwM made ix) (h0 : off = true ∨ (∀ k, k < ix.1.length → y ≠ nI k) ∨ ∀ k, k < 2 → z ≠ nI k) (hm : 1 ≤ mc) (hs : 6 ≤ ms) (h : Q S) : kx_X11_wordBytes "java/lang/IndexOutOfBoundsException" Q dp mc ms x y z S := by
  unfold kx_X11_wordBytes
  exact ⟨g.1.1, Or.inr ⟨mc, ms, ⟨by omega, by omega⟩, x_wordsAt g hM h0 hm hs h⟩⟩
/-- a word's postings -/
theorem g_postingsAt {Q : Nat → cS → Prop} {k n fl j : Nat} {wp : List (Int64 × List (Nat × Nat))} {y : Int64 × List (Nat × Nat)} (g : gIx S ρ dp x so sd sg made B ix mg cm pr sn op fi w cc false) (hM : vwM made ix) (hk : ix.1[k]? = some n) (hf : fl < 2) (hw : wOk wp (fun c => pstOf (tlD (sg n) fl) c (sg n).length)) (hj : wp[j]? = some y) (h : ∀ p, pB S p (encN (nmN 0 y.2)) ∧ cw S 160 p = y.1 ∧ ci S 163 p = nI y.2.length ∧ okP 0 y.2 → Q p S) : k_X11_postingsAt Q dp x (nI k) (nI fl) (nI j) S := by
  unfold k_X11_postingsAt
  refine ⟨g.1.1, g_wordsAt g hM hk hf hw (fun wl ⟨ws, m, w1, w2, w3, w4⟩ => ?_)⟩
  have hjl := get_lt hj
  have hw8 : ws.length < 8000 := by have := w1.2.2.1; have := w1.2.2.2.1; omega
  obtain ⟨p, hp⟩ := get_ex (l := ws) (k := j) (by omega)
  have hp4 := (w4 j p y hp hj).1
  exact w_pos j ⟨w1.1, q_lsize w1 (pk_lt j ws.length (fun _ => ⟨w1.1, q_lget w1 hp ⟨hp4.1.1, h p hp4⟩⟩) (fun z => absurd z (by omega)))⟩
theorem x_postingsAt {Q : cS → Prop} {mc ms : Nat} {y z u : Int32} (g : gIx S ρ dp x so sd sg made B ix mg cm pr sn op fi w cc off) (hM : vwM made ix) (h0 : off = true ∨ (∀ k, k < ix.1.length → y ≠ nI k) ∨ (∀ k, k < 2 → z ≠ nI k) ∨ ∃ k n fl wp, ix.1[k]? = some n ∧ y = nI k ∧ fl < 2 ∧ z = nI fl ∧ wOk wp (fun c => pstOf (tlD (sg n) fl) c (sg n).length) ∧ ∀ j, j < wp.length → u ≠ nI j) (hm : 1 ≤ mc) (hs : 6 ≤ ms) (h : Q S) : kx_X11_postingsAt "java/lang/IndexOutOfBoundsException" Q dp mc ms x y z u S := by
  have bd : (0 + 1 ≤ mc ∧ 0 + 6 ≤ ms) := ⟨by omega, by omega⟩
  unfold kx_X11_postingsAt
  refine ⟨g.1.1, ?_⟩
  by_cases c : off = true ∨ (∀ k, k < ix.1.length → y ≠ nI k) ∨ (∀ k, k < 2 → z ≠ nI k)
  · exact Or.inr ⟨mc, ms, ⟨by omega, by omega⟩, x_wordsAt g hM c hm hs h⟩
  · have c1 : off = false := by
      cases off with
      | true => exact absurd (Or.inl rfl) c
      | false => rfl
    subst c1
    rcases h0 with q | q | q | ⟨k, n, fl, wp, hk, rfl, hf, rfl, hw, hu⟩
    · exact absurd q (by decide)
    · exact absurd (Or.inr (Or.inl q)) c
    · exact absurd (Or.inr (Or.inr q)) c
    · refine Or.inl ⟨⟨by omega, by omega⟩, g_wordsAt g hM hk hf hw (fun wl ⟨ws, m, w1, w2, w3, w4⟩ => ⟨fun _ => ⟨rfl, bd, h⟩, fun c => ⟨w1.1, ⟨by omega, by omega⟩, q_lsize w1 ⟨fun c2 => ?_, fun _ => ⟨rfl, bd, h⟩⟩⟩⟩)⟩
      obtain ⟨j, hj, rfl⟩ := nI_of c
      have hw8 : ws.length < 8000 := by have := w1.2.2.1; have := w1.2.2.2.1; omega
      exact absurd rfl (hu j (by have := (nI_ltI hj (by omega)).mp c2; omega))
/-- the shared signs of a word of a list -/
theorem q_sharedAt {Q : Int32 → cS → Prop} {wl j : Nat} {wp : List (Int64 × List (Nat × Nat))} {W : Nat → Nat} (gw : gWd S ρ dp wl wp) (hW : ∀ (i : Nat) (y : Int64 × List (Nat × Nat)), wp[i]? = some y → y.1 = lN (W i) ∧ W i < 2 ^ 63) (hj : j < wp.length) (h : Q (nI (shA W j)) S) : k_X11_sharedAt Q dp wl (nI j) S := by
  obtain ⟨ws, m, w1, w2, w3, w4⟩ := gw
  have hw8 : ws.length < 8000 := by have := w1.2.2.1; have := w1.2.2.2.1; omega
  unfold k_X11_sharedAt
  refine pk_lt j 1 (fun z => ?_) (fun z => ⟨w1.1, q_lsize w1 (pk_lt j ws.length (fun _ => ?_) (fun z => absurd z (by omega)))⟩)
  · have : shA W j = 0 := by unfold shA; rw [if_pos (by omega)]
    rw [this] at h; exact h
  · rw [pk_sub (by omega)]
    obtain ⟨p, hp⟩ := get_ex (l := ws) (k := j - 1) (by omega)
    obtain ⟨y, hy⟩ := get_ex (l := wp) (k := j - 1) (by omega)
    obtain ⟨p', hp'⟩ := get_ex (l := ws) (k := j) (by omega)
    obtain ⟨y', hy'⟩ := get_ex (l := wp) (k := j) (by omega)
    have a1 := (w4 _ p y hp hy).1
    have a2 := (w4 _ p' y' hp' hy').1
    obtain ⟨e1, l1⟩ := hW _ y hy
    obtain ⟨e2, l2⟩ := hW _ y' hy'
    refine ⟨w1.1, q_lget w1 hp ⟨a1.1.1, a1.1.1, w1.1, q_lget w1 hp' ⟨a2.1.1, a2.1.1, ?_⟩⟩⟩
    rw [a1.2.1, a2.2.1, e1, e2]
    refine q_sharedOf l1 l2 ?_
    have : shA W j = shN (W (j - 1)) (W j) := by unfold shA; rw [if_neg (by omega)]
    rw [this] at h; exact h
theorem g_shared {Q : Int32 → cS → Prop} {k n fl j : Nat} {wp : List (Int64 × List (Nat × Nat))} {W : Nat → Nat} (g : gIx S ρ dp x so sd sg made B ix mg cm pr sn op fi w cc false) (hM : vwM made ix) (hk : ix.1[k]? = some n) (hf : fl < 2) (hw : wOk wp (fun c => pstOf (tlD (sg n) fl) c (sg n).length)) (hW : ∀ (i : Nat) (y : Int64 × List (Nat × Nat)), wp[i]? = some y → y.1 = lN (W i) ∧ W i < 2 ^ 63) (hj : j < wp.length) (h : Q (nI (shA W j)) S) : k_X11_shared Q dp x (nI k) (nI fl) (nI j) S := by
  obtain ⟨y, hy⟩ := get_ex hj
  unfold k_X11_shared
  exact ⟨g.1.1, g_postingsAt g hM hk hf hw hy (fun p _ => ⟨g.1.1, g_wordsAt g hM hk hf hw (fun wl gw => q_sharedAt gw hW hj h)⟩)⟩
theorem x_shared {Q : cS → Prop} {mc ms : Nat} {y z u : Int32} (g : gIx S ρ dp x so sd sg made B ix mg cm pr sn op fi w cc off) (hM : vwM made ix) (h0 : off = true ∨ (∀ k, k < ix.1.length → y ≠ nI k) ∨ (∀ k, k < 2 → z ≠ nI k) ∨ ∃ k n fl wp, ix.1[k]? = some n ∧ y = nI k ∧ fl < 2 ∧ z = nI fl ∧ wOk wp (fun c => pstOf (tlD (sg n) fl) c (sg n).length) ∧ ∀ j, j < wp.length → u ≠ nI j) (hm : 1 ≤ mc) (hs : 6 ≤ ms) (h : Q S) : kx_X11_shared "java/lang/IndexOutOfBoundsException" Q dp mc ms x y z u S := by
  unfold kx_X11_shared
  exact ⟨g.1.1, Or.inr ⟨mc, ms, ⟨by omega, by omega⟩, x_postingsAt g hM h0 hm hs h⟩⟩
theorem x_signAt {Q : cS → Prop} {mc ms : Nat} {y z u t : Int32} (g : gIx S ρ dp x so sd sg made B ix mg cm pr sn op fi w cc off) (hM : vwM made ix) (h0 : off = true ∨ (∀ k, k < ix.1.length → y ≠ nI k) ∨ (∀ k, k < 2 → z ≠ nI k) ∨ ∃ k n fl wp, ix.1[k]? = some n ∧ y = nI k ∧ fl < 2 ∧ z = nI fl ∧ wOk wp (fun c => pstOf (tlD (sg n) fl) c (sg n).length) ∧ ∀ j, j < wp.length → u ≠ nI j) (hm : 1 ≤ mc) (hs : 6 ≤ ms) (h : Q S) : kx_X11_signAt "java/lang/IndexOutOfBoundsException" Q dp mc ms x y z u t S := by
  unfold kx_X11_signAt
  exact ⟨g.1.1, Or.inr ⟨mc, ms, ⟨by omega, by omega⟩, x_postingsAt g hM h0 hm hs h⟩⟩
theorem x_bytes {Q : cS → Prop} {mc ms : Nat} {y z u : Int32} (g : gIx S ρ dp x so sd sg made B ix mg cm pr sn op fi w cc off) (hM : vwM made ix) (h0 : off = true ∨ (∀ k, k < ix.1.length → y ≠ nI k) ∨ (∀ k, k < 2 → z ≠ nI k) ∨ ∃ k n fl wp, ix.1[k]? = some n ∧ y = nI k ∧ fl < 2 ∧ z = nI fl ∧ wOk wp (fun c => pstOf (tlD (sg n) fl) c (sg n).length) ∧ ∀ j, j < wp.length → u ≠ nI j) (hm : 1 ≤ mc) (hs : 6 ≤ ms) (h : Q S) : kx_X11_bytes "java/lang/IndexOutOfBoundsException" Q dp mc ms x y z u S := by
  unfold kx_X11_bytes
  exact ⟨g.1.1, Or.inr ⟨mc, ms, ⟨by omega, by omega⟩, x_postingsAt g hM h0 hm hs h⟩⟩
theorem g_signAt {Q : Int32 → cS → Prop} {k n fl j a : Nat} {t : Int32} {wp : List (Int64 × List (Nat × Nat))} {y : Int64 × List (Nat × Nat)} (g : gIx S ρ dp x so sd sg made B ix mg cm pr sn op fi w cc false) (hM : vwM made ix) (hk : ix.1[k]? = some n) (hf : fl < 2) (hw : wOk wp (fun c => pstOf (tlD (sg n) fl) c (sg n).length)) (hj : wp[j]? = some y) (ha : y.1 = lN a) (ha2 : a < 2 ^ 63) (h : Q (nI (leN a t)) S) : k_X11_signAt Q dp x (nI k) (nI fl) (nI j) t S := by
  unfold k_X11_signAt
  refine ⟨g.1.1, g_postingsAt g hM hk hf hw hj (fun p hp => ⟨hp.1.1, ?_⟩)⟩
  rw [hp.2.1, ha]
  exact q_letterAt ha2 ⟨isC_n (leN_lt a t), h⟩
/-- how many bytes postings take -/
theorem q_postSize {Q : Int32 → cS → Prop} {p : Nat} {l : List Bool} (g : pB S p l) (h : Q (nI ((l.length + 7) / 8)) S) : k_X5_size Q dp p S := by
  obtain ⟨g1, g2, g3, b, g4, g5, g6, g7⟩ := g
  have hc := cap_inv l.length
  have h7 : (nI l.length + nI 7) >>> (nI 3 &&& 31) = nI ((l.length + 7) / 8) := by
    rw [nI_add]; exact nI_shr (by omega) (by decide)
  unfold k_X5_size
  refine ⟨g1, g1, b, g4, g5, ?_⟩
  rw [g2, g6, h7, if_neg (fun c => ?_)]
  · exact h
  · have := (nI_ltI (by omega) (by omega)).mp c
    omega
theorem g_bytes {Q : Int32 → cS → Prop} {k n fl j : Nat} {wp : List (Int64 × List (Nat × Nat))} {y : Int64 × List (Nat × Nat)} (g : gIx S ρ dp x so sd sg made B ix mg cm pr sn op fi w cc false) (hM : vwM made ix) (hk : ix.1[k]? = some n) (hf : fl < 2) (hw : wOk wp (fun c => pstOf (tlD (sg n) fl) c (sg n).length)) (hj : wp[j]? = some y) (h : Q (nI (((encN (nmN 0 y.2)).length + 7) / 8)) S) : k_X11_bytes Q dp x (nI k) (nI fl) (nI j) S := by
  unfold k_X11_bytes
  exact ⟨g.1.1, g_postingsAt g hM hk hf hw hj (fun p hp => ⟨hp.1.1, q_postSize hp.1 h⟩)⟩
theorem g_byteAt {Q : Int32 → cS → Prop} {k n fl j i : Nat} {wp : List (Int64 × List (Nat × Nat))} {y : Int64 × List (Nat × Nat)} (g : gIx S ρ dp x so sd sg made B ix mg cm pr sn op fi w cc false) (hM : vwM made ix) (hk : ix.1[k]? = some n) (hf : fl < 2) (hw : wOk wp (fun c => pstOf (tlD (sg n) fl) c (sg n).length)) (hj : wp[j]? = some y) (hi : i < ((encN (nmN 0 y.2)).length + 7) / 8) (h : Q (sB (byV (encN (nmN 0 y.2)) i)) S) : k_X11_byteAt Q dp x (nI k) (nI fl) (nI j) (nI i) S := by
  unfold k_X11_byteAt
  refine ⟨g.1.1, g_postingsAt g hM hk hf hw hj (fun p hp => ?_)⟩
  obtain ⟨g1, g2, g3, b, g4, g5, g6, g7⟩ := id hp.1
  have hc := cap_inv (encN (nmN 0 y.2)).length
  refine w_pos i ⟨g1, q_postSize hp.1 (pk_lt i (((encN (nmN 0 y.2)).length + 7) / 8) (fun _ => ⟨g1, b, g4, cX_mk g5 g6 (by omega) (show i < capB (encN (nmN 0 y.2)).length by omega) rfl, ?_⟩) (fun z => absurd z (by omega)))⟩
  rw [nI_clamp (by omega), g7 i (by omega)]; exact h
theorem x_byteAt {Q : cS → Prop} {mc ms : Nat} {y z u t : Int32} (g : gIx S ρ dp x so sd sg made B ix mg cm pr sn op fi w cc off) (hM : vwM made ix) (h0 : (off = true ∨ (∀ k, k < ix.1.length → y ≠ nI k) ∨ (∀ k, k < 2 → z ≠ nI k) ∨ ∃ k n fl wp, ix.1[k]? = some n ∧ y = nI k ∧ fl < 2 ∧ z = nI fl ∧ wOk wp (fun c => pstOf (tlD (sg n) fl) c (sg n).length) ∧ ∀ j, j < wp.length → u ≠ nI j) ∨ (off = false ∧ ∃ k n fl wp j q, ix.1[k]? = some n ∧ y = nI k ∧ fl < 2 ∧ z = nI fl ∧ wOk wp (fun c => pstOf (tlD (sg n) fl) c (sg n).length) ∧ wp[j]? = some q ∧ u = nI j ∧ ∀ i, i < ((encN (nmN 0 q.2)).length + 7) / 8 → t ≠ nI i)) (hm : 1 ≤ mc) (hs : 6 ≤ ms) (h : Q S) : kx_X11_byteAt "java/lang/IndexOutOfBoundsException" Q dp mc ms x y z u t S := by
  have bd : (0 + 1 ≤ mc ∧ 0 + 6 ≤ ms) := ⟨by omega, by omega⟩
  unfold kx_X11_byteAt
  refine ⟨g.1.1, ?_⟩
  rcases h0 with h0 | ⟨rfl, k, n, fl, wp, j, q, hk, rfl, hf, rfl, hw, hj, rfl, ht⟩
  · exact Or.inr ⟨mc, ms, ⟨by omega, by omega⟩, x_postingsAt g hM h0 hm hs h⟩
  · refine Or.inl ⟨⟨by omega, by omega⟩, g_postingsAt g hM hk hf hw hj (fun p hp => ⟨fun _ => ⟨rfl, bd, h⟩, fun c => ⟨hp.1.1, ⟨by omega, by omega⟩, q_postSize hp.1 ⟨fun c2 => ?_, fun _ => ⟨rfl, bd, h⟩⟩⟩⟩)⟩
    obtain ⟨i, hi, rfl⟩ := nI_of c
    have := hp.1.2.2.1
    exact absurd rfl (ht i ((nI_ltI hi (by omega)).mp c2))
theorem g_wordBytes {Q : Int32 → cS → Prop} {k n fl : Nat} {wp : List (Int64 × List (Nat × Nat))} {W : Nat → Nat} (g : gIx S ρ dp x so sd sg made B ix mg cm pr sn op fi w cc false) (hM : vwM made ix) (hk : ix.1[k]? = some n) (hf : fl < 2) (hw : wOk wp (fun c => pstOf (tlD (sg n) fl) c (sg n).length)) (hW : ∀ (i : Nat) (y : Int64 × List (Nat × Nat)), wp[i]? = some y → y.1 = lN (W i) ∧ W i < 2 ^ 63) (h : Q (nI (wbN W wp.length)) S) : k_X11_wordBytes Q dp x (nI k) (nI fl) S := by
  unfold k_X11_wordBytes
  refine ⟨g.1.1, g_wordsAt g hM hk hf hw (fun wl gw => ?_)⟩
  obtain ⟨ws, m, w1, w2, w3, w4⟩ := id gw
  have hw8 : ws.length < 8000 := by have := w1.2.2.1; have := w1.2.2.2.1; omega
  unfold k_X11_wordBytes_13L
  refine lfp_cnt wp.length (fun k y => y = (wl, nI (wbN W k), nI k, S)) ?_ rfl
  rintro P k _ hk rfl ih
  show k_X11_wordBytes_13 Q dp _ wl (nI (wbN W k)) (nI k) S
  unfold k_X11_wordBytes_13
  refine ⟨w1.1, q_lsize w1 (pk_le ws.length k (fun z => ?_) (fun z => ?_))⟩
  · obtain rfl : k = wp.length := by omega
    exact h
  · obtain ⟨p, hp⟩ := get_ex z
    obtain ⟨y, hy⟩ := get_ex (l := wp) (k := k) (by omega)
    have a1 := (w4 _ p y hp hy).1
    obtain ⟨e1, l1⟩ := hW _ y hy
    refine ⟨w1.1, q_lget w1 hp ⟨a1.1.1, a1.1.1, ?_⟩⟩
    rw [a1.2.1, e1]
    refine q_lengthOf l1 (q_sharedAt gw hW (by omega) ?_)
    rintro _ rfl _ rfl
    have hl12 := lnW_le (W k)
    rw [nI_add 2 (lnW (W k))]
    by_cases c : shA W k ≤ 2 + lnW (W k)
    · rw [pk_sub c, nI_add, nI_add]
      exact ih _ (by omega) rfl
    · exfalso
      unfold shA at c
      by_cases c0 : k = 0
      · rw [if_pos c0] at c; omega
      · rw [if_neg c0] at c
        have h1 : shN (W (k - 1)) (W k) ≤ lnW (W k) := by
          rcases Nat.lt_or_ge (lnW (W k)) (shN (W (k - 1)) (W k)) with q | q
          · have h1 := fst0_pre (q := fun j => !(decide (0 < dg (W (k - 1)) j) && (dg (W (k - 1)) j == dg (W k) j))) (n := 12) q
            have h12 := shN_le2 (W (k - 1)) (W k)
            have h2 := lnW_end (w := W k) (by omega)
            rw [Bool.not_eq_false', Bool.and_eq_true] at h1
            have h3 := of_decide_eq_true h1.1
            have h4 := beq_iff_eq.mp h1.2
            omega
          · exact q
        omega
end QX
