/-! the class: questions about the index -/
/-- words that rise are just their set -/
theorem srt_uniq {α : Type} (f : α → Int) : ∀ (l m : List α), l.Pairwise (fun x y => f x < f y) → m.Pairwise (fun x y => f x < f y) → (∀ x, x ∈ l ↔ x ∈ m) → l = m
  | [], [], _, _, _ => rfl
  | [], b :: m, _, _, h => absurd ((h b).mpr (List.mem_cons_self ..)) List.not_mem_nil
  | a :: l, [], _, _, h => absurd ((h a).mp (List.mem_cons_self ..)) List.not_mem_nil
  | a :: l, b :: m, hl, hm, h => by
    rw [List.pairwise_cons] at hl hm
    have hab : a = b := by
      rcases List.mem_cons.mp ((h a).mp (List.mem_cons_self ..)) with e | e
      · exact e
      · rcases List.mem_cons.mp ((h b).mpr (List.mem_cons_self ..)) with e2 | e2
        · exact e2.symm
        · have h1 := hm.1 a e
          have h2 := hl.1 b e2
          omega
    subst hab
    have := srt_uniq f l m hl.2 hm.2 (fun x => by
      have hx := h x
      rw [List.mem_cons, List.mem_cons] at hx
      constructor
      · intro hin
        rcases hx.mp (Or.inr hin) with e | e
        · subst e; have := hl.1 x hin; omega
        · exact e
      · intro hin
        rcases hx.mpr (Or.inr hin) with e | e
        · subst e; have := hm.1 x hin; omega
        · exact e)
    rw [this]
theorem srtW_pw {wp : List (Int64 × List (Nat × Nat))} (h : srtW wp) : wp.Pairwise (fun x y => x.1.toInt < y.1.toInt) := by
  rw [List.pairwise_iff_getElem]
  intro i j hi hj hij
  exact h i j _ _ hij (List.getElem?_eq_getElem hi) (List.getElem?_eq_getElem hj)
theorem wOk_mem {wp : List (Int64 × List (Nat × Nat))} {PQ : Int64 → List (Nat × Nat)} (h : wOk wp PQ) (x : Int64 × List (Nat × Nat)) : x ∈ wp ↔ x.2 = PQ x.1 ∧ PQ x.1 ≠ [] := by
  constructor
  · intro hx
    obtain ⟨j, hj⟩ := List.getElem?_of_mem hx
    exact h.2.1 j x hj
  · rintro ⟨h1, h2⟩
    obtain ⟨j, y, hj, e⟩ := h.2.2 x.1 h2
    have h3 := (h.2.1 j y hj).1
    have : y = x := Prod.ext e (by rw [h3, h1, e])
    exact this ▸ List.mem_of_getElem? hj
theorem wOk_uniq {wp wp' : List (Int64 × List (Nat × Nat))} {PQ : Int64 → List (Nat × Nat)} (h : wOk wp PQ) (h' : wOk wp' PQ) : wp = wp' :=
  srt_uniq (fun x => x.1.toInt) wp wp' (srtW_pw h.1) (srtW_pw h'.1) (fun x => (wOk_mem h x).trans (wOk_mem h' x).symm)
/-- the signs with which both words begin -/
def shN (a b : Nat) : Nat := fst0 (fun k => !(decide (0 < dg a k) && (dg a k == dg b k))) 12
/-- the words W: what the j-th shares with the one ahead of it -/
def shA (W : Nat → Nat) (j : Nat) : Nat := if j = 0 then 0 else shN (W (j - 1)) (W j)
/-- the bytes of the first words -/
noncomputable def wbN (W : Nat → Nat) : Nat → Nat
  | 0 => 0
  | j + 1 => wbN W j + (2 + lnW (W j) - shA W j)
/-- the sign of a word -/
def leN (w : Nat) (y : Int32) : Nat := if dgI w y = 0 then 32 else if dgI w y ≤ 10 then 48 + dgI w y - 1 else 97 + dgI w y - 11
theorem leN_lt (w : Nat) (y : Int32) : leN w y < 128 := by
  have := dgI_lt w y
  unfold leN
  split
  · decide
  · split <;> omega
theorem c16 {t : Nat} (h : t < 128) : ((nI t).toUInt32 % 65536).toInt32 = nI t := by
  have : ∀ j : Fin 128, ((nI j.val).toUInt32 % 65536).toInt32 = nI j.val := by decide +kernel
  exact this ⟨t, h⟩
theorem isC_n {t : Nat} (h : t < 128) : isC (nI t) := by
  unfold isC
  exact congrArg Value.int (c16 h)
section QX
variable {S T : cS} {ρ ρ' : Nat → Nat} {dp x made : Nat} {so : Nat → Nat} {sd : Nat → List Nat} {sg : Nat → List Dc} {B : List Dc} {ix : Vw} {mg : Option (Vw × Nat)} {cm pr : Option Vw} {sn : List (Nat × Vw)} {op fi w : Nat} {cc : Option Nat} {off : Bool}
theorem shN_le (a b : Nat) : shN a b ≤ lnW a := by
  rcases Nat.lt_or_ge (lnW a) (shN a b) with z | z
  · have h1 := fst0_pre (q := fun k => !(decide (0 < dg a k) && (dg a k == dg b k))) (n := 12) z
    have h12 : shN a b ≤ 12 := fst0_le _ _
    have h2 := lnW_end (w := a) (by omega)
    rw [h2] at h1
    exact absurd h1 (by simp)
  · exact z
theorem shN_le2 (a b : Nat) : shN a b ≤ 12 := fst0_le _ _
theorem g_segments {Q : Int32 → cS → Prop} (g : gIx S ρ dp x so sd sg made B ix mg cm pr sn op fi w cc false) (h : Q (nI ix.1.length) S) : k_X11_segments Q dp x S := by
  obtain ⟨⟨hx, hρ, hdp⟩, gs, gb, ⟨V, e355, gv⟩, ⟨go, e357⟩, gc, gp, gl, i361, i366, i367, i368, i369, i370⟩ := g
  unfold k_X11_segments
  exact ⟨hx, q_checkUp hx i370 ⟨hx, V, e355, (g_vA gv).1, g_vsize gv h⟩⟩
theorem g_due {Q : Int32 → cS → Prop} (g : gIx S ρ dp x so sd sg made B ix mg cm pr sn op fi w cc false) (h1 : ∀ k, dueI sg ix.1 k → (∀ i, i < k → ¬ dueI sg ix.1 i) → Q (nI k) S) (h2 : (∀ i, ¬ dueI sg ix.1 i) → Q (-1) S) : k_X11_due Q dp x S := by
  obtain ⟨⟨hx, hρ, hdp⟩, gs, gb, ⟨V, e355, gv⟩, ⟨go, e357⟩, gc, gp, gl, i361, i366, i367, i368, i369, i370⟩ := g
  obtain ⟨hl, vm, hs', gx⟩ := gv
  unfold k_X11_due
  exact ⟨hx, q_checkUp hx i370 ⟨hx, V, e355, gx.1.1, q_vdue gx.1 h1 h2⟩⟩
theorem g_holdingAt {Q : Nat → cS → Prop} {k n : Nat} (g : gIx S ρ dp x so sd sg made B ix mg cm pr sn op fi w cc false) (hM : vwM made ix) (hk : ix.1[k]? = some n) (h : ∀ y r, hoT S y (so n) r (sg n).length (ix.2 n) → gSg S ρ dp (so n) n (sd n) (sg n) → Q y S) : k_X11_holdingAt Q dp x (nI k) S := by
  obtain ⟨⟨hx, hρ, hdp⟩, gs, gb, ⟨V, e355, gv⟩, ⟨go, e357⟩, gc, gp, gl, i361, i366, i367, i368, i369, i370⟩ := g
  obtain ⟨hl, vm, hs', gx⟩ := gv
  have hlen := vw_len gx.1
  obtain ⟨y, hy⟩ := get_ex (l := hs') (k := k) (by have := get_lt hk; omega)
  obtain ⟨-, -, -, r, ho⟩ := gx.1.2.2.2.2 k y n hy hk
  unfold k_X11_holdingAt
  refine ⟨hx, V, e355, gx.1.1, q_vat gx.1 hy ⟨fun c => absurd c (by simp), fun b hb => ⟨hx, fun c => absurd i370 c, fun _ => ?_⟩⟩⟩
  obtain rfl : y = b := Option.some.inj hb
  exact h y r ho (gs n (hM n (List.mem_of_getElem? hk)))
theorem x_holdingAt {Q : cS → Prop} {mc ms : Nat} {y : Int32} (g : gIx S ρ dp x so sd sg made B ix mg cm pr sn op fi w cc off) (h0 : off = true ∨ ∀ k, k < ix.1.length → y ≠ nI k) (hm : 1 ≤ mc) (hs : 6 ≤ ms) (h : Q S) : kx_X11_holdingAt "java/lang/IndexOutOfBoundsException" Q dp mc ms x y S := by
  obtain ⟨⟨hx, hρ, hdp⟩, gs, gb, ⟨V, e355, gv⟩, ⟨go, e357⟩, gc, gp, gl, i361, i366, i367, i368, i369, i370⟩ := g
  obtain ⟨hl, vm, hs', gx⟩ := gv
  have hlen := vw_len gx.1
  have bd : (0 + 1 ≤ mc ∧ 0 + 6 ≤ ms) := ⟨by omega, by omega⟩
  unfold kx_X11_holdingAt
  refine ⟨hx, V, e355, gx.1.1, ⟨by omega, by omega⟩, ?_⟩
  by_cases c : ∃ k, k < ix.1.length ∧ y = nI k
  · obtain ⟨k, hk, rfl⟩ := c
    obtain ⟨z, hz⟩ := get_ex (l := hs') (k := k) (by omega)
    refine q_vat gx.1 hz ⟨fun c => absurd c (by simp), fun b hb => ⟨hx, fun _ => ⟨rfl, bd, h⟩, fun c => ?_⟩⟩
    rcases h0 with q | q
    · rw [i370, q] at c; exact absurd c (by decide)
    · exact absurd rfl (q k hk)
  · exact q_vatN gx.1 (fun k hk e => c ⟨k, hk, e⟩) ⟨fun _ => ⟨hx, fun _ => ⟨rfl, bd, h⟩, fun _ => ⟨rfl, bd, h⟩⟩, fun b hb => absurd hb (by simp)⟩
theorem g_segmentAt {Q : Int32 → cS → Prop} {k n : Nat} (g : gIx S ρ dp x so sd sg made B ix mg cm pr sn op fi w cc false) (hM : vwM made ix) (hk : ix.1[k]? = some n) (h : Q (nI n) S) : k_X11_segmentAt Q dp x (nI k) S := by
  unfold k_X11_segmentAt
  refine ⟨g.1.1, g_holdingAt g hM hk (fun y r ho gS => ⟨ho.1, so n, ho.2.1, gS.1.1, ?_⟩)⟩
  rw [gS.1.2.1]; exact h
theorem g_live {Q : Int32 → cS → Prop} {k n : Nat} (g : gIx S ρ dp x so sd sg made B ix mg cm pr sn op fi w cc false) (hM : vwM made ix) (hk : ix.1[k]? = some n) (h : Q (nI (cntB (ix.2 n) (sg n).length)) S) : k_X11_live Q dp x (nI k) S := by
  unfold k_X11_live
  exact ⟨g.1.1, g_holdingAt g hM hk (fun y r ho gS => ⟨ho.1, q_liveCount ho h⟩)⟩
theorem g_keyAt {Q : Int32 → cS → Prop} {k n j : Nat} {d : Dc} (g : gIx S ρ dp x so sd sg made B ix mg cm pr sn op fi w cc false) (hM : vwM made ix) (hk : ix.1[k]? = some n) (hj : (sg n)[j]? = some d) (h : Q (nI (dK d)) S) : k_X11_keyAt Q dp x (nI k) (nI j) S := by
  unfold k_X11_keyAt
  refine ⟨g.1.1, g_holdingAt g hM hk (fun y r ho gS => ?_)⟩
  have hN := gS.2.2.2.2.2.1
  have hjl := get_lt hj
  obtain ⟨s1, s2, s3, ⟨dl, md, s4, s5⟩, s6⟩ := gS.1
  obtain ⟨D, hD⟩ := get_ex (l := sd n) (k := j) (by omega)
  obtain ⟨d1, d2, d3⟩ := s6 j D d hD hj
  refine ⟨ho.1, so n, ho.2.1, w_pos j ⟨s1, q_sgSize gS.1 (pk_lt j (sg n).length (fun _ => ⟨s1, dl, s4, s5.1, q_lget s5 hD ⟨d1, d1, ?_⟩⟩) (fun z => absurd z (by omega)))⟩⟩
  rw [d2]; exact h
theorem x_segmentAt {Q : cS → Prop} {mc ms : Nat} {y : Int32} (g : gIx S ρ dp x so sd sg made B ix mg cm pr sn op fi w cc off) (h0 : off = true ∨ ∀ k, k < ix.1.length → y ≠ nI k) (hm : 1 ≤ mc) (hs : 6 ≤ ms) (h : Q S) : kx_X11_segmentAt "java/lang/IndexOutOfBoundsException" Q dp mc ms x y S := by
  unfold kx_X11_segmentAt
  exact ⟨g.1.1, Or.inr ⟨mc, ms, ⟨by omega, by omega⟩, x_holdingAt g h0 hm hs h⟩⟩
theorem x_live {Q : cS → Prop} {mc ms : Nat} {y : Int32} (g : gIx S ρ dp x so sd sg made B ix mg cm pr sn op fi w cc off) (h0 : off = true ∨ ∀ k, k < ix.1.length → y ≠ nI k) (hm : 1 ≤ mc) (hs : 6 ≤ ms) (h : Q S) : kx_X11_live "java/lang/IndexOutOfBoundsException" Q dp mc ms x y S := by
  unfold kx_X11_live
  exact ⟨g.1.1, Or.inr ⟨mc, ms, ⟨by omega, by omega⟩, x_holdingAt g h0 hm hs h⟩⟩
theorem x_keyAt {Q : cS → Prop} {mc ms : Nat} {y z : Int32} (g : gIx S ρ dp x so sd sg made B ix mg cm pr sn op fi w cc off) (hM : vwM made ix) (h0 : off = true ∨ (∀ k, k < ix.1.length → y ≠ nI k) ∨ ∃ k n, ix.1[k]? = some n ∧ y = nI k ∧ ∀ j, j < (sg n).length → z ≠ nI j) (hm : 1 ≤ mc) (hs : 6 ≤ ms) (h : Q S) : kx_X11_keyAt "java/lang/IndexOutOfBoundsException" Q dp mc ms x y z S := by
  have bd : (0 + 1 ≤ mc ∧ 0 + 6 ≤ ms) := ⟨by omega, by omega⟩
  unfold kx_X11_keyAt
  cases off with
  | true => exact ⟨g.1.1, Or.inr ⟨mc, ms, ⟨by omega, by omega⟩, x_holdingAt g (Or.inl rfl) hm hs h⟩⟩
  | false =>
    rcases h0 with q | q | ⟨k, n, hk, rfl, hz⟩
    · exact absurd q (by decide)
    · exact ⟨g.1.1, Or.inr ⟨mc, ms, ⟨by omega, by omega⟩, x_holdingAt g (Or.inr q) hm hs h⟩⟩
    · refine ⟨g.1.1, Or.inl ⟨⟨by omega, by omega⟩, g_holdingAt g hM hk (fun y r ho gS => ⟨ho.1, so n, ho.2.1, fun _ => ⟨rfl, bd, h⟩, fun c => ⟨gS.1.1, ⟨by omega, by omega⟩, q_sgSize gS.1 ⟨fun c2 => ?_, fun _ => ⟨rfl, bd, h⟩⟩⟩⟩)⟩⟩
      obtain ⟨j, hj, rfl⟩ := nI_of c
      have hN := gS.2.2.2.2.2.1
      exact absurd rfl (hz j ((nI_ltI hj (by omega)).mp c2))
end QX
