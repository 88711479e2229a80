/-! the class: postings of a token, rows of places -/
/-- cells of F were written; objects of postings keep all but what is read next -/
def fF (S T : cS) (ρ : Nat → Nat) (F : Nat → Prop) : Prop := cSub S T F ∧ ∀ a, a ∈ cL S → ρ a = 80 → (∀ q, q < 167 → ci T q a = ci S q a) ∧ (∀ q, cr T q a = cr S q a) ∧ ∀ q, cw T q a = cw S q a
/-- the places of a token in a document of a segment -/
def mF (L : List Dc) (fl : Nat) (c : Int64) (j : Nat) : Nat := pmk c (tlD L fl j)
section FF
variable {S T U : cS} {ρ : Nat → Nat} {F G H : Nat → Prop} {dp : Nat}
theorem fF_rf : fF S S ρ F := ⟨sub_rf, fun _ _ _ => ⟨fun _ _ => rfl, fun _ => rfl, fun _ => rfl⟩⟩
theorem fF_tr (h : fF S T ρ F) (g : fF T U ρ G) (hG : ∀ a, a ∈ cL S → G a → F a) : fF S U ρ F := by
  refine ⟨sub_tr h.1 g.1 hG, fun a ha e => ?_⟩
  obtain ⟨a1, a2, a3⟩ := h.2 a ha e
  obtain ⟨b1, b2, b3⟩ := g.2 a (h.1 a ha).1.1 e
  exact ⟨fun q hq => (b1 q hq).trans (a1 q hq), fun q => (b2 q).trans (a2 q), fun q => (b3 q).trans (a3 q)⟩
theorem fF_wk (h : fF S T ρ F) (hG : ∀ a, a ∈ cL S → F a → G a) : fF S T ρ G := ⟨sub_wk h.1 hG, h.2⟩
theorem fF_sub (h : cSub S T F) (hF : ∀ a, a ∈ cL S → F a → ρ a ≠ 80) : fF S T ρ F := ⟨h, fun a ha e => by
  have hn : ¬ F a := fun w => hF a ha w e
  exact ⟨fun q _ => (((h a ha).2 hn).1 q).1, fun q => (((h a ha).2 hn).1 q).2.1, fun q => (((h a ha).2 hn).1 q).2.2⟩⟩
theorem fF_fk {M : List Nat} (h : fF S T ρ F) (hF : ∀ a, a ∈ cL S → F a → ρ a ∈ M) : fk S T ρ ρ M := ⟨⟨sub_wk h.1 hF, fun _ _ _ => rfl⟩, fun a ha e => ⟨e, h.2 a ha e⟩⟩
theorem fF_Sp {p b : Nat} (h : pSp S T p b) (hb : ρ b ≠ 80) : fF S T ρ (fun z => z = p ∨ z = b) := by
  refine ⟨h.1, fun a ha e => ?_⟩
  by_cases c : a = p
  · subst c; exact ⟨h.2.1, h.2.2.1, h.2.2.2⟩
  · have hn : ¬ (a = p ∨ a = b) := fun w => w.elim c (fun w => hb (by rw [← w]; exact e))
    exact ⟨fun q _ => (((h.1 a ha).2 hn).1 q).1, fun q => (((h.1 a ha).2 hn).1 q).2.1, fun q => (((h.1 a ha).2 hn).1 q).2.2⟩
theorem q_fill {Q : cS → Prop} {b n : Nat} {x : Int32} (bA : cA S b 14) (bn : cn S b = n) (hn : n < 2 ^ 20) (h : ∀ T, cSub S T (fun z => z = b) → (∀ j, j < n → cI T b j = x) → Q T) : k_J7_fill_53178 Q dp b x S := by
  unfold k_J7_fill_53178
  refine ⟨bA, ?_⟩
  rw [bn]
  rintro _ rfl
  unfold k_J7_fill_53178_5L
  refine lfp_cnt n (fun k y => ∃ S', cSub S S' (fun z => z = b) ∧ (∀ j, j < k → cI S' b j = x) ∧ y = (b, x, nI k, nI n, S')) ?_ ⟨S, sub_rf, fun j hj => absurd hj (Nat.not_lt_zero j), rfl⟩
  rintro P k _ hk ⟨S', s, hj, rfl⟩ ih
  show k_J7_fill_53178_5 Q dp _ b x (nI k) (nI n) S'
  unfold k_J7_fill_53178_5
  refine pk_le n k (fun z => ?_) (fun z => ⟨cX_mk (sub_A1 s bA) ((sub_cn s bA).trans bn) (by omega) z rfl, fun S2 e2 => ?_⟩)
  · obtain rfl : k = n := by omega
    exact h S' s hj
  · rintro _ rfl
    rw [nI_clamp (show k < 2 ^ 31 by omega)] at e2
    rw [nI_add]
    refine ih _ z ⟨S2, sub_tr s (e2 ▸ sub_SI rfl) (fun _ _ z => z), fun j hj2 => ?_, rfl⟩
    by_cases c : j = k
    · subst c; exact heI_SI_s e2
    · exact heI_SI_k e2 c (hj j (by omega))
theorem q_tokenCount {Q : Int32 → cS → Prop} {κ p : Nat} {d : Nd} {fl : Bool} (g : ndT S ρ κ p d fl) (h : Q (nI (nT d).length) S) : k_X4_tokenCount Q dp p S := by
  obtain ⟨g1, g2, -, -, ⟨a, a1, a2, a3, a4, a5⟩, -⟩ := g
  unfold k_X4_tokenCount
  refine ⟨g1, a, a1, a2, ?_⟩
  rw [a3]; exact h
/-- a leaf's tokens -/
def tkC (d : Nd) (t : Nat) : Int64 := ((nT d).getD t (0, 0)).1
theorem q_tokenAt {Q : Int64 → cS → Prop} {κ p t : Nat} {d : Nd} {fl : Bool} (g : ndT S ρ κ p d fl) (ht : t < (nT d).length) (hl : (nT d).length ≤ 6) (h : Q (tkC d t) S) : k_X4_tokenAt Q dp p (nI t) S := by
  obtain ⟨g1, g2, -, -, ⟨a, a1, a2, a3, a4, a5⟩, -⟩ := g
  unfold k_X4_tokenAt
  refine w_pos t ⟨g1, a, a1, a2, ?_⟩
  rw [a3]
  refine pk_lt t (nT d).length (fun _ => ⟨g1, a, a1, cX_mk a2 a3 (by omega) ht rfl, ?_⟩) (fun z => absurd z (by omega))
  have e : (nT d)[t]? = some ((nT d).getD t (0, 0)) := by rw [List.getD_eq_getElem?_getD, List.getElem?_eq_getElem ht]; rfl
  rw [nI_clamp (by omega), a5 t _ e]
  exact h
theorem q_postingsOf {Q : Option Nat → cS → Prop} {A n fl : Nat} {ds : List Nat} {L : List Dc} {c : Int64} (g : gSg S ρ dp A n ds L) (hf : fl < 2) (h0 : pstOf (tlD L fl) c L.length = [] → Q none S) (h1 : ∀ p, pB S p (encN (nmN 0 (pstOf (tlD L fl) c L.length))) → ci S 163 p = nI (pstOf (tlD L fl) c L.length).length → okP 0 (pstOf (tlD L fl) c L.length) → ρ p = 80 → Q (some p) S) : k_X8_postingsOf Q dp A (nI fl) c S := by
  obtain ⟨g1, g2, g3, g4, g5, g6, g7⟩ := g
  obtain ⟨wl, wp, w1, ⟨ws, m, w2, w3, w4, w5⟩, w6, w7, w8⟩ := g7 fl hf
  have hw8 : ws.length < 8000 := by have := w2.2.2.1; have := w2.2.2.2.1; omega
  unfold k_X8_postingsOf
  refine ⟨g1.1, q_wordsOf g1.1 hf w1 (q_placeOf w2 w4 (fun j p x hp hx => (w5 j p x hp hx).1.2.1) w6 (fun k hk => ⟨w2.1, q_lsize w2 ?_⟩))⟩
  have hk1 := hk.1
  refine pk_le ws.length k (fun z => ?_) (fun z => ?_)
  · -- no word is as great
    refine h0 ?_
    by_cases e : pstOf (tlD L fl) c L.length = []
    · exact e
    · obtain ⟨j, x, hx, rfl⟩ := w8 c e
      exact absurd (hk.2.1 j x (by have := get_lt hx; omega) hx) (Int.lt_irrefl _)
  · obtain ⟨p, hp⟩ := get_ex z
    obtain ⟨x, hx⟩ := get_ex (l := wp) (k := k) (by omega)
    obtain ⟨⟨b1, b2, b3, b4⟩, b5, b6⟩ := w5 k p x hp hx
    refine ⟨w2.1, q_lget w2 hp ⟨b1.1, b1.1, ?_⟩⟩
    rw [b2]
    refine w_l (fun e => ?_) (fun e => ⟨w2.1, q_lget w2 hp ⟨b1.1, ?_⟩⟩)
    · refine h0 ?_
      by_cases e2 : pstOf (tlD L fl) c L.length = []
      · exact e2
      · obtain ⟨j, y, hy, hyc⟩ := w8 c e2
        rcases Nat.lt_trichotomy j k with q | q | q
        · have := hk.2.1 j y q hy
          rw [hyc] at this; exact absurd this (Int.lt_irrefl _)
        · subst q
          rw [hx] at hy
          exact absurd ((Option.some.inj hy) ▸ hyc) e
        · have a1 := w6 k j x y q hx hy
          have a2 := hk.2.2 k x (Nat.le_refl k) hx
          rw [hyc] at a1
          exact absurd (Int.lt_of_le_of_lt a2 a1) (Int.lt_irrefl _)
    · obtain ⟨c1, c2⟩ := w7 k x hx
      subst e
      replace c1 : x.2 = pstOf (tlD L fl) x.1 L.length := c1
      rw [c1] at b1 b3 b4
      exact h1 p b1 b3 b4 b5
end FF
/-- what postings spread -/
theorem spR_app (l m : List (Nat × Nat)) (R : Nat → Nat) : spR (l ++ m) R = spR m (spR l R) := by unfold spR; exact List.foldl_append
theorem spR_pst {TL : Nat → List (Int64 × Nat)} {c : Int64} {R : Nat → Nat} : ∀ (K j : Nat), spR (pstOf TL c K) R j = if j < K then R j ||| pmk c (TL j) else R j
  | 0, j => by rw [pstOf, if_neg (Nat.not_lt_zero j)]; rfl
  | K + 1, j => by
    rw [pstOf, spR_app]
    by_cases e : pmk c (TL K) = 0
    · rw [if_pos e]
      show spR (pstOf TL c K) R j = _
      rw [spR_pst K j]
      by_cases q : j = K
      · subst q; rw [if_neg (Nat.lt_irrefl j), if_pos (Nat.lt_succ_self j), e, Nat.or_zero]
      · by_cases q2 : j < K
        · rw [if_pos q2, if_pos (by omega)]
        · rw [if_neg q2, if_neg (by omega)]
    · rw [if_neg e]
      show upR (spR (pstOf TL c K) R) K (spR (pstOf TL c K) R K ||| pmk c (TL K)) j = _
      by_cases q : j = K
      · subst q; rw [upR_s, if_pos (Nat.lt_succ_self j), spR_pst j j, if_neg (Nat.lt_irrefl j)]
      · rw [upR_n q, spR_pst K j]
        by_cases q2 : j < K
        · rw [if_pos q2, if_pos (by omega)]
        · rw [if_neg q2, if_neg (by omega)]
theorem mF_out {L : List Dc} {fl j : Nat} {c : Int64} (h : L.length ≤ j) : mF L fl c j = 0 := by
  unfold mF tlD
  rw [List.getElem?_eq_none h]
  rfl
theorem spR_mF {L : List Dc} {fl j : Nat} {c : Int64} {R : Nat → Nat} : spR (pstOf (tlD L fl) c L.length) R j = R j ||| mF L fl c j := by
  rw [spR_pst]
  by_cases q : j < L.length
  · rw [if_pos q]; rfl
  · rw [if_neg q, mF_out (by omega), Nat.or_zero]
theorem mF_lt {L : List Dc} {fl j : Nat} {c : Int64} (h : ∀ d, d ∈ L → okD d) : mF L fl c j < 2 ^ 20 := pmk_lt (tlD_ok h fl j).1.2.1
/-- documents of postings are those of the segment -/
theorem pst_lt {TL : Nat → List (Int64 × Nat)} {c : Int64} : ∀ {K : Nat}, ∀ x, x ∈ pstOf TL c K → x.1 < K
  | 0, x, h => absurd h List.not_mem_nil
  | K + 1, x, h => by
    rw [pstOf] at h
    rcases List.mem_append.mp h with h | h
    · have := pst_lt x h; omega
    · by_cases e : pmk c (TL K) = 0
      · rw [if_pos e] at h; exact absurd h List.not_mem_nil
      · rw [if_neg e] at h; rw [List.mem_singleton.mp h]; exact Nat.lt_succ_self K
section SPD
variable {S T U : cS} {ρ : Nat → Nat} {dp : Nat}
/-- postings are spread over a row -/
theorem q_spreadS {Q : cS → Prop} {L : List Dc} {fl p b : Nat} {c : Int64} {R : Nat → Nat} (hK : L.length ≤ 100) (hb : pB S p (encN (nmN 0 (pstOf (tlD L fl) c L.length)))) (h163 : ci S 163 p = nI (pstOf (tlD L fl) c L.length).length) (hok : okP 0 (pstOf (tlD L fl) c L.length)) (bA : cA S b 14) (bn : cn S b = 100) (hR : ∀ k, k < 100 → cI S b k = nI (R k)) (h : ∀ T, pSp S T p b → (∀ k, k < 100 → cI T b k = nI (R k ||| mF L fl c k)) → Q T) : k_X5_spread Q dp p b S :=
  q_spread hb hok h163 bA bn (by decide) (fun x hx => Nat.lt_of_lt_of_le (pst_lt x hx) hK) hR (fun T v hT => h T v (fun k hk => by rw [hT k hk, spR_mF]))
end SPD
