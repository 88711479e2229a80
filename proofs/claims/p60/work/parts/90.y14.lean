/-! postings: bits are put -/
theorem capB_s (n : Nat) : capB (n + 1) = if n = 8 * capB n then 2 * capB n + 4 else capB n := rfl
theorem gB_s (n : Nat) : gB (n + 1) = gB n + (if n = 8 * capB n then 1 else 0) := rfl
theorem sG_s (n : Nat) : sG (n + 1) = sG n + (if n = 8 * capB n then 2 * capB n + 4 else 0) := rfl
/-- an object of postings with its bits -/
def pB (S : cS) (p : Nat) (l : List Bool) : Prop := cA S p 5 ∧ ci S 162 p = nI l.length ∧ l.length < 2 ^ 19 ∧ ∃ b, cr S 161 p = some b ∧ cA S b 13 ∧ cn S b = capB l.length ∧ ∀ k, k < capB l.length → cI S b k = sB (byV l k)
def pBF (S : cS) (p z : Nat) : Prop := z = p ∨ cr S 161 p = some z
/-- its bits change, nothing else -/
def pBv (S T : cS) (p : Nat) : Prop := cSub S T (pBF S p) ∧ (∀ z, pBF T p z → pBF S p z ∨ z ∉ cL S) ∧ (∀ q, q ≠ 162 → ci T q p = ci S q p) ∧ (∀ q, q ≠ 161 → cr T q p = cr S q p) ∧ ∀ q, cw T q p = cw S q p
section PB
variable {S T U : cS} {dp p : Nat} {l : List Bool}
theorem pBv_rf : pBv S S p := ⟨sub_rf, fun _ h => Or.inl h, fun _ _ => rfl, fun _ _ => rfl, fun _ => rfl⟩
theorem pBv_tr (h : pBv S T p) (g : pBv T U p) : pBv S U p := by
  obtain ⟨h1, h2, h3, h4, h5⟩ := h
  obtain ⟨g1, g2, g3, g4, g5⟩ := g
  refine ⟨sub_tr h1 g1 (fun a ha z => (h2 a z).elim id (fun q => absurd ha q)), fun z hz => ?_, fun q hq => (g3 q hq).trans (h3 q hq), fun q hq => (g4 q hq).trans (h4 q hq), fun q => (g5 q).trans (h5 q)⟩
  rcases g2 z hz with q | q
  · exact h2 z q
  · exact Or.inr (fun w => q (h1 z w).1.1)
theorem byV_lt {k : Nat} : byV l k < 256 := byF_lt
theorem q_pb74 {Q : cS → Prop} {R4 : Nat → Int32 → Int32 → Nat → Nat → cS → Prop} {x1 : Int32} {mc ms cd dd j : Nat} (hA : cA S p 5) (h162 : ci S 162 p = nI l.length) (h : ∀ T, T = cSi S 162 p (nI (l.length + 1)) → R4 p x1 (nM j) cd dd T) : k_X5_putBits_74 Q dp mc ms R4 p x1 (nI j) cd dd S := by
  unfold k_X5_putBits_74
  refine ⟨hA, hA, fun S4 e4 => ?_⟩
  rintro _ rfl
  rw [nI_m1]
  rw [h162, nI_add] at e4
  exact h S4 e4
/-- a bit is put where there is room -/
theorem q_pb43 {Q : cS → Prop} {R4 : Nat → Int32 → Int32 → Nat → Nat → cS → Prop} {mc ms cd dd j n b c : Nat} (hA : cA S p 5) (h162 : ci S 162 p = nI l.length) (hl : l.length < 2 ^ 19 - 1) (h161 : cr S 161 p = some b) (bA : cA S b 13) (bn : cn S b = c) (hc : l.length < 8 * c) (hc2 : c = capB (l.length + 1)) (hI : ∀ k, k < c → cI S b k = sB (byV l k)) (hn : n < 2 ^ 31) (hj : j < 32) (h : ∀ T, pBv S T p → pB T p (l ++ [n.testBit j]) → R4 p (nI n) (nM j) cd dd T) : k_X5_putBits_43 Q dp mc ms R4 p (nI n) (nI j) (nI (l.length / 8)) cd dd S := by
  have hcb : capB (l.length + 1) < 2 ^ 19 := by have := (cap_inv (l.length + 1)).2.1; omega
  have fin : ∀ (S1 T : cS), pBv S S1 p → cI S1 b = (fun k => sB (byV (l ++ [n.testBit j]) k)) ∨ (∀ k, k < c → cI S1 b k = sB (byV (l ++ [n.testBit j]) k)) → T = cSi S1 162 p (nI (l.length + 1)) → cr S1 161 p = some b → cA S1 b 13 → cn S1 b = c → R4 p (nI n) (nM j) cd dd T := by
    intro S1 T v hx e r1 b1 b2
    have s2 : cSub S1 T (pBF S1 p) := e ▸ sub_Si (Or.inl rfl)
    have v2 : pBv S1 T p := ⟨s2, fun z hz => Or.inl (by unfold pBF at hz ⊢; rw [show cr T 161 p = cr S1 161 p by rw [e]; rfl] at hz; exact hz), fun q hq => hi_Si_q e hq rfl, fun q _ => hr_Si e rfl, fun q => by rw [e]; rfl⟩
    have el : (l ++ [n.testBit j]).length = l.length + 1 := by rw [List.length_append]; rfl
    refine h T (pBv_tr v v2) ⟨sub_A1 v2.1 (sub_A1 v.1 hA), (hi_Si_s e).trans (by rw [el]), by rw [el]; omega, b, hr_Si e r1, sub_A1 v2.1 b1, (hn_Si e b2).trans (by rw [el]; exact hc2), fun k hk => ?_⟩
    rw [el, ← hc2] at hk
    rw [hI_Si e rfl]
    rcases hx with hx | hx
    · rw [hx]
    · exact hx k hk
  unfold k_X5_putBits_43
  refine w_b0 (n.testBit j) (fun c0 => ?_) (fun c1 => ?_) (nI_bit hn hj)
  · refine q_pb74 hA h162 (fun T e => fin S T pBv_rf (Or.inr (fun k hk => ?_)) e h161 bA bn)
    rw [byV_app, if_neg (by rw [c0]; exact fun z => absurd z.2 (by decide))]
    exact hI k hk
  · have hat : l.length / 8 < c := by omega
    have hX : cX S b 13 (nI (l.length / 8)) := cX_mk bA bn (by omega) hat rfl
    refine ⟨hA, b, h161, hX, hA, hX, ?_⟩
    rw [nI_clamp (by omega), h162, pk_andN (by omega) 3 (by decide), show (2 : Nat) ^ 3 = 8 from rfl, hI _ hat, sB_or byV_lt (Nat.mod_lt _ (by decide))]
    refine ⟨pk_vb _, fun S7 e7 => ?_⟩
    have s7 : cSub S S7 (pBF S p) := e7 ▸ sub_SI (Or.inr h161)
    have v7 : pBv S S7 p := ⟨s7, fun z hz => Or.inl (by unfold pBF at hz ⊢; rw [show cr S7 161 p = cr S 161 p by rw [e7]; rfl] at hz; exact hz), fun q hq => hi_SI e7 rfl, fun q _ => hr_SI e7 rfl, fun q => by rw [e7]; rfl⟩
    refine q_pb74 (sub_A1 s7 hA) (hi_SI e7 h162) (fun T e => fin S7 T v7 (Or.inr (fun k hk => ?_)) e (hr_SI e7 h161) (sub_A1 s7 bA) ((sub_cn s7 bA).trans bn))
    rw [hI_SI_e e7 rfl, byV_app]
    by_cases ek : k = l.length / 8
    · rw [if_pos ⟨ek, c1⟩, upR_e ek, ek]
    · rw [if_neg (fun z => ek z.1), upR_n ek]
      exact hI k hk
set_option maxHeartbeats 1000000 in
theorem q_putBits {Q : cS → Prop} {mc ms n w : Nat} (hp : pB S p l) (hn : n < 2 ^ 31) (hw : w < 32) (hl : l.length + w < 2 ^ 19) (hc : gB (l.length + w) ≤ gB l.length + mc) (hs : sG (l.length + w) ≤ sG l.length + ms) (h : ∀ T, pBv S T p → pB T p (l ++ bitsN n w) → Q T) : k_X5_putBits Q dp mc ms p (nI n) (nI w) S := by
  unfold k_X5_putBits
  rintro _ rfl
  unfold k_X5_putBits_4L
  refine lfp_cnt w (fun k y => ∃ S' d, pBv S S' p ∧ pB S' p (l ++ d) ∧ d.length = k ∧ d ++ bitsN n (w - k) = bitsN n w ∧ y = (p, nI n, nM (w - k), gB (l.length + k) - gB l.length, sG (l.length + k) - sG l.length, S')) ?_ ⟨S, [], pBv_rf, by rw [List.append_nil]; exact hp, rfl, rfl, by rw [Nat.add_zero, Nat.sub_self, Nat.sub_self, Nat.sub_zero]; rfl⟩
  rintro P k _ hk ⟨S', d, v, hb, hd, he, rfl⟩ ih
  show k_X5_putBits_4 Q dp mc ms _ p (nI n) (nM (w - k)) (gB (l.length + k) - gB l.length) (sG (l.length + k) - sG l.length) S'
  have el : (l ++ d).length = l.length + k := by rw [List.length_append, hd]
  have m0 := cap_mono l.length k
  have m1 := cap_mono (l.length + k) (w - k)
  rw [show l.length + k + (w - k) = l.length + w by omega] at m1
  unfold k_X5_putBits_4
  refine ⟨fun c => ?_, fun c => ?_⟩
  · have hkw : k = w := by
      rcases Nat.lt_or_ge k w with z | z
      · rw [show w - k = (w - k - 1) + 1 by omega, nM_s] at c
        exact absurd c (nI_pos (by omega))
      · omega
    subst hkw
    rw [Nat.sub_self] at he
    rw [show bitsN n 0 = [] from rfl, List.append_nil] at he
    rw [← he] at h
    exact ⟨⟨by omega, by omega⟩, h S' v hb⟩
  · have hkw : k < w := by
      rcases Nat.lt_or_ge k w with z | z
      · exact z
      · rw [show w - k = 0 by omega] at c
        exact absurd (by rw [nM_0]; decide) c
    obtain ⟨j, hj⟩ : ∃ j, w - k = j + 1 := ⟨w - k - 1, by omega⟩
    rw [hj, nM_s]
    have e1 : bitsN n (w - k) = n.testBit j :: bitsN n j := by rw [hj]; rfl
    have nxt : ∀ (T : cS) (cd dd : Nat), pBv S T p → pB T p (l ++ d ++ [n.testBit j]) → cd = gB (l.length + (k + 1)) - gB l.length → dd = sG (l.length + (k + 1)) - sG l.length → P (p, nI n, nM j, cd, dd, T) := by
      rintro T _ _ vT bT rfl rfl
      refine ih _ hkw ⟨T, d ++ [n.testBit j], vT, by rw [← List.append_assoc]; exact bT, by rw [List.length_append, hd]; rfl, ?_, by rw [show w - (k + 1) = j by omega]⟩
      rw [show w - (k + 1) = j by omega, ← he, e1, List.append_assoc]; rfl
    obtain ⟨hA, h162, hl2, b, h161, bA, bn, hI⟩ := hb
    rw [el] at h162 bn hI hl2
    have inv := cap_inv (l.length + k)
    have hcb : capB (l.length + k) < 2 ^ 18 := by omega
    have s1 := (cap_mono (l.length + (k + 1)) (w - (k + 1)))
    rw [show l.length + (k + 1) + (w - (k + 1)) = l.length + w by omega] at s1
    refine ⟨hA, ?_⟩
    rw [h162, nI_shr (by omega) (by decide)]
    rintro _ rfl
    rw [show (l.length + k) / 2 ^ 3 = (l.length + k) / 8 from rfl]
    refine ⟨hA, b, h161, bA, pk_lt ((l.length + k) / 8) (capB (l.length + k)) (fun z => ?_) (fun z => ?_) rfl (by rw [bn])⟩
    · have ns : l.length + k ≠ 8 * capB (l.length + k) := by omega
      have ec : capB (l.length + (k + 1)) = capB (l.length + k) := (capB_s (l.length + k)).trans (if_neg ns)
      have eg : gB (l.length + (k + 1)) = gB (l.length + k) := (gB_s (l.length + k)).trans (by rw [if_neg ns]; rfl)
      have es : sG (l.length + (k + 1)) = sG (l.length + k) := (sG_s (l.length + k)).trans (by rw [if_neg ns]; rfl)
      have := q_pb43 (l := l ++ d) (Q := Q) (R4 := fun b0 b1 b2 b3 b4 S => P (b0, b1, b2, b3, b4, S)) (mc := mc) (ms := ms) (cd := gB (l.length + k) - gB l.length) (dd := sG (l.length + k) - sG l.length) (j := j) (n := n) (dp := dp) hA (by rw [el]; exact h162) (by rw [el]; omega) h161 bA bn (by rw [el]; omega) (by rw [el]; exact ec.symm) hI hn (by omega) (fun T vT bT => nxt T _ _ (pBv_tr v vT) bT (by rw [eg]) (by rw [es]))
      rw [el] at this
      exact this
    · have ns : l.length + k = 8 * capB (l.length + k) := by omega
      have ec : capB (l.length + (k + 1)) = 2 * capB (l.length + k) + 4 := (capB_s (l.length + k)).trans (if_pos ns)
      have eg : gB (l.length + (k + 1)) = gB (l.length + k) + 1 := (gB_s (l.length + k)).trans (by rw [if_pos ns])
      have es : sG (l.length + (k + 1)) = sG (l.length + k) + (2 * capB (l.length + k) + 4) := (sG_s (l.length + k)).trans (by rw [if_pos ns])
      have e8 : (l.length + k) / 8 = capB (l.length + k) := by omega
      refine ⟨hA, b, h161, 1, 2 * capB (l.length + k) + 4, by omega, by omega, ?_⟩
      rw [pk_mul, nI_add, e8, Nat.mul_comm (capB (l.length + k)) 2]
      refine q_copyB bA bn (fun i hi => ⟨_, hI i hi⟩) (by omega) (by omega) (Nat.le_refl _) (Nat.le_refl _) (fun S7 q hq s7 q1 q2 q3 q4 => ⟨sub_A1 s7 hA, fun S8 e8' => ?_⟩)
      have s8 : cSub S' S8 (pBF S' p) := sub_tr (sub_wk s7 (fun _ _ z => z.elim)) (e8' ▸ sub_Sr (F := pBF S' p) (Or.inl rfl)) (fun _ _ z => z)
      have i8 : ∀ x, ci S8 x p = ci S' x p := fun x => hi_Sr e8' (sub_ci s7 hA (fun z => z))
      have r8 : cr S8 161 p = some q := hr_Sr_s e8'
      have v8 : pBv S' S8 p := ⟨s8, fun z hz => by
        rcases hz with y | y
        · exact Or.inl (Or.inl y)
        · rw [r8] at y
          exact Or.inr (Option.some.inj y ▸ hq), fun x _ => i8 x, fun x hx => hr_Sr_q e8' hx (sub_cr s7 hA (fun z => z)), fun x => (show cw S8 x p = cw S7 x p by rw [e8']; rfl).trans (sub_cw s7 hA (fun z => z))⟩
      have := q_pb43 (l := l ++ d) (S := S8) (Q := Q) (R4 := fun b0 b1 b2 b3 b4 S => P (b0, b1, b2, b3, b4, S)) (mc := mc) (ms := ms) (cd := gB (l.length + k) - gB l.length + 1) (dd := sG (l.length + k) - sG l.length + (2 * capB (l.length + k) + 4)) (j := j) (n := n) (dp := dp) (sub_A1 s8 hA) (by rw [el]; exact (i8 _).trans h162) (by rw [el]; omega) r8 ⟨hm_Sr e8' q1.1, hk_Sr e8' q1.2⟩ (hn_Sr e8' q2) (by rw [el]; omega) (by rw [el]; exact ec.symm) (fun i hi => ?_) hn (by omega) (fun T vT bT => nxt T _ _ (pBv_tr v (pBv_tr v8 vT)) bT (by rw [eg]; omega) (by rw [es]; omega))
      · rw [el, e8] at this
        exact this
      · rw [hI_Sr e8' rfl]
        rcases Nat.lt_or_ge i (capB (l.length + k)) with y | y
        · rw [q3 i y]; exact hI i y
        · rw [q4 i y, byV_0 (by rw [el]; omega)]; decide
end PB
