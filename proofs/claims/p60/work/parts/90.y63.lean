/-! the class: what leaves give, bounds -/
theorem nI_mx {a b : Nat} (ha : a < 2 ^ 31) (hb : b < 2 ^ 31) : (if nI a < nI b then nI b else nI a) = nI (max a b) := by
  by_cases c : a < b
  · rw [if_pos ((nI_ltI ha hb).mpr c), Nat.max_eq_right (by omega)]
  · rw [if_neg (fun z => c ((nI_ltI ha hb).mp z)), Nat.max_eq_left (by omega)]
def wtN (w0 w1 f : Nat) : Nat := if f = 0 then w0 else w1
/-- what a leaf gives, by how many places count -/
def gvN (w0 w1 r : Nat) (d : Nd) (c : Nat) : Nat := if nK d ≤ 2 then wtN w0 w1 (nF d) * (64 * c / (c + 1)) * r else wtN w0 w1 (nF d) * 32
theorem gvN_le {w0 w1 r c : Nat} {d : Nd} (h0 : w0 ≤ 9) (h1 : w1 ≤ 9) (hr : r ≤ 102) : gvN w0 w1 r d c ≤ 58752 := by
  have hw : wtN w0 w1 (nF d) ≤ 9 := by unfold wtN; split <;> assumption
  have hs : 64 * c / (c + 1) ≤ 64 := by
    have : 64 * c / (c + 1) ≤ 64 * (c + 1) / (c + 1) := Nat.div_le_div_right (by omega)
    rwa [Nat.mul_div_cancel _ (by omega)] at this
  unfold gvN
  split
  · exact Nat.le_trans (Nat.mul_le_mul (Nat.mul_le_mul hw hs) hr) (by decide)
  · exact Nat.le_trans (Nat.mul_le_mul hw (Nat.le_refl 32)) (by decide)
/-- the node of a leaf -/
def lfN (nd : Nat → Nd) (m i : Nat) : Nat := (lfI nd m).getD i 0
def lfD (nd : Nat → Nd) (m i : Nat) : Nd := nd (lfN nd m i)
/-- what each leaf gives, by its marks -/
def gvF (nd : Nat → Nd) (m w0 w1 : Nat) (rr mA : Nat → Nat) (i : Nat) : Option Nat := if mA i = 0 then none else some (gvN w0 w1 (rr i) (lfD nd m i) (pcN (mA i) 20))
/-- the greatest of the first n -/
def mxB (f : Nat → Nat) : Nat → Nat
  | 0 => 0
  | n + 1 => max (mxB f n) (f n)
theorem mxB_le {f : Nat → Nat} {B : Nat} (h : ∀ k, f k ≤ B) : ∀ n : Nat, mxB f n ≤ B
  | 0 => Nat.zero_le _
  | n + 1 => by
    have := mxB_le h n
    have := h n
    rw [mxB]; omega
/-- the bound of some documents -/
def bdN (nd : Nat → Nd) (m w0 w1 : Nat) (rr : Nat → Nat) (fA : Nat → Nat → Nat) (a t : Nat) : Nat → Nat
  | 0 => 0
  | i + 1 => bdN nd m w0 w1 rr fA a t i + (if mxB (fun k => pcN (fA i (a + k)) 20) (t - a) = 0 ∨ (qsS nd m).2.2 (lfN nd m i) = true then 0 else gvN w0 w1 (rr i) (lfD nd m i) (mxB (fun k => pcN (fA i (a + k)) 20) (t - a)))
section GV
variable {S T U : cS} {ρ ρ' : Nat → Nat} {M : List Nat} {dp x rd w0 w1 wr mo fo ro pl ra gi p q b m τ κ : Nat} {mk fs rw : Nat → Nat} {d : Nd} {fl : Bool} {nd : Nat → Nd}
theorem gQ_leaf (g : gQy S ρ dp τ κ q m nd) : ∃ ll ls lm, cr S 193 q = some ll ∧ lsT S dp ll 4 ls lm ∧ ls.length = (lfI nd m).length ∧ (∀ z, lsF S dp ll z → ρ z = τ) ∧ ∀ i, i < (lfI nd m).length → ∃ p, ls[i]? = some p ∧ ndT S ρ κ p (lfD nd m i) ((qsS nd m).2.2 (lfN nd m i)) := by
  obtain ⟨g1, g2, g3, ⟨nl, ws, wm, ll, ls, lm, ⟨n1, n2, n3, n4, n5, n6, n7, n8⟩, ⟨l1, l2, l3, l4, l5, l6⟩, -⟩, -⟩ := g
  have e := parL_len l6
  refine ⟨ll, ls, lm, l1, l2, e, l3, fun i hi => ?_⟩
  obtain ⟨p, hp⟩ : ∃ p, ls[i]? = some p := ⟨_, List.getElem?_eq_getElem (by omega)⟩
  have hk : (lfI nd m)[i]? = some (lfN nd m i) := gq_get hi
  exact ⟨p, hp, n8 _ p (parL_get (R := fun p k => ws[k]? = some p) l6 hp hk)⟩
theorem q_isCounted {Q : Int32 → cS → Prop} (g : ndT S ρ κ p d fl) (h : Q (bI (decide (nK d ≤ 2))) S) : k_X4_isCounted Q dp p S := by
  obtain ⟨g1, g2, ⟨i1, -⟩, -⟩ := g
  unfold k_X4_isCounted
  rw [i1]
  have c : ckN (nK d) < 6 ∧ (2 ≤ ckN (nK d) ↔ 3 ≤ nK d) := by
    unfold ckN
    split
    · omega
    · split
      · omega
      · split
        · omega
        · split
          · omega
          · split <;> omega
  refine ⟨g1, pk_le 2 (ckN (nK d)) (fun z => ?_) (fun z => ?_)⟩
  · rw [show decide (nK d ≤ 2) = false from decide_eq_false (by have := c.2.mp z; omega)] at h; exact h
  · rw [show decide (nK d ≤ 2) = true from decide_eq_true (by have := c.2; omega)] at h; exact h
theorem q_giveOf {Q : Int32 → cS → Prop} {i c r : Nat} (gr : rdr S ρ rd w0 w1 wr mo fo ro pl ra gi mk fs rw) (g : ndT S ρ κ p d fl) (hf : nF d < 2) (hi : i < 24) (hc : 1 ≤ c ∧ c ≤ 20) (hr : cI S ra i = nI r) (h : Q (nI (gvN w0 w1 r d c)) S) : k_X7_giveOf Q dp rd p (nI i) (nI c) S := by
  obtain ⟨g1, g2, ⟨⟨u1, u2, u3, u4⟩, u5, u6⟩, -, -, -, -, ⟨r1, r2, r3, r4⟩, -⟩ := gr
  have i2 := g.2.2.1.2.1
  have nA := g.1
  have go : ∀ w, w = wtN w0 w1 (nF d) → k_X7_giveOf_22 Q dp rd p (nI i) (nI c) (nI w) S := by
    intro w hw
    unfold k_X7_giveOf_22
    unfold gvN at h
    rw [← hw] at h
    refine ⟨nA, q_isCounted g (w_b0 (decide (nK d ≤ 2)) (fun e => ?_) (fun e => pk_lt c 1 (fun z => absurd z (by omega)) (fun _ => w_pos i ⟨g1, ra, r1, r2, ?_⟩)))⟩
    · rw [if_neg (of_decide_eq_false e)] at h
      unfold k_X7_giveOf_49
      rw [pk_mul]; exact h
    · rw [if_pos (of_decide_eq_true e)] at h
      rw [r3]
      refine pk_lt i 24 (fun _ => ⟨?_, g1, ra, r1, cX_mk r2 r3 (by decide) hi rfl, ?_⟩) (fun z => absurd z (by omega))
      · rw [nI_add]; exact fun z => absurd ((nI_z (by omega)).mp z) (by omega)
      · rw [nI_clamp (show i < 2 ^ 31 by omega), hr, pk_mul, nI_add, pk_div (by omega) (by omega) (by omega), pk_mul, pk_mul]
        exact h
  unfold k_X7_giveOf
  rw [i2]
  refine ⟨nA, w_nz (nF d) (fun z => ⟨g1, wr, u1, cX_mk u2 u3 (by decide) (show 1 < 2 by decide) rfl, ?_⟩) (fun z => ⟨g1, wr, u1, cX_mk u2 u3 (by decide) (show 0 < 2 by decide) rfl, ?_⟩)⟩
  · rw [show (nI 1).toNatClampNeg = 1 from nI_clamp (by decide), u6]
    exact go _ (by unfold wtN; rw [if_neg (by omega)])
  · rw [show (nI 0).toNatClampNeg = 0 from nI_clamp (by decide), u5]
    exact go _ (by unfold wtN; rw [if_pos z])
theorem q_markAt {Q : Int32 → cS → Prop} {i j : Nat} (gr : rdr S ρ rd w0 w1 wr mo fo ro pl ra gi mk fs rw) (hi : i < 24) (hj : j < 100) (h : Q (cI S (mk i) j) S) : k_X7_markAt Q dp rd (nI i) (nI j) S := by
  obtain ⟨g1, g2, -, ⟨m1, m2, m3, m4, m5, m6⟩, -⟩ := gr
  obtain ⟨a1, a2, a3, a4⟩ := m5 i hi
  unfold k_X7_markAt
  refine w_pos i (pk_le 24 i (fun z => absurd z (by omega)) (fun _ => w_pos j (pk_lt j 100 (fun _ => ⟨g1, mo, m1, cX_mk m2 m3 (by decide) hi rfl, mk i, ?_, cX_mk a2 a3 (by decide) hj rfl, ?_⟩) (fun z => absurd z (by omega)))))
  · rw [nI_clamp (show i < 2 ^ 31 by omega)]; exact a1
  · rw [nI_clamp (show j < 2 ^ 31 by omega)]; exact h
theorem q_valueAt {Q : Int32 → cS → Prop} {j : Nat} {rr mA : Nat → Nat} (gr : rdr S ρ rd w0 w1 wr mo fo ro pl ra gi mk fs rw) (g : gQy S ρ dp τ κ q m nd) (hq : qOk nd m) (h1 : (qsS nd m).1 = 1) (hl : (lfI nd m).length ≤ 24) (hτ : τ ≠ 18 ∧ τ ≠ 27) (hκ : κ ≠ 18 ∧ κ ≠ 27) (hm : m < 100) (hw : w0 ≤ 9 ∧ w1 ≤ 9) (hrr : ∀ i, rr i ≤ 102) (hj : j < 100) (hmk : ∀ i, i < (lfI nd m).length → cI S (mk i) j = nI (mA i) ∧ mA i < 2 ^ 20) (hra : ∀ i, i < (lfI nd m).length → cI S ra i = nI (rr i)) (h : ∀ T, fr S T ρ ρ [18, 27] → Q (cIn (evS nd (gvF nd m w0 w1 rr mA) m 0)) T) : k_X7_valueAt Q dp rd q (nI j) S := by
  obtain ⟨ll, ls, lm, l1, l2, l3, l4, l5⟩ := gQ_leaf g
  obtain ⟨g1, g2, gw, mm, m2, m3, r1, r2, ⟨r31, r32, r33, r34⟩⟩ := id gr
  have fin : ∀ {S' : cS}, cSub S S' (fun z => z = gi) → fr S S' ρ ρ [27] := fun s => ⟨sub_wk s (fun a _ z => by rw [z, r34]; exact List.mem_singleton.mpr rfl), fun _ _ _ => rfl⟩
  unfold k_X7_valueAt k_X7_valueAt_2L
  refine lfp_cnt (lfI nd m).length (fun k y => ∃ S', cSub S S' (fun z => z = gi) ∧ (∀ i, i < k → cI S' gi i = cIn (gvF nd m w0 w1 rr mA i)) ∧ y = (rd, q, nI j, nI k, S')) ?_ ⟨S, sub_rf, fun i hi => absurd hi (Nat.not_lt_zero i), rfl⟩
  rintro P k _ hk ⟨S', s', hg, rfl⟩ ih
  show k_X7_valueAt_2 Q dp _ rd q (nI j) (nI k) S'
  have f' := fin s'
  have gr' := rdr_s f' (by decide) (by decide) gr
  have g' : gQy S' ρ dp τ κ q m nd := gQy_fr f' (by simpa using hτ.2) (by simpa using hκ.2) (fun _ _ e => e) g
  have l2' : lsT S' dp ll 4 ls lm := lsT_sub s' l2 (fun z hz e => hτ.2 (by rw [← l4 z hz, e, r34]))
  have q' := g'.1
  have rd' := gr'.1
  have gi' := sub_A1 s' r32
  have gn' : cn S' gi = 24 := (sub_cn s' r32).trans r33
  have r230 : cr S' 230 rd = some gi := gr'.2.2.2.2.2.2.2.2.1
  have l193 : cr S' 193 q = some ll := (fr_cr f' g.1 (by rw [g.2.1]; simpa using hτ.2)).trans l1
  unfold k_X7_valueAt_2
  refine ⟨q', ll, l193, l2'.1, q_lsize l2' ?_⟩
  rw [l3]
  refine pk_le (lfI nd m).length k (fun z => ?_) (fun z => ⟨rd', gi, r230, gi', ?_⟩)
  · obtain rfl : k = (lfI nd m).length := by omega
    unfold k_X7_valueAt_72
    refine ⟨rd', gi, r230, q', q_valueOf (gv := gvF nd m w0 w1 rr mA) (G := 58752) g' hq h1 hl hτ.1 hκ.1 hm (fun i => ?_) (by decide) gi' gn' (by rw [r34]; decide) (fun i hi => hg i hi) (fun T f => h T (fr_tr (fr_wk f' (fun τ hτ => ?_)) (fr_wk f (fun τ hτ => ?_)) (fun _ _ z => z)))⟩
    · unfold gvF
      split
      · exact Nat.zero_le _
      · exact gvN_le hw.1 hw.2 (hrr i)
    · rw [List.mem_singleton.mp hτ]; decide
    · rw [List.mem_singleton.mp hτ]; decide
  obtain ⟨k1, k2⟩ := hmk k z
  obtain ⟨a1, a2, a3, a4⟩ := mm.2.2.2.2.1 k (by omega)
  have ne : mk k ≠ gi := fun e => absurd (show (22 : Nat) = 27 by rw [← a4, e, r34]) (by decide)
  have mk' : cI S' (mk k) j = nI (mA k) := by rw [sub_cI s' a2 ne]; exact k1
  have fin65 : ∀ o, o = gvF nd m w0 w1 rr mA k → k_X7_valueAt_65 Q dp (fun b0 b1 b2 b3 S => P (b0, b1, b2, b3, S)) rd q (nI j) (nI k) (cIn o) (nI k) gi S' := by
    intro o ho
    unfold k_X7_valueAt_65
    refine ⟨cX_mk gi' gn' (by decide) (show k < 24 by omega) rfl, fun S12 e12 => ?_⟩
    rintro _ rfl
    rw [nI_clamp (show k < 2 ^ 31 by omega)] at e12
    rw [nI_add]
    refine ih _ z ⟨S12, sub_tr s' (e12 ▸ sub_SI rfl) (fun _ _ z => z), fun i hi => ?_, rfl⟩
    by_cases c : i = k
    · subst c; rw [← ho]; exact heI_SI_s e12
    · exact heI_SI_k e12 c (hg i (by omega))
  rw [gn']
  refine pk_le 24 k (fun z2 => absurd z2 (by omega)) (fun z2 => ⟨rd', q_markAt gr' z2 hj ⟨rd', gi, r230, ?_⟩⟩)
  rw [mk']
  obtain ⟨p, hp, np⟩ := l5 k z
  have np' := ndT_fr f' (by simpa using hκ.2) (fun a _ e => e) np
  refine w_nz (mA k) (fun c => ⟨q', ll, l193, l2'.1, q_lget l2' hp ⟨np'.1, q_bitCount k2 ⟨rd', ?_⟩⟩⟩) (fun c => fin65 none (by unfold gvF; rw [if_pos c]))
  have pc1 : 1 ≤ pcN (mA k) 20 := by
    obtain ⟨i, hi⟩ : ∃ i, (mA k).testBit i = true := Nat.exists_testBit_of_ne_zero (by omega)
    have hi20 : i < 20 := by
      rcases Nat.lt_or_ge i 20 with w | w
      · exact w
      · rw [Nat.testBit_lt_two_pow (Nat.lt_of_lt_of_le k2 (Nat.pow_le_pow_right (by decide) w))] at hi; exact absurd hi (by decide)
    exact pcN_pos hi hi20
  have hfd : nF (lfD nd m k) < 2 := by
    have hin := lfI_lt (List.mem_of_getElem? (gq_get z))
    exact ((hq _ hin.1).1 hin.2).2.1
  have ra' : cI S' ra k = nI (rr k) := by rw [sub_cI s' r2.2.1 (fun e => absurd (show (26 : Nat) = 27 by rw [← r2.2.2.2, e, r34]) (by decide))]; exact hra k z
  refine q_giveOf gr' np' hfd z2 ⟨pc1, pcN_le _ _⟩ ra' ?_
  exact fin65 (some (gvN w0 w1 (rr k) (lfD nd m k) (pcN (mA k) 20))) (by unfold gvF; rw [if_neg (by omega)])
theorem q_boundOf {Q : Int32 → cS → Prop} {a t : Nat} {rr : Nat → Nat} {fA : Nat → Nat → Nat} (gr : rdr S ρ rd w0 w1 wr mo fo ro pl ra gi mk fs rw) (g : gQy S ρ dp τ κ q m nd) (hq : qOk nd m) (hl : (lfI nd m).length ≤ 24) (ha : a ≤ t ∧ t ≤ 100) (hfs : ∀ i j, i < (lfI nd m).length → j < t → cI S (fs i) j = nI (fA i j) ∧ fA i j < 2 ^ 20) (hra : ∀ i, i < (lfI nd m).length → cI S ra i = nI (rr i)) (h : Q (nI (bdN nd m w0 w1 rr fA a t (lfI nd m).length)) S) : k_X7_boundOf Q dp rd q (nI a) (nI t) S := by
  obtain ⟨ll, ls, lm, l1, l2, l3, l4, l5⟩ := gQ_leaf g
  obtain ⟨g1, g2, gw, mm, ⟨m1, m2, m3, m4, m5, m6⟩, -⟩ := id gr
  unfold k_X7_boundOf k_X7_boundOf_6L
  refine lfp_cnt (lfI nd m).length (fun k y => y = (rd, q, nI a, nI t, nI (bdN nd m w0 w1 rr fA a t k), nI k, S)) ?_ rfl
  rintro P k _ hk rfl ih
  show k_X7_boundOf_6 Q dp _ rd q (nI a) (nI t) (nI (bdN nd m w0 w1 rr fA a t k)) (nI k) S
  unfold k_X7_boundOf_6
  refine ⟨g.1, ll, l1, l2.1, q_lsize l2 ?_⟩
  rw [l3]
  refine pk_le (lfI nd m).length k (fun z => ?_) (fun z => pk_le 24 k (fun z2 => absurd z2 (by omega)) (fun z2 => ?_))
  · obtain rfl : k = (lfI nd m).length := by omega
    exact h
  rw [if_neg (show ¬ nI a < nI 0 from nI_pos (by omega))]
  rintro _ rfl
  obtain ⟨a1, a2, a3, a4⟩ := m5 k z2
  obtain ⟨F, hF⟩ : ∃ F : Nat → Nat, F = fun i => pcN (fA k (a + i)) 20 := ⟨_, rfl⟩
  have F20 : ∀ i, F i ≤ 20 := fun i => by rw [hF]; exact pcN_le _ _
  have bs : bdN nd m w0 w1 rr fA a t (k + 1) = bdN nd m w0 w1 rr fA a t k + (if mxB F (t - a) = 0 ∨ (qsS nd m).2.2 (lfN nd m k) = true then 0 else gvN w0 w1 (rr k) (lfD nd m k) (mxB F (t - a))) := by rw [bdN, hF]
  have fin : ∀ v, v = bdN nd m w0 w1 rr fA a t (k + 1) → k_X7_boundOf_122 Q dp (fun b0 b1 b2 b3 b4 b5 S => P (b0, b1, b2, b3, b4, b5, S)) rd q (nI a) (nI t) (nI v) (nI k) S := by
    intro v hv
    unfold k_X7_boundOf_122
    rintro _ rfl
    rw [nI_add, hv]
    exact ih _ z rfl
  have most : ∀ R6 : Nat → Nat → Int32 → Int32 → Int32 → Int32 → cS → Prop, R6 = (fun b0 b1 b2 b3 b4 b5 S => P (b0, b1, b2, b3, b4, b5, S)) → k_X7_boundOf_74 Q dp R6 rd q (nI a) (nI t) (nI (bdN nd m w0 w1 rr fA a t k)) (nI k) (nI (mxB F (t - a))) S := by
    rintro _ rfl
    have mb := mxB_le F20 (t - a)
    unfold k_X7_boundOf_74
    obtain ⟨p, hp, np⟩ := l5 k z
    refine pk_le (mxB F (t - a)) 0 (fun c => fin _ (by rw [bs, if_pos (Or.inl (by omega)), Nat.add_zero])) (fun c => ⟨g.1, ll, l1, l2.1, q_lget l2 hp ⟨np.1, np.1, ?_⟩⟩)
    rw [np.2.2.1.2.2.2.2.2]
    refine w_bn ((qsS nd m).2.2 (lfN nd m k)) (fun e => fin _ (by rw [bs, if_pos (Or.inr e), Nat.add_zero])) (fun e => ⟨g.1, ll, l1, l2.1, q_lget l2 hp ⟨np.1, g1, ?_⟩⟩)
    have hfd : nF (lfD nd m k) < 2 := by
      have hin := lfI_lt (List.mem_of_getElem? (gq_get z))
      exact ((hq _ hin.1).1 hin.2).2.1
    refine q_giveOf gr np hfd z2 ⟨by omega, mb⟩ (hra k z) ?_
    rintro _ rfl
    rw [nI_add]
    exact fin _ (by rw [bs, if_neg (fun w => w.elim (by omega) (fun w => by rw [e] at w; exact absurd w (by decide)))])
  unfold k_X7_boundOf_35L
  refine lfp_cnt (t - a) (fun i y => y = (rd, q, nI a, nI t, nI (bdN nd m w0 w1 rr fA a t k), nI k, nI (mxB F i), nI (a + i), S)) ?_ rfl
  rintro P2 i _ hi rfl ih2
  show k_X7_boundOf_35 Q dp _ _ rd q (nI a) (nI t) (nI (bdN nd m w0 w1 rr fA a t k)) (nI k) (nI (mxB F i)) (nI (a + i)) S
  unfold k_X7_boundOf_35
  refine pk_le t (a + i) (fun c => ?_) (fun c => pk_le 100 (a + i) (fun c2 => absurd c2 (by omega)) (fun _ => ⟨g1, fo, m1, cX_mk m2 m3 (by decide) z2 rfl, fs k, ?_, cX_mk a2 a3 (by decide) (show a + i < 100 by omega) rfl, ?_⟩))
  · obtain rfl : i = t - a := by omega
    exact most _ rfl
  · rw [nI_clamp (show k < 2 ^ 31 by omega)]; exact a1
  · obtain ⟨b1, b2⟩ := hfs k (a + i) z c
    rw [nI_clamp (show a + i < 2 ^ 31 by omega), b1]
    refine q_bitCount b2 ?_
    have := mxB_le F20 i
    have := pcN_le (fA k (a + i)) 20
    rintro _ rfl _ rfl
    rw [nI_mx (by omega) (by omega), nI_add]
    refine ih2 _ (by omega) ?_
    rw [mxB, show F i = pcN (fA k (a + i)) 20 by rw [hF]]
    rfl
end GV
