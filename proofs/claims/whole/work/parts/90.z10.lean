/-! the reference: marks, their count, strength -/
/-- whether a place counts for a leaf -/
noncomputable def mkB (l : LGt) (d : Nd) (st : Nat → Int64) (K p : Nat) : Bool := if nK d ≤ 2 then (pmk (tkC d 0) (tkG l st K)).testBit p && cAt d (fun t => pmk (tkC d t) (tkG l st K)) p else ftB l d (st p)
theorem mkO_cp {l : LGt} {d : Nd} {e : Dc} {st : Nat → Int64} {K : Nat} (hK : K ≤ 20) (h : dT e (nF d) = tkG l st K) : mkO e d = cpF (mkB l d st K) K := by
  apply Nat.eq_of_testBit_eq
  intro p
  rw [cpF_tb]
  unfold mkO mkB
  rw [h]
  by_cases c : nK d ≤ 2
  · rw [if_pos c, if_pos c]
    unfold cpN
    rw [cpF_tb]
    rcases Nat.lt_or_ge p K with z | z
    · rw [decide_eq_true z, decide_eq_true (show p < 20 by omega)]
    · rw [decide_eq_false (show ¬ p < K by omega), tb_out z, Bool.false_and, Bool.and_false]; rfl
  · rw [if_neg c, if_neg c, Bool.eq_iff_iff, tdK_tb, Bool.and_eq_true, decide_eq_true_iff]
    unfold ftB
    constructor
    · rintro ⟨w, h1, h2⟩
      obtain ⟨h3, h4⟩ := hsB_mem.mp h2
      unfold hsB at h4
      rw [Bool.and_eq_true, Bool.or_eq_true] at h4
      obtain ⟨h5, h6⟩ := h4
      refine ⟨h3, ?_⟩
      rw [h6, Bool.and_true, Bool.or_eq_true]
      rcases h5 with h5 | h5
      · rw [of_decide_eq_true h5]; exact Or.inl h1
      · obtain ⟨i, hi, h7⟩ := anyB_ex.mp h5
        rw [Bool.and_eq_true, decide_eq_true_iff, decide_eq_true_iff] at h7
        refine Or.inr (anyB_ex.mpr ⟨i, hi, ?_⟩)
        rw [Bool.and_eq_true, decide_eq_true_iff]
        exact ⟨h7.1, by rw [h7.2]; exact h1⟩
    · rintro ⟨h3, h4⟩
      rw [Bool.and_eq_true, Bool.or_eq_true] at h4
      obtain ⟨h5, h6⟩ := h4
      have mk : ∀ w, (decide (st p = w) || anyB (fun k => decide (l.1 k = st p) && decide (l.2.1 k = w)) l.2.2.1) = true → (w, p) ∈ tkG l st K := fun w hw => by
        refine hsB_mem.mpr ⟨h3, ?_⟩
        unfold hsB
        rw [hw, h6]; rfl
      rcases h5 with h5 | h5
      · exact ⟨st p, h5, mk _ (by rw [decide_eq_true rfl]; rfl)⟩
      · obtain ⟨i, hi, h7⟩ := anyB_ex.mp h5
        rw [Bool.and_eq_true, decide_eq_true_iff] at h7
        refine ⟨l.2.1 i, h7.2, mk _ ?_⟩
        rw [Bool.or_eq_true]
        refine Or.inr (anyB_ex.mpr ⟨i, hi, ?_⟩)
        rw [Bool.and_eq_true, decide_eq_true_iff]
        exact ⟨h7.1, decide_eq_true rfl⟩
/-- what a node keeps besides -/
def ndG (d : Nd) : Prop := (nK d = 0 → (nT d).length = 1) ∧ tkM d ∧ (∀ x, x ∈ nT d → x.2 < 20) ∧ (nK d = 7 → nP d = 2)
section MK
variable {v v' : Nat → Int32} {f f' : Nat → Nat → Int32} {g g' : Nat → Nat → Int64} {l : LGt} {o : Nat} {d : Nd} {k K : Nat} {st : Nat → Int64}
theorem p_marks {Q : QI} (hl : rLg v g l) (hS : scW l) (hP : rPl f g k (nF d) K st) (hN : rNd f g o d) (hd : tkOk d ∨ tlOk d) (hG : ndG d) (ho : o < 1968) (hp : mPow g) (h : ∀ f', rS2 f f' → Q (nI (cpF (mkB l d st K) K)) v f' g) : r_marks Q (nI k) (nI o) v f g := by
  obtain ⟨⟨n1, n1'⟩, n2, n3, n4, n5, n6, n7, n8, n9⟩ := id hN
  obtain ⟨⟨k24, fl2⟩, e18, K20, e17, hw⟩ := id hP
  obtain ⟨G1, G2, G3, -⟩ := hG
  have k6 : nK d < 6 := by
    rcases hd with w | w
    · have := w.1; omega
    · have := w.2.1; omega
  have oin : vp_in (nI o) 1968 := pk_in o 1968 ho
  have oc : (nI o).toNatClampNeg = o := nI_clamp (by omega)
  unfold r_marks
  rw [oc, n2 k6]
  refine ⟨oin, ?_⟩
  intro x3 ex3
  rw [ex3]
  unfold r_marks_13L
  refine lfp_cnt K (fun p y => ∃ f2, rS2 f f2 ∧ y = (nI k, nI o, nI (nF d), nI (cpF (mkB l d st K) p), nI p, v, f2, g)) ?_ ⟨f, fun _ _ _ => rfl, rfl⟩
  rintro P p _ hpK ⟨f2, s2, rfl⟩ ih
  show r_marks_13 Q _ (nI k) (nI o) (nI (nF d)) (nI (cpF (mkB l d st K) p)) (nI p) v f2 g
  have hN2 := rNd_S2 s2 hN
  have hP2 := rPl_S2 s2 hP
  have e40 : f2 40 o = nI (nK d) := by rw [s2 40 (by decide) (by decide)]; exact n1
  unfold r_marks_13
  rw [pk_mul, nI_add, nI_clamp (show 2 * k + nF d < 2 ^ 31 by omega), s2 18 (by decide) (by decide), e18]
  refine ⟨pk_in (2 * k + nF d) 4848 (by omega), pk_le K p (fun z => ?_) (fun z => ⟨oin, ?_⟩)⟩
  · obtain rfl : p = K := by omega
    exact h f2 s2
  have lt31 : (2 : Nat) ^ p < 2 ^ 31 := Nat.pow_lt_pow_right (by decide) (by omega)
  have go : ∀ f3, rS2 f f3 → r_marks_121 Q (fun b0 b1 b2 b3 b4 v f g => P (b0, b1, b2, b3, b4, v, f, g)) (nI k) (nI o) (nI (nF d)) (nI (cpF (mkB l d st K) p)) (nI p) (bI (mkB l d st K p)) v f3 g := by
    intro f3 s3
    unfold r_marks_121 r_marks_138
    refine w_B0 (fun e => ?_) (fun e => ?_)
    · rintro _ rfl _ rfl
      rw [nI_or, nI_add]
      exact ih _ z ⟨f3, s3, by rw [cpF, e]; rfl⟩
    · rintro _ rfl _ rfl
      rw [nI_shl1 (by omega), nI_or, nI_add]
      exact ih _ z ⟨f3, s3, by rw [cpF, if_pos e]⟩
  have go0 : ∀ f3, rS2 f f3 → mkB l d st K p = false → r_marks_120 Q (fun b0 b1 b2 b3 b4 v f g => P (b0, b1, b2, b3, b4, v, f, g)) (nI k) (nI o) (nI (nF d)) (nI (cpF (mkB l d st K) p)) (nI p) v f3 g := by
    intro f3 s3 e
    have := go f3 s3
    rw [e] at this
    exact this
  have go1 : ∀ f3, rS2 f f3 → mkB l d st K p = true → r_marks_121 Q (fun b0 b1 b2 b3 b4 v f g => P (b0, b1, b2, b3, b4, v, f, g)) (nI k) (nI o) (nI (nF d)) (nI (cpF (mkB l d st K) p)) (nI p) (nI 1) v f3 g := by
    intro f3 s3 e
    have := go f3 s3
    rw [e] at this
    exact this
  rw [oc, e40]
  refine pk_lt (nK d) 3 (fun c3 => ?_) (fun c3 => ?_)
  · have hk : tkOk d := by
      rcases hd with w | w
      · exact w
      · have := w.1; omega
    obtain ⟨-, t1, t6, l20, t2, g20⟩ := id hk
    obtain ⟨x, hx⟩ := get_ex (l := nT d) (k := 0) (by omega)
    have b1 := (n7 (by omega) 0 x hx).1
    rw [Nat.add_zero] at b1
    have cx : tkC d 0 = x.1 := tkC_get rfl hx
    have mkd : mkB l d st K p = ((pmk (tkC d 0) (tkG l st K)).testBit p && cAt d (fun t => pmk (tkC d t) (tkG l st K)) p) := by unfold mkB; rw [if_pos (by omega)]
    rw [pk_mul, nI_clamp (show 6 * o < 2 ^ 31 by omega), b1, ← cx]
    refine ⟨pk_in (6 * o) 11808 (by omega), p_hasAtM hl hP2 (by omega) ?_⟩
    unfold r_marks_67
    refine w_B0 (fun e => go0 f2 s2 (by rw [mkd, e]; rfl)) (fun e => ⟨oin, ?_⟩)
    rw [oc, e40]
    refine w_ne (nK d) 1 (fun c1 => ?_) (fun c1 => ?_)
    · unfold r_marks_95
      rw [oc, e40]
      refine ⟨oin, w_ne (nK d) 2 (fun c2 => go1 f2 s2 ?_) (fun c2 => p_isNearAt hl hP2 hN2 hk rfl c2 ho (by omega) ?_)⟩
      · have hl1 := G1 (by omega)
        rw [mkd, e, Bool.true_and]
        unfold cAt
        rw [if_neg c2, hl1]
        show decide (p ≤ p + nL d + _) = true
        rw [decide_eq_true (by omega)]
      · exact w_B0 (fun e2 => go0 f2 s2 (by rw [mkd, e2, Bool.and_false])) (fun e2 => go1 f2 s2 (by rw [mkd, e, e2]; rfl))
    · refine p_isPhraseAt hl hP2 hN2 hk G2 rfl c1 G3 ho (by omega) ?_
      refine w_B0 (fun e2 => go0 f2 s2 (by rw [mkd, e2, Bool.and_false])) (fun e2 => ?_)
      unfold r_marks_95
      rw [oc, e40]
      exact ⟨oin, w_ne (nK d) 2 (fun c2 => go1 f2 s2 (by rw [mkd, e, e2]; rfl)) (fun c2 => absurd c2 (by omega))⟩
  · have hk : tlOk d := by
      rcases hd with w | w
      · have := w.1; omega
      · exact w
    have mkd : mkB l d st K p = ftB l d (st p) := by unfold mkB; rw [if_neg (by omega)]
    refine p_fitsAt hl hS hN2 hk ho k24 fl2 (by omega) (e17 p) (hw p z) hp (fun f3 s3 => ?_)
    have s23 := rS2_tr s2 s3
    have e403 : f3 40 o = nI (nK d) := by rw [s23 40 (by decide) (by decide)]; exact n1
    unfold r_marks_67
    refine w_B0 (fun e => go0 f3 s23 (by rw [mkd, e])) (fun e => ⟨oin, ?_⟩)
    rw [oc, e403]
    refine w_ne (nK d) 1 (fun c1 => ?_) (fun c1 => absurd c1 (by omega))
    unfold r_marks_95
    rw [oc, e403]
    exact ⟨oin, w_ne (nK d) 2 (fun c2 => go1 f3 s23 (by rw [mkd, e])) (fun c2 => absurd c2 (by omega))⟩
end MK
theorem pcN_sh (m : Nat) : ∀ n, pcN m (n + 1) = m % 2 + pcN (m / 2) n
  | 0 => by
    rw [pcN, pcN, pcN, Nat.testBit_zero]
    rcases Nat.mod_two_eq_zero_or_one m with e | e <;> rw [e] <;> rfl
  | n + 1 => by
    rw [pcN, pcN_sh m n, pcN, Nat.testBit_succ]
    omega
theorem pcN_z : ∀ n : Nat, pcN 0 n = 0
  | 0 => rfl
  | n + 1 => by rw [pcN, pcN_z n, Nat.zero_testBit]; rfl
theorem pcN_low : ∀ {n m : Nat}, 0 < m → m < 2 ^ n → pcN (m &&& (m - 1)) n + 1 = pcN m n
  | 0, m, h1, h2 => by rw [Nat.pow_zero] at h2; omega
  | n + 1, m, h1, h2 => by
    have e : m = 2 * (m / 2) + m % 2 := by omega
    obtain ⟨q, hq⟩ : ∃ q, q = m / 2 := ⟨_, rfl⟩
    have q2 : q < 2 ^ n := by rw [Nat.pow_succ] at h2; omega
    rw [pcN_sh, pcN_sh]
    rcases Nat.mod_two_eq_zero_or_one m with c | c
    · have em : m = 2 ^ 1 * q + 0 := by omega
      have em1 : m - 1 = 2 ^ 1 * (q - 1) + 1 := by omega
      have la : m &&& (m - 1) = 2 ^ 1 * (q &&& (q - 1)) + (0 &&& 1) := by
        rw [em1]
        conv => lhs; rw [em]
        exact land_split (by decide) (by decide)
      rw [la, Nat.zero_and, c, ← hq, show (2 ^ 1 * (q &&& (q - 1)) + 0) % 2 = 0 by omega, show (2 ^ 1 * (q &&& (q - 1)) + 0) / 2 = q &&& (q - 1) by omega]
      have := pcN_low (n := n) (m := q) (by omega) q2
      omega
    · have em : m = 2 ^ 1 * q + 1 := by omega
      have em1 : m - 1 = 2 ^ 1 * q + 0 := by omega
      have la : m &&& (m - 1) = 2 ^ 1 * (q &&& q) + (1 &&& 0) := by
        rw [em1]
        conv => lhs; rw [em]
        exact land_split (by decide) (by decide)
      rw [la, Nat.and_self, Nat.and_zero, c, ← hq, show (2 ^ 1 * q + 0) % 2 = 0 by omega, show (2 ^ 1 * q + 0) / 2 = q by omega]
      omega
theorem pcN_0 {m n : Nat} (h : m < 2 ^ n) : pcN m n = 0 ↔ m = 0 := by
  constructor
  · intro e
    apply Nat.eq_of_testBit_eq
    intro p
    rw [Nat.zero_testBit]
    rcases Nat.lt_or_ge p n with z | z
    · cases hb : m.testBit p with
      | false => rfl
      | true => have := pcN_pos hb z; omega
    · exact Nat.testBit_lt_two_pow (Nat.lt_of_lt_of_le h (Nat.pow_le_pow_right (by decide) z))
  · rintro rfl; exact pcN_z n
section ON
variable {v : Nat → Int32} {f : Nat → Nat → Int32} {g : Nat → Nat → Int64}
theorem p_ones {Q : QI} {m : Nat} (hm : m < 2 ^ 20) (h : Q (nI (pcN m 20)) v f g) : r_ones Q (nI m) v f g := by
  unfold r_ones r_ones_4L
  refine lfp_ind (fun y => ∃ a b, a + pcN b 20 = pcN m 20 ∧ b < 2 ^ 20 ∧ y = (nI a, nI b, v, f, g)) (fun y => y.2.1.toNatClampNeg) ?_ ⟨0, m, by omega, hm, rfl⟩
  rintro P _ ⟨a, b, h1, h2, rfl⟩ ih
  show r_ones_4 Q _ (nI a) (nI b) v f g
  unfold r_ones_4
  refine w_z b (fun z => ?_) (fun z => ?_)
  · rw [z, pcN_z] at h1
    rw [show a = pcN m 20 by omega]; exact h
  · rintro _ rfl _ rfl
    rw [nI_add, pk_sub (show 1 ≤ b by omega), nI_and]
    have lt : b &&& (b - 1) ≤ b - 1 := Nat.and_le_right
    have := pcN_low z h2
    refine ih _ ⟨a + 1, b &&& (b - 1), by omega, by omega, rfl⟩ ?_
    show (nI (b &&& (b - 1))).toNatClampNeg < (nI b).toNatClampNeg
    rw [nI_clamp (by omega), nI_clamp (by omega)]
    omega
theorem p_strength {Q : QI} {c : Nat} (hc : c ≤ 20) (h : Q (nI (64 * c / (c + 1))) v f g) : r_strength Q (nI c) v f g := by
  unfold r_strength
  rw [nI_add, pk_mul, pk_div (by omega) (by omega) (by omega)]
  exact ⟨fun e => absurd ((nI_z (by omega)).mp e) (by omega), h⟩
end ON
