/-! the pool by rows; texts; the words of a text -/
def cRI (S : cS) (b : Nat) (r : Nat → Int32) : cS := (cL S, cK S, ci S, cr S, cw S, cn S, sR (cI S) b r, cJ S, cO S)
def cRJ (S : cS) (b : Nat) (r : Nat → Int64) : cS := (cL S, cK S, ci S, cr S, cw S, cn S, cI S, sR (cJ S) b r, cO S)
def cRO (S : cS) (b : Nat) (r : Nat → Option Nat) : cS := (cL S, cK S, ci S, cr S, cw S, cn S, cI S, cJ S, sR (cO S) b r)
section PL
variable {S : cS} {dp : Nat}
theorem cSI_n {b k : Nat} {x : Int32} : cSI S b k x = cRI S b (upR (cI S b) k x) := rfl
theorem cSJ_n {b k : Nat} {x : Int64} : cSJ S b k x = cRJ S b (upR (cJ S b) k x) := rfl
theorem cSO_n {b k : Nat} {x : Option Nat} : cSO S b k x = cRO S b (upR (cO S b) k x) := rfl
theorem cSI_R {b k : Nat} {x : Int32} {r : Nat → Int32} : cSI (cRI S b r) b k x = cRI S b (upR r k x) := by
  show (cL S, cK S, ci S, cr S, cw S, cn S, mU (sR (cI S) b r) b k x, cJ S, cO S) = _
  rw [mU_sR]; rfl
theorem cSJ_R {b k : Nat} {x : Int64} {r : Nat → Int64} : cSJ (cRJ S b r) b k x = cRJ S b (upR r k x) := by
  show (cL S, cK S, ci S, cr S, cw S, cn S, cI S, mU (sR (cJ S) b r) b k x, cO S) = _
  rw [mU_sR]; rfl
theorem cSO_R {b k : Nat} {x : Option Nat} {r : Nat → Option Nat} : cSO (cRO S b r) b k x = cRO S b (upR r k x) := by
  show (cL S, cK S, ci S, cr S, cw S, cn S, cI S, cJ S, mU (sR (cO S) b r) b k x) = _
  rw [mU_sR]; rfl
theorem cRJ_at {b : Nat} {r : Nat → Int64} : cJ (cRJ S b r) b = r := sR_s
theorem cRI_at {b : Nat} {r : Nat → Int32} : cI (cRI S b r) b = r := sR_s
theorem cRO_at {b : Nat} {r : Nat → Option Nat} : cO (cRO S b r) b = r := sR_s
theorem cRJ_id (b : Nat) : cRJ S b (cJ S b) = S := by
  show (cL S, cK S, ci S, cr S, cw S, cn S, cI S, sR (cJ S) b (cJ S b), cO S) = S
  rw [sR_id]; rfl
theorem cSi_at {q a : Nat} {x : Int32} : ci (cSi S q a x) q a = x := mU_at
theorem cSi_nq {q a p b : Nat} {x : Int32} (h : p ≠ q) : ci (cSi S q a x) p b = ci S p b := mU_nq h
theorem cSi_na {q a p b : Nat} {x : Int32} (h : b ≠ a) : ci (cSi S q a x) p b = ci S p b := mU_ne h
theorem mU_mU {α : Type} {f : Nat → Nat → α} {j i : Nat} {x y : α} : mU (mU f j i x) j i y = mU f j i y := by
  funext b k
  unfold mU
  by_cases h : b = j
  · subst h
    by_cases h2 : k = i
    · simp [h2]
    · simp [h2]
  · simp [h]
theorem cSi_s {q a : Nat} {x y : Int32} : cSi (cSi S q a x) q a y = cSi S q a y := by
  show (cL S, cK S, mU (mU (ci S) q a x) q a y, cr S, cw S, cn S, cI S, cJ S, cO S) = _
  rw [mU_mU]; rfl
/-- a place of a row that may be read -/
theorem cX_mk {a k n N : Nat} {i : Int32} (hA : cA S a k) (hN : cn S a = N) (h31 : N < 2 ^ 31) (hn : n < N) (hi : i = nI n) : cX S a k i := ⟨hA, by rw [hN]; exact h31, by rw [hi, hN]; exact pk_in n N hn⟩
/-- a text's signs: n of them, P -/
def tSg (S : cS) (t n : Nat) (P : Nat → Nat) : Prop := cA S t 9 ∧ n ≤ 40 ∧ ci S 289 t = nI n ∧ ∃ a, cr S 288 t = some a ∧ cA S a 14 ∧ cn S a = 40 ∧ ∀ k, k < n → cI S a k = nI (P k) ∧ P k < 65536
/-- the language's row of words -/
def lWd3 (S : cS) (L w : Nat) : Prop := cA S L 3 ∧ cr S 97 L = some w ∧ cA S w 15 ∧ cn S w = 20
theorem q_signOf {Q : Int32 → cS → Prop} {t n k : Nat} {P : Nat → Nat} (ht : tSg S t n P) (hk : k < n) (h : Q (nI (P k)) S) : k_X9_signOf Q dp t (nI k) S := by
  obtain ⟨h1, h2, h3, a, h4, h5, h6, h7⟩ := ht
  unfold k_X9_signOf
  rw [h3]
  refine ⟨fun c => absurd c (nI_pos (by omega)), fun _ => ⟨h1, fun c => absurd ((nI_leI (by omega) (by omega)).mp c) (by omega), fun _ => ⟨h1, a, h4, h5, fun _ => ⟨h1, a, h4, cX_mk h5 h6 (by decide) (show k < 40 by omega) rfl, ?_⟩, fun c => ?_⟩⟩⟩
  · rw [nI_clamp (by omega), (h7 k hk).1]; exact h
  · rw [h6] at c
    exact absurd ((nI_ltI (by omega) (by decide)).mpr (show k < 40 by omega)) c
theorem q_withDigit {Q : Int64 → cS → Prop} {x s d : Nat} (hs : s < 2 ^ 31) (hd : d < 2 ^ 31) (h : Q (lN (x + if s < 12 then d * 37 ^ (11 - s) else 0)) S) : k_X9_withDigit Q dp (lN x) (nI s) (nI d) S := by
  unfold k_X9_withDigit k_X9_withDigit_10
  refine ⟨fun c => absurd c (nI_pos hs), fun _ => ⟨fun c => ?_, fun c => ?_⟩⟩
  · have c : s < 12 := (nI_ltI hs (by decide)).mp c
    rw [if_pos c] at h
    rw [pk_sub (show s ≤ 11 by omega), nI_clamp (by omega), nI_l hd, lN_mul, lN_add]
    exact ⟨pk_in (11 - s) 12 (by omega), h⟩
  · have c : ¬ s < 12 := fun q => c ((nI_ltI hs (by decide)).mpr q)
    rw [if_neg c] at h; exact h
set_option maxHeartbeats 1000000 in
theorem q_readWordsOf {Q : cS → Prop} {L t w n : Nat} {P : Nat → Nat} (ht : tSg S t n P) (hl : lWd3 S L w) (h : ∀ r : Nat → Int64, (∀ j, j < wdC P n → r j = lN (wdW P n j)) → Q (cRJ (cSi S 98 L (nI (wdC P n))) w r)) : k_X3_readWordsOf Q dp L t S := by
  have hn : n ≤ 40 := ht.2.1
  obtain ⟨l1, l2, l3, l4⟩ := id hl
  unfold k_X3_readWordsOf
  refine ⟨l1, ?_⟩
  rintro _ rfl
  unfold k_X3_readWordsOf_9L
  refine lfp_ind (I := fun y => ∃ (k : Nat) (r : Nat → Int64), k ≤ n ∧ (∀ q, q < (rdS P k).2.1 → r q = lN ((rdS P k).2.2 q)) ∧ y = (L, t, nI (rdS P k).1, nI k, cRJ (cSi S 98 L (nI (rdS P k).2.1)) w r)) (μ := fun y => n - y.2.2.2.1.toNatClampNeg) ?_ ⟨0, cJ S w, Nat.zero_le _, fun q z => absurd z (Nat.not_lt_zero q), by
    rw [show cJ S w = cJ (cSi S 98 L (nI (rdS P 0).2.1)) w from rfl, cRJ_id]; rfl⟩
  rintro R _ ⟨k, r, hk, hr, rfl⟩ ih
  show k_X3_readWordsOf_9 Q dp _ L t (nI (rdS P k).1) (nI k) (cRJ (cSi S 98 L (nI (rdS P k).2.1)) w r)
  obtain ⟨i1, i2, i3⟩ := rdS_inv P k
  have tT : ∀ (z : Int32) (r : Nat → Int64), tSg (cRJ (cSi S 98 L z) w r) t n P := by
    intro z r
    obtain ⟨h1, h2, h3, h4⟩ := ht
    exact ⟨h1, h2, (cSi_nq (S := S) (q := 98) (a := L) (x := z) (show (289 : Nat) ≠ 98 by decide)).trans h3, h4⟩
  have e98 : ∀ (z : Int32) (r : Nat → Int64), ci (cRJ (cSi S 98 L z) w r) 98 L = z := fun z r => cSi_at (S := S) (q := 98) (a := L) (x := z)
  have go : ∀ (x : Int32) (c : Nat) (r' : Nat → Int64), k < n → x = nI (rdS P (k + 1)).1 → c = (rdS P (k + 1)).2.1 → (∀ q, q < c → r' q = lN ((rdS P (k + 1)).2.2 q)) → k_X3_readWordsOf_111 Q dp (fun b0 b1 b2 b3 S => R (b0, b1, b2, b3, S)) L t x (nI k) (cRJ (cSi S 98 L (nI c)) w r') := by
    intro x c r' hkn hx hc hr'
    unfold k_X3_readWordsOf_111
    rintro _ rfl
    rw [nI_add]
    refine ih _ ⟨k + 1, r', by omega, by rw [← hc]; exact hr', by rw [hx, hc]⟩ ?_
    show n - (nI (k + 1)).toNatClampNeg < n - (nI k).toNatClampNeg
    rw [nI_clamp (by omega), nI_clamp (by omega)]
    omega
  unfold k_X3_readWordsOf_9
  have h289 := (tT (nI (rdS P k).2.1) r).2.2.1
  rw [h289]
  refine ⟨ht.1, fun c => ?_, fun c => ⟨ht.1, ?_⟩⟩
  · have c := (nI_leI (by omega) (by omega)).mp c
    obtain rfl : k = n := by omega
    exact h r hr
  · have c : k < n := by have := mt (nI_leI (by omega) (by omega)).mpr c; omega
    obtain ⟨a, -, -, -, hPk⟩ := ht.2.2.2
    have hfl := figN_lt (P k)
    refine q_signOf (tT _ _) c (q_digitOf (hPk k c).2 ⟨fun c1 => ?_, fun c1 => ?_⟩)
    · have c1 : 0 < figN (P k) := by have := mt (nI_z (x := figN (P k)) (by omega)).mpr c1; omega
      have put : ∀ (c1 : Nat) (r1 : Nat → Int64) (x : Nat), 1 ≤ c1 → c1 ≤ 20 → r1 (c1 - 1) = lN x → c1 = (rdS P (k + 1)).2.1 → (rdS P k).1 + 1 = (rdS P (k + 1)).1 → (∀ q, q < c1 → upR r1 (c1 - 1) (lN (x + if (rdS P k).1 < 12 then figN (P k) * 37 ^ (11 - (rdS P k).1) else 0)) q = lN ((rdS P (k + 1)).2.2 q)) → k_X3_readWordsOf_73 Q dp (fun b0 b1 b2 b3 S => R (b0, b1, b2, b3, S)) L t (nI (rdS P k).1) (nI k) (nI (figN (P k))) (cRJ (cSi S 98 L (nI c1)) w r1) := by
        intro c2 r1 x h1 h20 hx hc2 hs2 hr1
        unfold k_X3_readWordsOf_73
        rw [e98, pk_sub h1, nI_clamp (show c2 - 1 < 2 ^ 31 by omega)]
        have hXw : cX (cRJ (cSi S 98 L (nI c2)) w r1) w 15 (nI (c2 - 1)) := cX_mk (n := c2 - 1) l3 l4 (by decide) (by omega) rfl
        refine ⟨l1, fun q => absurd ((nI_le0 (by omega)).mp q) (by omega), fun _ => ⟨l1, w, l2, l1, l1, w, l2, l1, hXw, ?_⟩⟩
        rw [cRJ_at, hx]
        refine q_withDigit (by omega) (by omega) ⟨hXw, ?_⟩
        rintro _ rfl
        rw [cSJ_R]
        unfold k_X3_readWordsOf_108
        rintro _ rfl
        rw [nI_add]
        exact go _ c2 _ c (by rw [hs2]) hc2 hr1
      refine ⟨fun d => ?_, fun d => ?_⟩
      · have d : 0 < (rdS P k).1 := by have := mt (nI_z (x := (rdS P k).1) (by omega)).mpr d; omega
        obtain ⟨j1, j2⟩ := i2 d
        have e := rdS_I (P := P) (k := k) c1 d
        refine put _ r ((rdS P k).2.2 ((rdS P k).2.1 - 1)) j2 (by omega) (hr _ (by omega)) (by rw [e]) (by rw [e]) ?_
        rw [e]
        exact rd_rI hr
      · have d : (rdS P k).1 = 0 := (nI_z (by omega)).mp d
        have j3 := i3 d
        have e := rdS_N (P := P) (k := k) c1 d
        rw [e98]
        have hcn : cn (cRJ (cSi S 98 L (nI (rdS P k).2.1)) w r) w = 20 := l4
        refine ⟨l1, l1, w, l2, l3, fun q => ?_, fun _ => ⟨l1, w, l2, l1, cX_mk (n := (rdS P k).2.1) l3 l4 (by decide) (by omega) rfl, ?_⟩⟩
        · rw [hcn] at q
          exact absurd ((nI_leI (by decide) (by omega)).mp q) (by omega)
        · rintro _ rfl
          rw [nI_clamp (by omega), cSJ_R]
          refine ⟨l1, l1, ?_⟩
          rintro _ rfl
          rw [e98, nI_add]
          have e3 : cSi (cRJ (cSi S 98 L (nI (rdS P k).2.1)) w (upR r (rdS P k).2.1 0)) 98 L (nI ((rdS P k).2.1 + 1)) = cRJ (cSi S 98 L (nI ((rdS P k).2.1 + 1))) w (upR r (rdS P k).2.1 0) := by
            show cRJ (cSi (cSi S 98 L (nI (rdS P k).2.1)) 98 L (nI ((rdS P k).2.1 + 1))) w _ = _
            rw [cSi_s]
          rw [e3]
          refine put _ (upR r (rdS P k).2.1 0) 0 (by omega) (by omega) (by rw [upR_e (by omega)]; rfl) (by rw [e]) (by rw [e, d]) ?_
          rw [e, d, if_pos (by decide)]
          exact rd_rN hr
    · have c1 : figN (P k) = 0 := (nI_z (by omega)).mp c1
      have e := rdS_0 (P := P) (k := k) c1
      exact go (nI 0) _ r c (by rw [e]) (by rw [e]) (by rw [e]; exact hr)
end PL
