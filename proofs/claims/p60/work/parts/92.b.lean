/-! a document of the law's own, as a number: its key, five words a field, its category, its number -/
def dgt (n k : Nat) : Nat := n / 16 ^ k % 16
def wdN (n f p : Nat) : Nat := if p < 5 then dgt n (1 + 5 * f + p) else 0
def tkI (w : Nat) : Option Nat := if w = 1 ∨ w = 2 then some 0 else if 2 < w ∧ w < 7 then some (w - 2) else none
def tkB (o : Option Nat) (t : Nat) : Bool := match o with
  | none => false
  | some k => decide (k = t) || (decide (k = 0) && decide (t = 2))
def hsN (n f p t : Nat) : Bool := tkB (tkI (wdN n f p)) t
def cuN (n f t : Nat) : Nat := cntB (fun p => hsN n f p t) 5
def phB (n i : Nat) : Bool := hsN n 0 i 0 && (hsN n 0 (i + 2) 2 || hsN n 0 (i + 3) 2)
def nrB (n i : Nat) : Bool := hsN n 0 i 0 && ((decide (2 ≤ i) && hsN n 0 (i - 2) 3) || ((decide (1 ≤ i) && hsN n 0 (i - 1) 3) || (hsN n 0 (i + 1) 3 || hsN n 0 (i + 2) 3)))
def lcN (n l : Nat) : Nat := if l = 2 then cntB (phB n) 5 else if l = 3 then cntB (nrB n) 5 else if l = 0 ∨ l = 6 then cuN n 0 0 else if l = 1 then cuN n 1 2 else if l = 4 then cuN n 0 1 else if l = 5 then cuN n 1 4 else if l = 7 then cuN n 0 3 else cuN n 0 4
def stN (c : Nat) : Nat := if c = 0 then 0 else 64 * c / (c + 1)
def tnN (w : Nat) : Nat := if w = 0 ∨ w = 7 then 0 else if w < 3 then 2 else 1
def toN (n f : Nat) : Nat := smN (fun p => tnN (wdN n f p)) 5
theorem wdN_lt (n f p : Nat) : wdN n f p < 16 := by
  unfold wdN dgt
  split
  · exact Nat.mod_lt _ (by decide)
  · decide
theorem cuN_le (n f t : Nat) : cuN n f t ≤ 5 := cntB_le _ 5
theorem lcN_le (n l : Nat) : lcN n l ≤ 5 := by
  unfold lcN
  repeat' split
  all_goals first | exact cntB_le _ 5 | exact cuN_le _ _ _
theorem stN_le (c : Nat) : stN c ≤ 64 := by
  unfold stN
  split
  · omega
  · have : 64 * c / (c + 1) ≤ 64 * (c + 1) / (c + 1) := Nat.div_le_div_right (by omega)
    rwa [Nat.mul_div_cancel _ (by omega)] at this
section LB
variable {Q : Int32 → cS → Prop} {S : cS} {dp n f p t i : Nat}
theorem q_L_word (hn : n < 2 ^ 63) (hf : f < 2) (hp : p < 100) (h : Q (nI (wdN n f p)) S) : k_L_word Q dp (lN n) (nI f) (nI p) S := by
  unfold k_L_word
  refine w_pos p ?_
  refine pk_le p 4 (fun c => ?_) (fun c => ?_)
  · rw [pk_mul, pk_mul, nI_add, nI_add, jUs_N hn (by omega), lN_and15, lN_toI]
    unfold wdN dgt at h
    rw [if_pos (by omega)] at h
    rw [show 2 ^ (4 + 20 * f + 4 * p) = 16 ^ (1 + 5 * f + p) from by
      rw [show (16 : Nat) = 2 ^ 4 from rfl, ← Nat.pow_mul]
      congr 1
      omega]
    exact h
  · unfold wdN at h
    rw [if_neg (by omega)] at h
    exact h
theorem q_L_wordM {y z : Int32} (hy : y < 0) (h : Q (nI 0) S) : k_L_word Q dp (lN n) z y S := by
  unfold k_L_word
  exact ⟨fun _ => h, fun c => absurd hy c⟩
theorem has45 {k : Nat} (hk : k < 100) (ht : t < 100) (h : Q (bI (tkB (some k) t)) S) : k_L_has_45 Q dp (nI t) (nI k) S := by
  unfold k_L_has_45
  replace h : Q (bI (decide (k = t) || (decide (k = 0) && decide (t = 2)))) S := h
  refine w_pos k ?_
  refine pk_eq k t (fun c => ?_) (fun c => ?_)
  · rw [show (decide (k = t) || (decide (k = 0) && decide (t = 2))) = true from by simp [c]] at h
    exact h
  · refine w_nz k (fun d => ?_) (fun d => ?_)
    · rw [show (decide (k = t) || (decide (k = 0) && decide (t = 2))) = false from by simp [c]; omega] at h
      exact h
    · refine w_ne t 2 (fun e => ?_) (fun e => ?_)
      · rw [show (decide (k = t) || (decide (k = 0) && decide (t = 2))) = false from by simp [c, e]] at h
        exact h
      · rw [show (decide (k = t) || (decide (k = 0) && decide (t = 2))) = true from by simp [d, e]] at h
        exact h
theorem has44 (h : Q (bI false) S) {y : Int32} : k_L_has_44 Q dp y S := by
  unfold k_L_has_44 k_L_has_45
  exact ⟨fun _ => h, fun c => absurd (by decide : (-1 : Int32) < 0) c⟩
theorem hasW {w : Nat} (hw : w < 16) (ht : t < 100) (h : Q (bI (tkB (tkI w) t)) S) : ((nI w = nI 1 → k_L_has_45 Q dp (nI t) (nI 0) S) ∧ (¬ nI w = nI 1 → ((¬ nI w = nI 2 → ((nI w ≤ nI 2 → k_L_has_44 Q dp (nI t) S) ∧ (¬ nI w ≤ nI 2 → ((nI 7 ≤ nI w → k_L_has_44 Q dp (nI t) S) ∧ (¬ nI 7 ≤ nI w → k_L_has_45 Q dp (nI t) (nI w - nI 2) S))))) ∧ (nI w = nI 2 → k_L_has_45 Q dp (nI t) (nI 0) S)))) := by
  unfold tkI at h
  refine pk_eq w 1 (fun c => ?_) (fun c => ?_)
  · rw [if_pos (Or.inl c)] at h
    exact has45 (by omega) ht h
  · refine w_ne w 2 (fun d => ?_) (fun d => ?_)
    · rw [if_neg (by omega)] at h
      refine pk_le w 2 (fun e => ?_) (fun e => ?_)
      · rw [if_neg (by omega)] at h
        exact has44 h
      · refine pk_le 7 w (fun g => ?_) (fun g => ?_)
        · rw [if_neg (by omega)] at h
          exact has44 h
        · rw [if_pos (by omega)] at h
          rw [pk_sub (by omega)]
          exact has45 (by omega) ht h
    · rw [if_pos (Or.inr d)] at h
      exact has45 (by omega) ht h
theorem q_L_has (hn : n < 2 ^ 63) (hf : f < 2) (hp : p < 100) (ht : t < 100) (h : Q (bI (hsN n f p t)) S) : k_L_has Q dp (lN n) (nI f) (nI p) (nI t) S := by
  unfold k_L_has
  exact q_L_word hn hf hp (hasW (wdN_lt n f p) ht h)
theorem q_L_hasS {a : Nat} (hn : n < 2 ^ 63) (hf : f < 2) (hp : i < 100) (ha : a < 100) (ht : t < 100) (h : Q (bI (decide (a ≤ i) && hsN n f (i - a) t)) S) : k_L_has Q dp (lN n) (nI f) (nI i - nI a) (nI t) S := by
  by_cases c : a ≤ i
  · rw [pk_sub c]
    rw [show (decide (a ≤ i) && hsN n f (i - a) t) = hsN n f (i - a) t from by simp [c]] at h
    exact q_L_has hn hf (by omega) ht h
  · rw [show (decide (a ≤ i) && hsN n f (i - a) t) = false from by simp [c]] at h
    unfold k_L_has
    exact q_L_wordM (pk_sneg (by omega) (by omega)) (hasW (w := 0) (by decide) ht h)
theorem q_L_count (hn : n < 2 ^ 63) (hf : f < 2) (ht : t < 100) (h : Q (nI (cuN n f t)) S) : k_L_count Q dp (lN n) (nI f) (nI t) S := by
  unfold k_L_count k_L_count_6L
  refine lfp_cnt 5 (fun k y => y = (lN n, nI f, nI t, nI (cntB (fun p => hsN n f p t) k), nI k, S)) ?_ rfl
  rintro P k _ hk rfl ih
  show k_L_count_6 Q dp _ (lN n) (nI f) (nI t) _ (nI k) S
  unfold k_L_count_6
  refine pk_le 5 k (fun c => ?_) (fun c => ?_)
  · obtain rfl : k = 5 := by omega
    exact h
  · refine q_L_has hn hf (by omega) ht ?_
    refine w_B0 (fun e => ?_) (fun e => ?_)
    all_goals
      unfold k_L_count_30
      intro a ea b eb
      refine ih _ c ?_
      rw [ea, eb, nI_add, nI_add, cntB, e]
      rfl
theorem lc152 {b : Bool} {x3 : Nat} {R : Int64 → Int32 → Int32 → cS → Prop} (hn : n < 2 ^ 63) (hi : i < 5) (h : R (lN n) (nI (x3 + if (hsN n 0 i 0 && b) = true then 1 else 0)) (nI (i + 1)) S) : k_L_leafCount_152 Q dp R (lN n) (nI x3) (nI i) (bI b) S := by
  unfold k_L_leafCount_152
  refine q_L_has (f := 0) (t := 0) hn (by decide) (by omega) (by decide) ?_
  refine w_B0 (fun e => ?_) (fun e => ?_)
  · unfold k_L_leafCount_175 k_L_leafCount_176
    intro a ea b eb
    rw [ea, eb, nI_add, nI_add]
    rw [e] at h
    exact h
  · refine w_B0 (fun d => ?_) (fun d => ?_)
    · unfold k_L_leafCount_175 k_L_leafCount_176
      intro a ea b eb
      rw [ea, eb, nI_add, nI_add]
      rw [e, d] at h
      exact h
    · unfold k_L_leafCount_176
      intro a ea b eb
      rw [ea, eb, nI_add, nI_add]
      rw [e, d] at h
      exact h
theorem lc47 {b : Bool} {x3 : Nat} {R : Int64 → Int32 → Int32 → cS → Prop} (hn : n < 2 ^ 63) (hi : i < 5) (h : R (lN n) (nI (x3 + if (hsN n 0 i 0 && b) = true then 1 else 0)) (nI (i + 1)) S) : k_L_leafCount_47 Q dp R (lN n) (nI x3) (nI i) (bI b) S := by
  unfold k_L_leafCount_47
  refine q_L_has (f := 0) (t := 0) hn (by decide) (by omega) (by decide) ?_
  refine w_B0 (fun e => ?_) (fun e => ?_)
  · unfold k_L_leafCount_70 k_L_leafCount_71
    intro a ea b eb
    rw [ea, eb, nI_add, nI_add]
    rw [e] at h
    exact h
  · refine w_B0 (fun d => ?_) (fun d => ?_)
    · unfold k_L_leafCount_70 k_L_leafCount_71
      intro a ea b eb
      rw [ea, eb, nI_add, nI_add]
      rw [e, d] at h
      exact h
    · unfold k_L_leafCount_71
      intro a ea b eb
      rw [ea, eb, nI_add, nI_add]
      rw [e, d] at h
      exact h
theorem q_L_phr (hn : n < 2 ^ 63) (h : Q (nI (cntB (phB n) 5)) S) : k_L_leafCount_10L Q dp (lN n) (nI 0) (nI 0) S := by
  unfold k_L_leafCount_10L
  refine lfp_cnt 5 (fun k y => y = (lN n, nI (cntB (phB n) k), nI k, S)) ?_ rfl
  rintro P k _ hk rfl ih
  show k_L_leafCount_10 Q dp _ (lN n) _ (nI k) S
  unfold k_L_leafCount_10
  refine pk_le 5 k (fun c => ?_) (fun c => ?_)
  · obtain rfl : k = 5 := by omega
    exact h
  · have hh : ∀ b : Bool, b = (hsN n 0 (k + 2) 2 || hsN n 0 (k + 3) 2) → k_L_leafCount_47 Q dp (fun b0 b1 b2 S => P (b0, b1, b2, S)) (lN n) (nI (cntB (phB n) k)) (nI k) (bI b) S := fun b hb => lc47 hn c (ih _ c (by rw [cntB, hb]; rfl))
    rw [nI_add, nI_add]
    refine q_L_has (f := 0) (t := 2) hn (by decide) (by omega) (by decide) ?_
    refine w_Bn (fun e => hh true (by simp [e])) (fun e => ?_)
    refine q_L_has (f := 0) (t := 2) hn (by decide) (by omega) (by decide) ?_
    exact w_B0 (fun d => hh false (by simp [e, d])) (fun d => hh true (by simp [d]))
theorem q_L_nea (hn : n < 2 ^ 63) (h : Q (nI (cntB (nrB n) 5)) S) : k_L_leafCount_89L Q dp (lN n) (nI 0) (nI 0) S := by
  unfold k_L_leafCount_89L
  refine lfp_cnt 5 (fun k y => y = (lN n, nI (cntB (nrB n) k), nI k, S)) ?_ rfl
  rintro P k _ hk rfl ih
  show k_L_leafCount_89 Q dp _ (lN n) _ (nI k) S
  unfold k_L_leafCount_89
  refine pk_le 5 k (fun c => ?_) (fun c => ?_)
  · obtain rfl : k = 5 := by omega
    exact h
  · have hh : ∀ b : Bool, b = ((decide (2 ≤ k) && hsN n 0 (k - 2) 3) || ((decide (1 ≤ k) && hsN n 0 (k - 1) 3) || (hsN n 0 (k + 1) 3 || hsN n 0 (k + 2) 3))) → k_L_leafCount_152 Q dp (fun b0 b1 b2 S => P (b0, b1, b2, S)) (lN n) (nI (cntB (nrB n) k)) (nI k) (bI b) S := fun b hb => lc152 hn c (ih _ c (by rw [cntB, hb]; rfl))
    rw [nI_add, nI_add]
    refine q_L_hasS (f := 0) (t := 3) hn (by decide) (by omega) (by decide) (by decide) ?_
    refine w_Bn (fun e => hh true (by rw [e]; simp)) (fun e => ?_)
    refine q_L_hasS (f := 0) (t := 3) hn (by decide) (by omega) (by decide) (by decide) ?_
    refine w_Bn (fun e1 => hh true (by rw [e1]; simp)) (fun e1 => ?_)
    refine q_L_has (f := 0) (t := 3) hn (by decide) (by omega) (by decide) ?_
    refine w_Bn (fun e2 => hh true (by rw [e2]; simp)) (fun e2 => ?_)
    refine q_L_has (f := 0) (t := 3) hn (by decide) (by omega) (by decide) ?_
    exact w_B0 (fun d => hh false (by rw [e, e1, e2, d]; simp)) (fun d => hh true (by rw [d]; simp))
theorem q_L_leafCount {l : Nat} (hn : n < 2 ^ 63) (hl : l < 9) (h : Q (nI (lcN n l)) S) : k_L_leafCount Q dp (lN n) (nI l) S := by
  unfold lcN at h
  unfold k_L_leafCount
  refine w_ne l 2 (fun c2 => ?_) (fun c => ?_)
  · rw [if_neg c2] at h
    refine w_ne l 3 (fun c3 => ?_) (fun c => ?_)
    · rw [if_neg c3] at h
      refine w_z l (fun c0 => ?_) (fun c0 => ?_)
      · rw [if_pos (Or.inl c0)] at h
        exact q_L_count (f := 0) (t := 0) hn (by decide) (by decide) h
      · refine w_ne l 6 (fun c6 => ?_) (fun c => ?_)
        · rw [if_neg (by omega)] at h
          refine w_ne l 1 (fun c1 => ?_) (fun c => ?_)
          · rw [if_neg c1] at h
            refine w_ne l 4 (fun c4 => ?_) (fun c => ?_)
            · rw [if_neg c4] at h
              refine w_ne l 5 (fun c5 => ?_) (fun c => ?_)
              · rw [if_neg c5] at h
                refine w_ne l 7 (fun c7 => ?_) (fun c => ?_)
                · rw [if_neg c7] at h
                  exact q_L_count (f := 0) (t := 4) hn (by decide) (by decide) h
                · rw [if_pos c] at h
                  exact q_L_count (f := 0) (t := 3) hn (by decide) (by decide) h
              · rw [if_pos c] at h
                exact q_L_count (f := 1) (t := 4) hn (by decide) (by decide) h
            · rw [if_pos c] at h
              exact q_L_count (f := 0) (t := 1) hn (by decide) (by decide) h
          · rw [if_pos c] at h
            exact q_L_count (f := 1) (t := 2) hn (by decide) (by decide) h
        · rw [if_pos (Or.inr c)] at h
          exact q_L_count (f := 0) (t := 0) hn (by decide) (by decide) h
    · rw [if_pos c] at h
      exact q_L_nea hn h
  · rw [if_pos c] at h
    exact q_L_phr hn h
theorem st_eq {c : Nat} (h : 0 < c) : 64 - (64 + c) / (c + 1) = 64 * c / (c + 1) := by
  have e : 64 * (c + 1) = 64 * c + 64 := by omega
  have d := Nat.div_add_mod (64 + c) (c + 1)
  have m := Nat.mod_lt (64 + c) (Nat.succ_pos c)
  have hle : (64 + c) / (c + 1) ≤ 64 := by
    have : (64 + c) / (c + 1) ≤ (64 * (c + 1)) / (c + 1) := Nat.div_le_div_right (by omega)
    rwa [Nat.mul_div_cancel _ (by omega)] at this
  symm
  rw [Nat.div_eq_iff (by omega)]
  generalize (64 + c) / (c + 1) = q at *
  generalize (64 + c) % (c + 1) = r at *
  rw [Nat.sub_mul]
  have h1 : (c + 1) * q = q * (c + 1) := Nat.mul_comm _ _
  omega
theorem q_L_strength {c : Nat} (hc : c < 100) (h : Q (nI (stN c)) S) : k_L_strength Q dp (nI c) S := by
  unfold stN at h
  unfold k_L_strength
  refine w_nz c (fun d => ?_) (fun d => ?_)
  · rw [if_neg (by omega)] at h
    refine ⟨?_, ?_⟩
    · rw [nI_add]
      exact nI_ne0 (by omega) (by omega)
    · have hle : (64 + c) / (c + 1) ≤ 64 := by
        have : (64 + c) / (c + 1) ≤ (64 * (c + 1)) / (c + 1) := Nat.div_le_div_right (by omega)
        rwa [Nat.mul_div_cancel _ (by omega)] at this
      rw [nI_add, nI_add, pk_div (by omega) (by omega) (by omega), pk_sub hle, st_eq d]
      exact h
  · rw [if_pos d] at h
    exact h
theorem q_L_tokens (hn : n < 2 ^ 63) (hf : f < 2) (h : Q (nI (toN n f)) S) : k_L_tokens Q dp (lN n) (nI f) S := by
  unfold k_L_tokens k_L_tokens_5L
  refine lfp_cnt 5 (fun k y => y = (lN n, nI f, nI (smN (fun p => tnN (wdN n f p)) k), nI k, S)) ?_ rfl
  rintro P k _ hk rfl ih
  show k_L_tokens_5 Q dp _ (lN n) (nI f) _ (nI k) S
  unfold k_L_tokens_5
  refine pk_le 5 k (fun c => ?_) (fun c => ?_)
  · obtain rfl : k = 5 := by omega
    exact h
  · refine q_L_word hn hf (by omega) ?_
    have hw := wdN_lt n f k
    have hh : ∀ z : Nat, tnN (wdN n f k) = z → k_L_tokens_48 Q dp (fun b0 b1 b2 b3 S => P (b0, b1, b2, b3, S)) (lN n) (nI f) (nI k) (nI z) (nI (smN (fun p => tnN (wdN n f p)) k)) S := fun z hz => by
      unfold k_L_tokens_48
      intro a ea b eb
      refine ih _ c ?_
      rw [ea, eb, nI_add, nI_add, smN, hz]
    unfold tnN at hh
    refine w_z (wdN n f k) (fun d => hh 0 (if_pos (Or.inl d))) (fun d => ?_)
    refine w_ne (wdN n f k) 7 (fun e => ?_) (fun e => hh 0 (if_pos (Or.inr e)))
    rw [if_neg (by omega)] at hh
    exact pk_le 3 (wdN n f k) (fun g => hh 1 (if_neg (by omega))) (fun g => hh 2 (if_pos g))
theorem q_L_ones {a : Nat} (ha : a < 1024) (h : Q (nI (pcT a)) S) : k_L_ones Q dp (nI a) S := by
  unfold k_L_ones k_L_ones_4L
  refine lfp_ind (I := fun y => ∃ b, b < 1024 ∧ pcT b ≤ pcT a ∧ y = (nI (pcT a - pcT b), nI b, S)) (μ := fun y => y.2.1.toNatClampNeg) ?_ ⟨a, ha, Nat.le_refl _, by rw [Nat.sub_self]⟩
  rintro P _ ⟨b, hb, hle, rfl⟩ ih
  show k_L_ones_4 Q dp _ _ (nI b) S
  unfold k_L_ones_4
  refine w_z b (fun d => ?_) (fun d => ?_)
  · subst d
    rw [show pcT a - pcT 0 = pcT a from by rw [show pcT 0 = 0 from by decide]; rfl]
    exact h
  · have hlow := pcT_low ⟨b, hb⟩ (by show b ≠ 0; omega)
    have hlt : b &&& (b - 1) ≤ b - 1 := Nat.and_le_right
    have e : nI b &&& (nI b - nI 1) = nI (b &&& (b - 1)) := by rw [pk_sub (by omega), nI_and]
    intro x ex y ey
    rw [ex, ey, e]
    refine ih _ ⟨b &&& (b - 1), by omega, by have : pcT (b &&& (b - 1)) + 1 = pcT b := hlow; omega, ?_⟩ ?_
    · rw [nI_add]
      have : pcT (b &&& (b - 1)) + 1 = pcT b := hlow
      rw [show pcT a - pcT b + 1 = pcT a - pcT (b &&& (b - 1)) from by omega]
    · show (nI (b &&& (b - 1))).toNatClampNeg < (nI b).toNatClampNeg
      rw [nI_clamp (by omega), nI_clamp (by omega)]
      omega
theorem q_L_tier {a : Nat} (ha : a < 27) (h : Q (nI (tierN a)) S) : k_L_tier Q dp (nI a) S := by
  unfold tierN at h
  unfold k_L_tier
  refine pk_le 3 a (fun c => ?_) (fun c => ?_)
  · rw [if_neg (by omega)] at h
    refine pk_le 9 a (fun d => ?_) (fun d => ?_)
    · rw [if_neg (by omega), if_pos ha] at h
      exact h
    · rw [if_pos d] at h
      exact h
  · rw [if_pos c] at h
    exact h
end LB
