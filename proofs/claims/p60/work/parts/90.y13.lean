/-! bits and bytes -/
def nM (n : Nat) : Int32 := nI n - nI 1
theorem nM_s (n : Nat) : nM (n + 1) = nI n := pk_sub (Nat.le_add_left 1 n)
theorem nM_0 : nM 0 = -1 := by decide
theorem nI_m1 (n : Nat) : nI n + (-1) = nM n := by
  cases n with
  | zero => decide
  | succ n => rw [pk_m1, nM_s]
theorem nI_nM {i l : Nat} (h : l ≤ i) : nI i - nM l - nI 1 = nI (i - l) := by
  rw [← pk_sub h]
  unfold nM
  grind
def sB (n : Nat) : Int32 := (nI n).toInt8.toInt32
theorem sB_or {v r : Nat} (hv : v < 256) (hr : r < 8) : ((sB v) ||| ((nI 128 >>> (nI r &&& 31)).toInt8.toInt32)).toInt8.toInt32 = sB (v ||| 2 ^ (7 - r)) := by
  have : ∀ (v : Fin 256) (r : Fin 8), ((sB v.val) ||| ((nI 128 >>> (nI r.val &&& 31)).toInt8.toInt32)).toInt8.toInt32 = sB (v.val ||| 2 ^ (7 - r.val)) := by decide +kernel
  exact this ⟨v, hv⟩ ⟨r, hr⟩
theorem sB_bit {v r : Nat} (hv : v < 256) (hr : r < 8) : (sB v >>> ((nI 7 - nI r) &&& 31)) &&& nI 1 = bI (v.testBit (7 - r)) := by
  have : ∀ (v : Fin 256) (r : Fin 8), (sB v.val >>> ((nI 7 - nI r.val) &&& 31)) &&& nI 1 = bI (v.val.testBit (7 - r.val)) := by decide +kernel
  exact this ⟨v, hv⟩ ⟨r, hr⟩
/-- the byte k of bits -/
def byF (f : Nat → Bool) (k : Nat) : Nat → Nat
  | 0 => 0
  | i + 1 => byF f k i ||| (if f (8 * k + i) = true then 2 ^ (7 - i) else 0)
def byV (l : List Bool) (k : Nat) : Nat := byF (fun i => l.getD i false) k 8
theorem byF_tb {f : Nat → Bool} {k j : Nat} : ∀ {n : Nat}, (byF f k n).testBit j = true ↔ ∃ i, i < n ∧ f (8 * k + i) = true ∧ 7 - i = j
  | 0 => by
    constructor
    · intro h; rw [byF, Nat.zero_testBit] at h; exact Bool.noConfusion h
    · rintro ⟨i, hi, -⟩; omega
  | n + 1 => by
    rw [byF, Nat.testBit_or, Bool.or_eq_true, byF_tb]
    constructor
    · rintro (⟨i, hi, h⟩ | h)
      · exact ⟨i, by omega, h⟩
      · by_cases c : f (8 * k + n) = true
        · rw [if_pos c, Nat.testBit_two_pow] at h
          exact ⟨n, by omega, c, of_decide_eq_true h⟩
        · rw [if_neg c, Nat.zero_testBit] at h; exact Bool.noConfusion h
    · rintro ⟨i, hi, h1, h2⟩
      rcases Nat.lt_or_ge i n with z | z
      · exact Or.inl ⟨i, z, h1, h2⟩
      · obtain rfl : i = n := by omega
        refine Or.inr ?_
        rw [if_pos h1, Nat.testBit_two_pow]
        exact decide_eq_true h2
theorem byF_lt {f : Nat → Bool} {k : Nat} : ∀ {n : Nat}, byF f k n < 2 ^ 8
  | 0 => Nat.two_pow_pos 8
  | n + 1 => by
    rw [byF]
    refine Nat.or_lt_two_pow byF_lt ?_
    split
    · exact Nat.pow_lt_pow_right (by decide) (by omega)
    · decide
theorem byV_tb {l : List Bool} {k i : Nat} (hi : i < 8) : (byV l k).testBit (7 - i) = l.getD (8 * k + i) false := by
  rw [Bool.eq_iff_iff]
  unfold byV
  rw [byF_tb]
  constructor
  · rintro ⟨j, hj, h1, h2⟩
    obtain rfl : j = i := by omega
    exact h1
  · intro h; exact ⟨i, hi, h, rfl⟩
theorem getD_app {l : List Bool} {b : Bool} {i : Nat} : (l ++ [b]).getD i false = if i = l.length then b else l.getD i false := by
  rcases Nat.lt_trichotomy i l.length with h | h | h
  · rw [if_neg (by omega), List.getD_eq_getElem?_getD, List.getElem?_append_left h, ← List.getD_eq_getElem?_getD]
  · rw [if_pos h, List.getD_eq_getElem?_getD, List.getElem?_append_right (by omega), h, Nat.sub_self]; rfl
  · rw [if_neg (by omega), List.getD_eq_getElem?_getD, List.getD_eq_getElem?_getD, List.getElem?_eq_none (by rw [List.length_append, List.length_singleton]; omega), List.getElem?_eq_none (by omega)]
theorem byV_app {l : List Bool} {b : Bool} {k : Nat} : byV (l ++ [b]) k = if k = l.length / 8 ∧ b = true then byV l k ||| 2 ^ (7 - l.length % 8) else byV l k := by
  apply Nat.eq_of_testBit_eq
  intro j
  rw [Bool.eq_iff_iff]
  have hd := Nat.div_add_mod l.length 8
  have hm := Nat.mod_lt l.length (show 0 < 8 by decide)
  by_cases c : k = l.length / 8 ∧ b = true
  · rw [if_pos c, Nat.testBit_or, Bool.or_eq_true, Nat.testBit_two_pow]
    unfold byV
    rw [byF_tb, byF_tb]
    constructor
    · rintro ⟨i, hi, h1, h2⟩
      rw [getD_app] at h1
      by_cases e : 8 * k + i = l.length
      · exact Or.inr (decide_eq_true (by omega))
      · rw [if_neg e] at h1
        exact Or.inl ⟨i, hi, h1, h2⟩
    · rintro (⟨i, hi, h1, h2⟩ | h)
      · refine ⟨i, hi, ?_, h2⟩
        rw [getD_app]
        split
        · exact c.2
        · exact h1
      · have h := of_decide_eq_true h
        refine ⟨l.length % 8, hm, ?_, h⟩
        rw [getD_app, if_pos (by omega)]
        exact c.2
  · rw [if_neg c]
    unfold byV
    rw [byF_tb, byF_tb]
    constructor
    · rintro ⟨i, hi, h1, h2⟩
      rw [getD_app] at h1
      by_cases e : 8 * k + i = l.length
      · rw [if_pos e] at h1
        exact absurd ⟨by omega, h1⟩ c
      · rw [if_neg e] at h1
        exact ⟨i, hi, h1, h2⟩
    · rintro ⟨i, hi, h1, h2⟩
      refine ⟨i, hi, ?_, h2⟩
      rw [getD_app]
      split
      · rename_i e
        rw [List.getD_eq_getElem?_getD, List.getElem?_eq_none (by omega)] at h1
        exact Bool.noConfusion h1
      · exact h1
theorem byV_0 {l : List Bool} {k : Nat} (h : l.length ≤ 8 * k) : byV l k = 0 := by
  apply Nat.eq_of_testBit_eq
  intro j
  rw [Nat.zero_testBit, ← Bool.not_eq_true]
  unfold byV
  rw [byF_tb]
  rintro ⟨i, hi, h1, h2⟩
  rw [List.getD_eq_getElem?_getD, List.getElem?_eq_none (by omega)] at h1
  exact Bool.noConfusion h1
/-- a row of bytes grows with the bits -/
def capB : Nat → Nat
  | 0 => 4
  | n + 1 => if n = 8 * capB n then 2 * capB n + 4 else capB n
def gB : Nat → Nat
  | 0 => 0
  | n + 1 => gB n + (if n = 8 * capB n then 1 else 0)
def sG : Nat → Nat
  | 0 => 0
  | n + 1 => sG n + (if n = 8 * capB n then 2 * capB n + 4 else 0)
theorem cap_inv : ∀ n : Nat, n ≤ 8 * capB n ∧ 4 * capB n ≤ n + 16 ∧ 8 * gB n + 4 ≤ capB n ∧ sG n + 8 ≤ 2 * capB n
  | 0 => by decide
  | n + 1 => by
    obtain ⟨h1, h2, h3, h4⟩ := cap_inv n
    rw [capB, gB, sG]
    split <;> omega
theorem cap_mono (n : Nat) : ∀ k : Nat, gB n ≤ gB (n + k) ∧ sG n ≤ sG (n + k)
  | 0 => ⟨Nat.le_refl _, Nat.le_refl _⟩
  | k + 1 => by
    obtain ⟨h1, h2⟩ := cap_mono n k
    show gB n ≤ gB (n + k) + _ ∧ sG n ≤ sG (n + k) + _
    exact ⟨Nat.le_trans h1 (Nat.le_add_right _ _), Nat.le_trans h2 (Nat.le_add_right _ _)⟩
/-- the bits of a number, the highest of them first -/
def bitsN (n : Nat) : Nat → List Bool
  | 0 => []
  | w + 1 => n.testBit w :: bitsN n w
theorem bitsN_len (n : Nat) : ∀ w : Nat, (bitsN n w).length = w
  | 0 => rfl
  | w + 1 => by rw [bitsN, List.length_cons, bitsN_len]
section CB
variable {S T U : cS} {dp : Nat}
theorem q_copyB {Q : Nat → cS → Prop} {a n m mc ms : Nat} (hA : cA S a 13) (hn : cn S a = n) (hb : ∀ k, k < n → ∃ v, cI S a k = sB v) (h1 : n < m) (hm : m < 2 ^ 20) (hc : 1 ≤ mc) (hs : m ≤ ms) (h : ∀ T q, q ∉ cL S → cSub S T (fun _ => False) → cA T q 13 → cn T q = m → (∀ k, k < n → cI T q k = cI S a k) → (∀ k, n ≤ k → cI T q k = 0) → Q q T) : k_J7_copyOf_9075b Q dp mc ms a (nI m) S := by
  unfold k_J7_copyOf_9075b
  refine ⟨hA, w_ne m n (fun _ => ⟨m, rfl, hm, by omega, by omega, ?_⟩) (fun e => absurd e (by omega)) rfl (by rw [hn])⟩
  intro q hq S3 e3
  have s3 : cSub S S3 (fun _ => False) := e3 ▸ sub_A hq
  have hqa : a ≠ q := cm_nq hq hA.1
  have a3 := sub_A1 s3 hA
  have n3 : cn S3 a = n := (sub_cn s3 hA).trans hn
  have q3 : cA S3 q 13 := ⟨hm_Ao e3, hk_Ao e3⟩
  have I3 : cI S3 a = cI S a := hI_A e3 hqa rfl
  rw [n3, if_neg (fun z => absurd ((nI_ltI (by omega) (by omega)).mp z) (by omega)), nI_clamp (by omega), nI_clamp (by omega)]
  refine ⟨a3, ⟨by omega, by omega⟩, ⟨a3, q3, nI_pos (by decide), nI_pos (by decide), nI_pos (by omega), ?_, ?_, fun _ i hi => ?_, fun z => absurd z (by decide)⟩, ?_⟩
  · rw [nI_clamp (by omega), nI_clamp (by omega), n3]; omega
  · rw [nI_clamp (by omega), nI_clamp (by omega), hn_Ao e3]; omega
  · rw [nI_clamp (by omega)] at hi
    rw [nI_clamp (by omega), Nat.zero_add, I3]
    obtain ⟨v, hv⟩ := hb i hi
    rw [hv]
    exact pk_fb _
  intro S4 e4
  refine ⟨⟨by omega, by omega⟩, h S4 q hq ?_ ?_ ?_ ?_ ?_⟩
  · rw [e4]
    exact fun b hb => ⟨(s3 b hb).1, fun hF => ⟨((s3 b hb).2 hF).1, (upR_n (cm_nq hq hb)).trans ((s3 b hb).2 hF).2.1, ((s3 b hb).2 hF).2.2.1, ((s3 b hb).2 hF).2.2.2⟩⟩
  · rw [e4]; exact q3
  · exact (show cn S4 q = cn S3 q by rw [e4]; rfl).trans (hn_Ao e3)
  · intro k hk
    rw [e4]
    show upR (cI S3) q _ q k = _
    rw [upR_s, pk_cpy_in (Nat.zero_le _) (by omega), I3]
    congr 1; omega
  · intro k hk
    rw [e4]
    show upR (cI S3) q _ q k = _
    rw [upR_s, pk_cpy_out (Or.inr (by omega)), hI_Ao e3]
end CB
