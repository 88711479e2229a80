/-! longs and ints as bits -/
theorem tn64 {n : Nat} (h : n < 2 ^ 64) : (lN n).toBitVec.toNat = n := Nat.mod_eq_of_lt h
theorem lN_or (a b : Nat) : lN a ||| lN b = lN (a ||| b) := by
  apply Int64.toBitVec_inj.1
  show BitVec.ofNat 64 a ||| BitVec.ofNat 64 b = BitVec.ofNat 64 (a ||| b)
  apply BitVec.eq_of_getLsbD_eq
  intro i hi
  simp [hi]
theorem lN_and (a b : Nat) : lN a &&& lN b = lN (a &&& b) := by
  apply Int64.toBitVec_inj.1
  show BitVec.ofNat 64 a &&& BitVec.ofNat 64 b = BitVec.ofNat 64 (a &&& b)
  apply BitVec.eq_of_getLsbD_eq
  intro i hi
  simp [hi]
theorem lN_and15 (a : Nat) : lN a &&& 15 = lN (a % 16) := by
  rw [show (15 : Int64) = lN 15 from rfl, lN_and, show (15 : Nat) = 2 ^ 4 - 1 from rfl, Nat.and_two_pow_sub_one_eq_mod]
theorem lN_and63 (a : Nat) : lN a &&& 63 = lN (a % 64) := by
  rw [show (63 : Int64) = lN 63 from rfl, lN_and, show (63 : Nat) = 2 ^ 6 - 1 from rfl, Nat.and_two_pow_sub_one_eq_mod]
theorem us_amt {p : Nat} (hp : p < 64) : (((nI p).toInt64.toUInt64 &&& Int64.toUInt64 63).toBitVec % 64).toNat = p := by
  have : ∀ j : Fin 64, (((nI j.val).toInt64.toUInt64 &&& Int64.toUInt64 63).toBitVec % 64).toNat = j.val := by decide +kernel
  exact this ⟨p, hp⟩
theorem sl_amt {p : Nat} (hp : p < 64) : (((nI p).toInt64 &&& 63).toBitVec.smod 64).toNat = p := by
  have : ∀ j : Fin 64, (((nI j.val).toInt64 &&& 63).toBitVec.smod 64).toNat = j.val := by decide +kernel
  exact this ⟨p, hp⟩
theorem jUs_N {n k : Nat} (hn : n < 2 ^ 63) (hk : k < 64) : jUs (lN n) (nI k) = lN (n / 2 ^ k) := by
  have e : (jUs (lN n) (nI k)).toBitVec = (lN n).toBitVec >>> k := by
    refine (UInt64.toBitVec_shiftRight _ _).trans ?_
    show (lN n).toBitVec >>> (((nI k).toInt64.toUInt64 &&& Int64.toUInt64 63).toBitVec % 64).toNat = _
    rw [us_amt hk]
  have h2 : n / 2 ^ k ≤ n := Nat.div_le_self _ _
  apply Int64.toBitVec_inj.mp
  apply BitVec.eq_of_toNat_eq
  rw [e, BitVec.toNat_ushiftRight, Nat.shiftRight_eq_div_pow, tn64 (by omega), tn64 (by omega)]
theorem jSl_N {n k : Nat} (hk : k < 64) (h : n * 2 ^ k < 2 ^ 64) : jSl (lN n) (nI k) = lN (n * 2 ^ k) := by
  have hn : n < 2 ^ 64 := Nat.lt_of_le_of_lt (Nat.le_mul_of_pos_right n (Nat.two_pow_pos k)) h
  have e : (jSl (lN n) (nI k)).toBitVec = (lN n).toBitVec <<< k := by
    show (lN n).toBitVec <<< (((nI k).toInt64 &&& 63).toBitVec.smod 64).toNat = _
    rw [sl_amt hk]
  apply Int64.toBitVec_inj.mp
  apply BitVec.eq_of_toNat_eq
  rw [e, BitVec.toNat_shiftLeft, Nat.shiftLeft_eq, tn64 hn, tn64 h, Nat.mod_eq_of_lt h]
theorem lN_orS {a b k : Nat} (ha : a < 2 ^ k) : lN a ||| lN (b * 2 ^ k) = lN (a + b * 2 ^ k) := by
  rw [lN_or]
  congr 1
  rw [Nat.or_comm, Nat.mul_comm b, ← Nat.two_pow_add_eq_or_of_lt ha, Nat.add_comm]
theorem lN_toI {n : Nat} : (lN n).toInt32 = nI n := lN_i n
theorem nI_toL {n : Nat} (h : n < 2 ^ 31) : (nI n).toInt64 = lN n := nI_l h
/-- bits told by a function -/
def bN (f : Nat → Bool) : Nat → Nat
  | 0 => 0
  | n + 1 => bN f n + (if f n = true then 2 ^ n else 0)
theorem bN_lt (f : Nat → Bool) : ∀ n : Nat, bN f n < 2 ^ n
  | 0 => Nat.one_pos
  | n + 1 => by
    have := bN_lt f n
    rw [bN, Nat.pow_succ]
    split <;> omega
theorem bN_le31 {f : Nat → Bool} {n : Nat} (h : n ≤ 30) : bN f n < 2 ^ 30 := Nat.lt_of_lt_of_le (bN_lt f n) (Nat.pow_le_pow_right (by decide) h)
theorem bN_tb (f : Nat → Bool) (j : Nat) : ∀ n : Nat, (bN f n).testBit j = (decide (j < n) && f j)
  | 0 => by simp [bN]
  | n + 1 => by
    have ih := bN_tb f j n
    have hl := bN_lt f n
    rw [bN]
    by_cases hf : f n = true
    · rw [if_pos hf, Nat.add_comm]
      rcases Nat.lt_trichotomy j n with h | h | h
      · rw [Nat.testBit_two_pow_add_gt h, ih]
        simp [h, Nat.lt_succ_of_lt h]
      · subst h
        rw [Nat.testBit_two_pow_add_eq, ih]
        simp [hf]
      · rw [Nat.testBit_lt_two_pow]
        · simp; omega
        · have : 2 ^ (n + 1) ≤ 2 ^ j := Nat.pow_le_pow_right (by decide) h
          rw [Nat.pow_succ] at this
          omega
    · rw [if_neg hf, Nat.add_zero, ih]
      by_cases h : j = n
      · subst h; simp [Bool.eq_false_iff.mpr hf]
      · have : j < n ↔ j < n + 1 := by omega
        simp [this]
theorem bN_ext {f g : Nat → Bool} : ∀ {n : Nat}, (∀ j, j < n → f j = g j) → bN f n = bN g n
  | 0, _ => rfl
  | n + 1, h => by rw [bN, bN, bN_ext (n := n) (fun j hj => h j (by omega)), h n (by omega)]
theorem bN_inj {f g : Nat → Bool} {n : Nat} (h : bN f n = bN g n) (j : Nat) (hj : j < n) : f j = g j := by
  have h1 := bN_tb f j n
  have h2 := bN_tb g j n
  rw [h, h2] at h1
  simpa [hj] using h1.symm
theorem bN_of {f : Nat → Bool} {n a : Nat} (ha : a < 2 ^ n) (h : ∀ j, j < n → a.testBit j = f j) : bN f n = a := by
  apply Nat.eq_of_testBit_eq
  intro j
  rw [bN_tb]
  by_cases hj : j < n
  · simp [hj, h j hj]
  · simp [hj]
    exact (Nat.testBit_lt_two_pow (Nat.lt_of_lt_of_le ha (Nat.pow_le_pow_right (by decide) (Nat.not_lt.mp hj))))
theorem bN_all (n : Nat) : bN (fun _ => true) n = 2 ^ n - 1 := bN_of (by have := Nat.two_pow_pos n; omega) (fun j hj => by rw [Nat.testBit_two_pow_sub_one]; simp [hj])
theorem bN_no (n : Nat) : bN (fun _ => false) n = 0 := bN_of (Nat.two_pow_pos n) (fun j hj => by simp)
theorem bN_bit {f : Nat → Bool} {n j : Nat} (hj : j < n) (hn : n ≤ 30) : (nI (bN f n) >>> (nI j &&& 31)) &&& nI 1 = bI (f j) := by
  have := bN_le31 (f := f) hn
  rw [nI_bit (by omega) (by omega), bN_tb]
  simp [hj]
theorem nI_not {a b c : Nat} (h : ∀ i, i < 32 → c.testBit i = (a.testBit i && !b.testBit i)) : nI a &&& (nI b ^^^ (-1)) = nI c := by
  apply Int32.toBitVec_inj.1
  show BitVec.ofNat 32 a &&& (BitVec.ofNat 32 b ^^^ BitVec.allOnes 32) = BitVec.ofNat 32 c
  apply BitVec.eq_of_getLsbD_eq
  intro i hi
  rw [BitVec.getLsbD_and, BitVec.getLsbD_xor, BitVec.getLsbD_ofNat, BitVec.getLsbD_ofNat, BitVec.getLsbD_ofNat, BitVec.getLsbD_allOnes, h i hi]
  simp [hi]
theorem nI_xor (a b : Nat) : nI a ^^^ nI b = nI (a ^^^ b) := by
  apply Int32.toBitVec_inj.1
  show BitVec.ofNat 32 a ^^^ BitVec.ofNat 32 b = BitVec.ofNat 32 (a ^^^ b)
  apply BitVec.eq_of_getLsbD_eq
  intro i hi
  simp [hi]
theorem and_m1 (x : Int32) : x &&& (-1) = x := by
  apply Int32.toBitVec_inj.1
  show x.toBitVec &&& BitVec.allOnes 32 = x.toBitVec
  apply BitVec.eq_of_getLsbD_eq
  intro i hi
  rw [BitVec.getLsbD_and, BitVec.getLsbD_allOnes]
  simp [hi]
theorem bN_off {f : Nat → Bool} {n j : Nat} (hj : j < 30) : nI (bN f n) &&& ((nI 1 <<< (nI j &&& 31)) ^^^ (-1)) = nI (bN (upR f j false) n) := by
  rw [nI_shl1 (by omega)]
  apply nI_not
  intro i hi
  rw [bN_tb, bN_tb, Nat.testBit_two_pow]
  unfold upR
  by_cases h : i = j
  · subst h; simp
  · have : ¬ j = i := fun e => h e.symm
    simp [h, this]
theorem bN_whole {n : Nat} (hn : n ≤ 30) : (nI 1 <<< (nI n &&& 31)) - nI 1 = nI (bN (fun _ => true) n) := by
  rw [nI_shl1 (by omega), pk_sub (Nat.two_pow_pos n), bN_all]
theorem bN_not {f : Nat → Bool} {n : Nat} : nI (bN (fun _ => true) n) &&& (nI (bN f n) ^^^ (-1)) = nI (bN (fun j => !f j) n) := by
  apply nI_not
  intro i hi
  rw [bN_tb, bN_tb, bN_tb]
  by_cases h : i < n <;> simp [h]
theorem bN_z {f : Nat → Bool} {n : Nat} : bN f n = 0 ↔ ∀ j, j < n → f j = false := by
  constructor
  · intro h j hj
    exact bN_inj (h.trans (bN_no n).symm) j hj
  · intro h
    rw [bN_ext h, bN_no]
theorem bN_put {f : Nat → Bool} {b : Bool} {i : Nat} (hi : i < 30) : nI (bN f i) ||| (bI b <<< (nI i &&& 31)) = nI (bN (upR f i b) (i + 1)) := by
  have hl := bN_lt f i
  have e : bN (upR f i b) (i + 1) = bN f i + (if b = true then 2 ^ i else 0) := by
    rw [bN, bN_ext (g := f) (fun j hj => upR_n (by omega)), upR_s]
  rw [e]
  cases b with
  | false => 
    have : bI false <<< (nI i &&& 31) = nI 0 := by
      have h := nI_shl (n := 0) (p := i) (by omega) (by omega)
      rw [Nat.zero_mul] at h
      exact h
    rw [this, nI_or, Nat.or_zero]
    simp
  | true =>
    have : bI true <<< (nI i &&& 31) = nI (2 ^ i) := nI_shl1 (by omega)
    rw [this, nI_or, if_pos rfl, Nat.or_comm, Nat.add_comm]
    congr 1
    have := Nat.two_pow_add_eq_or_of_lt hl 1
    rw [Nat.mul_one] at this
    exact this.symm
/-- the ones of a set of at most ten -/
def pcT (a : Nat) : Nat := cntB (fun j => a.testBit j) 10
set_option maxRecDepth 100000 in
theorem pcT_low : ∀ a : Fin 1024, a.val ≠ 0 → pcT (a.val &&& (a.val - 1)) + 1 = pcT a.val := by decide +kernel
theorem pcT_bN {f : Nat → Bool} {n : Nat} (hn : n ≤ 10) : pcT (bN f n) = cntB f n := by
  unfold pcT
  obtain ⟨k, hk⟩ : ∃ k, 10 = n + k := ⟨10 - n, by omega⟩
  rw [hk, cntB_out (fun i hi => by rw [bN_tb]; simp; omega) k]
  exact cntB_ext (fun i hi => by rw [bN_tb]; simp [hi])
