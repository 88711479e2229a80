/-! how many bits are set -/
def pcN (m : Nat) : Nat → Nat
  | 0 => 0
  | n + 1 => pcN m n + (if m.testBit n = true then 1 else 0)
theorem land_split {k q a M c : Nat} (ha : a < 2 ^ k) (hc : c < 2 ^ k) : (2 ^ k * q + a) &&& (2 ^ k * M + c) = 2 ^ k * (q &&& M) + (a &&& c) := by
  apply Nat.eq_of_testBit_eq
  intro j
  rw [Nat.testBit_and, Nat.testBit_two_pow_mul_add _ ha, Nat.testBit_two_pow_mul_add _ hc, Nat.testBit_two_pow_mul_add _ (Nat.lt_of_le_of_lt Nat.and_le_left ha)]
  split
  · rw [Nat.testBit_and]
  · rw [Nat.testBit_and]
theorem pcN_split {q a : Nat} (ha : a < 256) : ∀ n : Nat, pcN (256 * q + a) (8 + n) = pcN a 8 + pcN q n
  | 0 => by
    have h : ∀ n, n ≤ 8 → pcN (256 * q + a) n = pcN a n := by
      intro n
      induction n with
      | zero => intro _; rfl
      | succ n ih =>
        intro hn
        rw [pcN, pcN, ih (by omega), show 256 * q + a = 2 ^ 8 * q + a from rfl, Nat.testBit_two_pow_mul_add _ ha, if_pos (show n < 8 by omega)]
    rw [Nat.add_zero, h 8 (Nat.le_refl _)]; rfl
  | n + 1 => by
    have h0 : (256 * q + a).testBit (8 + n) = q.testBit n := by
      rw [show 256 * q + a = 2 ^ 8 * q + a from rfl, Nat.testBit_two_pow_mul_add _ ha, if_neg (by omega), show 8 + n - 8 = n by omega]
    have h1 : pcN (256 * q + a) (8 + (n + 1)) = pcN (256 * q + a) (8 + n) + (if (256 * q + a).testBit (8 + n) = true then 1 else 0) := rfl
    have h2 : pcN q (n + 1) = pcN q n + (if q.testBit n = true then 1 else 0) := rfl
    rw [h1, h2, h0, pcN_split ha n, Nat.add_assoc]
def f1 (M x : Nat) : Nat := x - (x / 2 &&& M)
def f2 (M x : Nat) : Nat := (x &&& M) + (x / 4 &&& M)
def f3 (M x : Nat) : Nat := (x + x / 16) &&& M
theorem f1_s {M q a : Nat} (ha : a < 256) : f1 (256 * M + 85) (256 * q + a) = 256 * f1 M q + f1 85 a := by
  unfold f1
  have e : (256 * q + a) / 2 = 2 ^ 8 * (q / 2) + (128 * (q % 2) + a / 2) := by omega
  have l : ∀ (r : Fin 2) (a : Fin 256), (128 * r.val + a.val / 2) &&& 85 = a.val / 2 &&& 85 := by decide +kernel
  have l2 := l ⟨q % 2, Nat.mod_lt _ (by decide)⟩ ⟨a, ha⟩
  simp only at l2
  rw [e, show 256 * M + 85 = 2 ^ 8 * M + 85 from rfl, land_split (by omega) (by decide), l2]
  have h1 : q / 2 &&& M ≤ q / 2 := Nat.and_le_left
  have h2 : a / 2 &&& 85 ≤ a / 2 := Nat.and_le_left
  omega
theorem f2_s {M q a : Nat} (ha : a < 256) : f2 (256 * M + 51) (256 * q + a) = 256 * f2 M q + f2 51 a := by
  unfold f2
  have e : (256 * q + a) / 4 = 2 ^ 8 * (q / 4) + (64 * (q % 4) + a / 4) := by omega
  have l : ∀ (r : Fin 4) (a : Fin 256), (64 * r.val + a.val / 4) &&& 51 = a.val / 4 &&& 51 := by decide +kernel
  have l2 := l ⟨q % 4, Nat.mod_lt _ (by decide)⟩ ⟨a, ha⟩
  simp only at l2
  rw [e, show 256 * M + 51 = 2 ^ 8 * M + 51 from rfl, land_split (by omega) (by decide), l2, show 256 * q + a = 2 ^ 8 * q + a from rfl, land_split ha (by decide)]
  omega
theorem f3_s {M q a : Nat} (ha : a ≤ 68) (hq : q % 16 ≤ 4) : f3 (256 * M + 15) (256 * q + a) = 256 * f3 M q + f3 15 a := by
  unfold f3
  have e : 256 * q + a + (256 * q + a) / 16 = 2 ^ 8 * (q + q / 16) + (16 * (q % 16) + a + a / 16) := by omega
  have l : ∀ (r : Fin 5) (a : Fin 69), (16 * r.val + a.val + a.val / 16) &&& 15 = (a.val + a.val / 16) &&& 15 := by decide +kernel
  have l2 := l ⟨q % 16, by omega⟩ ⟨a, by omega⟩
  simp only at l2
  rw [e, show 256 * M + 15 = 2 ^ 8 * M + 15 from rfl, land_split (by omega) (by decide), l2]
theorem f12_b : ∀ a : Fin 256, f2 51 (f1 85 a.val) ≤ 68 ∧ f1 85 a.val < 256 ∧ f2 51 (f1 85 a.val) % 16 ≤ 4 ∧ f3 15 (f2 51 (f1 85 a.val)) = pcN a.val 8 ∧ pcN a.val 8 ≤ 8 := by decide +kernel
theorem pcN_le (m : Nat) : ∀ n : Nat, pcN m n ≤ n
  | 0 => Nat.le_refl _
  | n + 1 => by
    have := pcN_le m n
    rw [pcN]
    split <;> omega
theorem bc_sum {p q r : Nat} (hp : p ≤ 8) (hq : q ≤ 8) (hr : r ≤ 8) : (256 * (256 * r + q) + p + (256 * (256 * r + q) + p) / 2 ^ 8 + (256 * (256 * r + q) + p + (256 * (256 * r + q) + p) / 2 ^ 8) / 2 ^ 16) % 2 ^ 6 = p + (q + r) := by
  have e1 : (256 * (256 * r + q) + p) / 2 ^ 8 = 256 * r + q := by omega
  rw [e1]
  have e2 : (256 * (256 * r + q) + p + (256 * r + q)) / 2 ^ 16 = r := by omega
  rw [e2]
  omega
section BC
variable {S : cS} {dp : Nat}
theorem q_bitCount {Q : Int32 → cS → Prop} {m : Nat} (hm : m < 2 ^ 20) (h : Q (nI (pcN m 20)) S) : k_J6_bitCount_0f7a4 Q dp (nI m) S := by
  obtain ⟨a, b, c, ha, hb, hc, rfl⟩ : ∃ a b c, a < 256 ∧ b < 256 ∧ c < 16 ∧ m = 256 * (256 * c + b) + a := ⟨m % 256, m / 256 % 256, m / 65536, by omega, by omega, by omega, by omega⟩
  obtain ⟨a1, a2, a3, a4, a5⟩ := f12_b ⟨a, ha⟩
  obtain ⟨b1, b2, b3, b4, b5⟩ := f12_b ⟨b, hb⟩
  obtain ⟨c1, c2, c3, c4, c5⟩ := f12_b ⟨c, by omega⟩
  simp only at a1 a2 a3 a4 a5 b1 b2 b3 b4 b5 c1 c2 c3 c4 c5
  have ea : pcN (256 * (256 * c + b) + a) 20 = pcN a 8 + (pcN b 8 + pcN c 8) := by
    have h1 := pcN_split (q := 256 * c + b) ha 12
    have h2 := pcN_split (q := c) hb 4
    have h3 : pcN c 8 = pcN c 4 := by
      have : ∀ c : Fin 16, pcN c.val 8 = pcN c.val 4 := by decide +kernel
      exact this ⟨c, hc⟩
    rw [h3, ← h2]; exact h1
  rw [ea] at h
  unfold k_J6_bitCount_0f7a4
  have m1 : f1 1431655765 (256 * (256 * c + b) + a) = 256 * (256 * f1 21845 c + f1 85 b) + f1 85 a := by
    rw [show 1431655765 = 256 * (256 * 21845 + 85) + 85 from rfl, f1_s ha, f1_s hb]
  have m1c : f1 21845 c = f1 85 c := by
    have : ∀ c : Fin 16, f1 21845 c.val = f1 85 c.val := by decide +kernel
    exact this ⟨c, hc⟩
  rw [m1c] at m1
  have m2 : f2 858993459 (256 * (256 * f1 85 c + f1 85 b) + f1 85 a) = 256 * (256 * f2 51 (f1 85 c) + f2 51 (f1 85 b)) + f2 51 (f1 85 a) := by
    rw [show 858993459 = 256 * (256 * 13107 + 51) + 51 from rfl, f2_s a2, f2_s b2]
    have : ∀ c : Fin 256, f2 13107 c.val = f2 51 c.val := by decide +kernel
    rw [show f2 13107 (f1 85 c) = f2 51 (f1 85 c) from this ⟨f1 85 c, c2⟩]
  have m3 : f3 252645135 (256 * (256 * f2 51 (f1 85 c) + f2 51 (f1 85 b)) + f2 51 (f1 85 a)) = 256 * (256 * pcN c 8 + pcN b 8) + pcN a 8 := by
    rw [show 252645135 = 256 * (256 * 3855 + 15) + 15 from rfl, f3_s a1 (by omega), f3_s b1 (by omega), a4, b4]
    have : ∀ c : Fin 69, f3 3855 c.val = f3 15 c.val := by decide +kernel
    rw [show f3 3855 (f2 51 (f1 85 c)) = f3 15 (f2 51 (f1 85 c)) from this ⟨f2 51 (f1 85 c), by omega⟩, c4]
  have k1 : ∀ {n : Nat} (k : Nat), n < 2 ^ 31 → k < 32 → (∀ j : Fin 32, ((((nI j.val).toUInt32 &&& Int32.toUInt32 31).toBitVec % 32).toNat = j.val)) → ((nI n).toUInt32 >>> ((nI k).toUInt32 &&& Int32.toUInt32 31)).toInt32 = nI (n / 2 ^ k) := fun k hn hk hj => pk_ushrN (by omega) (nI k) k (hj ⟨k, hk⟩)
  have hj : ∀ j : Fin 32, ((((nI j.val).toUInt32 &&& Int32.toUInt32 31).toBitVec % 32).toNat = j.val) := by decide +kernel
  rintro _ rfl _ e2 _ e3 _ e4 _ e5
  rw [k1 1 (by omega) (by decide) hj, show (1431655765 : Int32) = nI 1431655765 from rfl, nI_and, pk_sub (by have : (256 * (256 * c + b) + a) / 2 ^ 1 &&& 1431655765 ≤ (256 * (256 * c + b) + a) / 2 ^ 1 := Nat.and_le_left; omega)] at e2
  rw [show 256 * (256 * c + b) + a - ((256 * (256 * c + b) + a) / 2 ^ 1 &&& 1431655765) = f1 1431655765 (256 * (256 * c + b) + a) from rfl, m1, show (858993459 : Int32) = nI 858993459 from rfl, nI_and, k1 2 (by omega) (by decide) hj, nI_and, nI_add, show (256 * (256 * f1 85 c + f1 85 b) + f1 85 a &&& 858993459) + ((256 * (256 * f1 85 c + f1 85 b) + f1 85 a) / 2 ^ 2 &&& 858993459) = f2 858993459 (256 * (256 * f1 85 c + f1 85 b) + f1 85 a) from rfl, m2] at e2
  subst e2
  rw [k1 4 (by omega) (by decide) hj, nI_add, show (252645135 : Int32) = nI 252645135 from rfl, nI_and, show (256 * (256 * f2 51 (f1 85 c) + f2 51 (f1 85 b)) + f2 51 (f1 85 a) + (256 * (256 * f2 51 (f1 85 c) + f2 51 (f1 85 b)) + f2 51 (f1 85 a)) / 2 ^ 4) &&& 252645135 = f3 252645135 (256 * (256 * f2 51 (f1 85 c) + f2 51 (f1 85 b)) + f2 51 (f1 85 a)) from rfl, m3] at e3
  subst e3
  rw [k1 8 (by omega) (by decide) hj, nI_add] at e4
  subst e4
  rw [k1 16 (by omega) (by decide) hj, nI_add] at e5
  subst e5
  rw [pk_andN (by omega) 6 (by decide)]
  rw [bc_sum a5 b5 c5]
  exact h
end BC
