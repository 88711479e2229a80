/-! helpers: counted loops, branches on naturals, bits -/
theorem lfp_cnt {X : Type} {F : (X → Prop) → X → Prop} (n : Nat) (I : Nat → X → Prop) (step : ∀ (P : X → Prop) (k : Nat) (y : X), k ≤ n → I k y → (∀ y', k < n → I (k + 1) y' → P y') → F P y) {y : X} (h : I 0 y) : lfp F y := by
  intro P hP
  have key : ∀ m k y, n - k = m → k ≤ n → I k y → P y := by
    intro m
    induction m with
    | zero => intro k y hm hk hI; exact hP y (step P k y hk hI (fun y' hlt _ => absurd hlt (by omega)))
    | succ m ih => intro k y hm hk hI; exact hP y (step P k y hk hI (fun y' hlt hI' => ih (k + 1) y' (by omega) hlt hI'))
  exact key n 0 y (by omega) (Nat.zero_le _) h
section WB
variable {x y : Int32} {A B : Prop}
theorem w_ne (a b : Nat) (f : a ≠ b → A) (g : a = b → B) (hx : x = nI a := by rfl) (hy : y = nI b := by rfl) (ha : a < 2 ^ 31 := by omega) (hb : b < 2 ^ 31 := by omega) : (¬ x = y → A) ∧ (x = y → B) := by
  subst hx hy
  rw [nI_eq ha hb]
  exact ⟨f, g⟩
theorem w_nlt (a b : Nat) (f : b ≤ a → A) (g : a < b → B) (hx : x = nI a := by rfl) (hy : y = nI b := by rfl) (ha : a < 2 ^ 31 := by omega) (hb : b < 2 ^ 31 := by omega) : (¬ x < y → A) ∧ (x < y → B) := by
  subst hx hy
  rw [nI_ltI ha hb]
  exact ⟨fun z => f (by omega), g⟩
theorem w_nle (a b : Nat) (f : b < a → A) (g : a ≤ b → B) (hx : x = nI a := by rfl) (hy : y = nI b := by rfl) (ha : a < 2 ^ 31 := by omega) (hb : b < 2 ^ 31 := by omega) : (¬ x ≤ y → A) ∧ (x ≤ y → B) := by
  subst hx hy
  rw [nI_leI ha hb]
  exact ⟨fun z => f (by omega), g⟩
theorem w_pos (a : Nat) (g : B) (hx : x = nI a := by rfl) (ha : a < 2 ^ 31 := by omega) : (x < 0 → A) ∧ (¬ x < 0 → B) := by
  subst hx
  exact ⟨fun c => absurd c (nI_pos ha), fun _ => g⟩
theorem w_posn (a : Nat) (g : B) (hx : x = nI a := by rfl) (ha : a < 2 ^ 31 := by omega) : (¬ x < 0 → B) ∧ (x < 0 → A) := (w_pos a g hx ha).symm
theorem w_b0 (b : Bool) (f : b = false → A) (g : b = true → B) (hx : x = bI b := by rfl) : (x = 0 → A) ∧ (¬ x = 0 → B) := by
  subst hx
  exact ⟨fun c => f (bI_0.mp c), fun c => g (bI_n.mp c)⟩
theorem w_bn (b : Bool) (f : b = true → A) (g : b = false → B) (hx : x = bI b := by rfl) : (¬ x = 0 → A) ∧ (x = 0 → B) := (w_b0 b g f hx).symm
theorem w_z (a : Nat) (f : a = 0 → A) (g : 0 < a → B) (hx : x = nI a := by rfl) (ha : a < 2 ^ 31 := by omega) : (x = 0 → A) ∧ (¬ x = 0 → B) := by
  subst hx
  rw [nI_z ha]
  exact ⟨f, fun c => g (by omega)⟩
theorem w_nz (a : Nat) (f : 0 < a → A) (g : a = 0 → B) (hx : x = nI a := by rfl) (ha : a < 2 ^ 31 := by omega) : (¬ x = 0 → A) ∧ (x = 0 → B) := (w_z a g f hx ha).symm
theorem w_l {x y : Int64} (f : x ≠ y → A) (g : x = y → B) : (¬ x = y → A) ∧ (x = y → B) := ⟨f, g⟩
end WB
theorem nI_or (a b : Nat) : nI a ||| nI b = nI (a ||| b) := by
  apply Int32.toBitVec_inj.1
  show BitVec.ofNat 32 a ||| BitVec.ofNat 32 b = BitVec.ofNat 32 (a ||| b)
  apply BitVec.eq_of_getLsbD_eq
  intro i hi
  simp [hi]
theorem nI_and (a b : Nat) : nI a &&& nI b = nI (a &&& b) := by
  apply Int32.toBitVec_inj.1
  show BitVec.ofNat 32 a &&& BitVec.ofNat 32 b = BitVec.ofNat 32 (a &&& b)
  apply BitVec.eq_of_getLsbD_eq
  intro i hi
  simp [hi]
theorem sh_amt {p : Nat} (hp : p < 32) : ((nI p &&& 31).toBitVec.smod 32).toNat = p := by
  have : ∀ j : Fin 32, ((nI j.val &&& 31).toBitVec.smod 32).toNat = j.val := by decide +kernel
  exact this ⟨p, hp⟩
theorem nI_shl {n p : Nat} (hp : p < 32) (h : n * 2 ^ p < 2 ^ 32) : nI n <<< (nI p &&& 31) = nI (n * 2 ^ p) := pk_shlN _ p (sh_amt hp) h
theorem nI_shl1 {p : Nat} (hp : p < 31) : nI 1 <<< (nI p &&& 31) = nI (2 ^ p) := by
  have h2 : (2 : Nat) ^ p < 2 ^ 31 := Nat.pow_lt_pow_right (by decide) hp
  rw [nI_shl (by omega) (by omega), Nat.one_mul]
theorem nI_shr {n p : Nat} (h : n < 2 ^ 31) (hp : p < 32) : nI n >>> (nI p &&& 31) = nI (n / 2 ^ p) := pk_shrN h _ p (sh_amt hp)
theorem tb_div (n p : Nat) : n / 2 ^ p % 2 = if n.testBit p then 1 else 0 := by
  rw [Nat.testBit, Nat.shiftRight_eq_div_pow, Nat.and_comm, Nat.and_one_is_mod]
  rcases Nat.mod_two_eq_zero_or_one (n / 2 ^ p) with h | h <;> rw [h] <;> rfl
theorem nI_bit {n p : Nat} (h : n < 2 ^ 31) (hp : p < 32) : (nI n >>> (nI p &&& 31)) &&& nI 1 = bI (n.testBit p) := by
  rw [nI_shr h hp, nI_and, Nat.and_one_is_mod, tb_div]
  cases n.testBit p <;> rfl
/-- masks of places -/
def pmk (c : Int64) : List (Int64 × Nat) → Nat
  | [] => 0
  | x :: l => (if x.1 = c then 2 ^ x.2 else 0) ||| pmk c l
theorem pmk_tb (c : Int64) (p : Nat) : ∀ l : List (Int64 × Nat), (pmk c l).testBit p = true ↔ (c, p) ∈ l
  | [] => by simp [pmk]
  | x :: l => by
    rw [pmk, Nat.testBit_or, Bool.or_eq_true, pmk_tb c p l, List.mem_cons]
    constructor
    · rintro (h | h)
      · refine Or.inl ?_
        by_cases e : x.1 = c
        · rw [if_pos e, Nat.testBit_two_pow] at h
          have h := of_decide_eq_true h
          rw [← e, ← h]
        · rw [if_neg e] at h; simp at h
      · exact Or.inr h
    · rintro (h | h)
      · refine Or.inl ?_
        rw [← h, if_pos rfl, Nat.testBit_two_pow]
        exact decide_eq_true rfl
      · exact Or.inr h
theorem pmk_lt {c : Int64} {N : Nat} : ∀ {l : List (Int64 × Nat)}, (∀ x, x ∈ l → x.2 < N) → pmk c l < 2 ^ N
  | [], _ => Nat.two_pow_pos N
  | x :: l, h => by
    rw [pmk]
    refine Nat.or_lt_two_pow ?_ (pmk_lt (fun y hy => h y (List.mem_cons_of_mem _ hy)))
    by_cases e : x.1 = c
    · rw [if_pos e]; exact Nat.pow_lt_pow_right (by decide) (h x (List.mem_cons_self ..))
    · rw [if_neg e]; exact Nat.two_pow_pos N
theorem pmk_app (c : Int64) (l m : List (Int64 × Nat)) : pmk c (l ++ m) = pmk c l ||| pmk c m := by
  induction l with
  | nil => simp [pmk]
  | cons x l ih => rw [List.cons_append, pmk, pmk, ih, Nat.or_assoc]
theorem pmk_1 (c : Int64) (x : Int64 × Nat) : pmk c [x] = if x.1 = c then 2 ^ x.2 else 0 := by simp [pmk]
theorem pmk_take {c : Int64} {k : Nat} {l : List (Int64 × Nat)} {x : Int64 × Nat} (h : l[k]? = some x) : pmk c (l.take (k + 1)) = pmk c (l.take k) ||| (if x.1 = c then 2 ^ x.2 else 0) := by
  rw [List.take_succ, h, pmk_app]
  show _ ||| pmk c [x] = _
  rw [pmk_1]

