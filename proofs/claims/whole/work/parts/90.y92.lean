/-! the reference: parts of prepare -/
section PP
variable {v v' : Nat → Int32} {f f' : Nat → Nat → Int32} {g g' : Nat → Nat → Int64} {made n N k : Nat} {sg : Nat → List Dc} {ids : List Nat} {lv : Nat → Nat → Bool}
/-- what is written is kept aside -/
theorem p_prep61 {Q : QI} (hz : zRw f 22 20200) (h : ∀ f', (∀ m, m ≠ 23 → f' m = f m) → (∀ c, c < 20200 → f' 23 c = f 22 c) → r_prepare_88L Q (nI 0) v f' g) : r_prepare_61L Q (nI 0) v f g := by
  unfold r_prepare_61L
  refine lfp_cnt 20200 (fun i y => ∃ f3, (∀ n, n ≠ 23 → f3 n = f n) ∧ (∀ a, a < i → f3 23 a = f 22 a) ∧ y = (nI i, v, f3, g)) ?_ ⟨f, fun _ _ => rfl, fun a ha => absurd ha (Nat.not_lt_zero a), rfl⟩
  rintro P i _ hi ⟨f3, b1, b2, rfl⟩ ih
  show r_prepare_61 Q _ (nI i) v f3 g
  unfold r_prepare_61
  rw [nI_clamp (show i < 2 ^ 31 by omega), b1 22 (by decide)]
  refine pk_le 20200 i (fun z => ?_) (fun z => ⟨pk_in i 20200 z, pk_in i 20200 z, hz i z, fun f7 e7 => ?_⟩)
  · obtain rfl : i = 20200 := by omega
    exact h f3 b1 b2
  · rintro _ rfl
    rw [nI_add]
    refine ih _ z ⟨f7, fun n hn => by rw [e7, mU_n hn]; exact b1 n hn, fun a ha => ?_, rfl⟩
    rw [e7, mU_s]
    show (if a = i then f 22 i else f3 23 a) = _
    by_cases c : a = i
    · rw [if_pos c, c]
    · rw [if_neg c]; exact b2 a (by omega)
/-- a segment's live documents are written -/
theorem p_prep129 {Q : QI} {R88 : Int32 → (Nat → Int32) → (Nat → Nat → Int32) → (Nat → Nat → Int64) → Prop} {a : Nat → Bool} (hk : k < 202) (hn : n < 202) (hN : N ≤ 100) (h24 : f 24 k = nI n) (h20 : f 20 n = nI N) (ha : ∀ j, j < N → f 21 (100 * n + j) = bI (a j)) (h : ∀ f', (∀ m, m ≠ 22 → f' m = f m) → (∀ j, j < N → f' 22 (100 * n + j) = bI (a j)) → (∀ c, (∀ j, j < N → c ≠ 100 * n + j) → f' 22 c = f 22 c) → zK f f' 22 → r_prepare_172 Q R88 (nI k) v f' g) : r_prepare_129L Q R88 (nI k) (nI (100 * n)) v f g := by
  unfold r_prepare_129L
  refine lfp_cnt N (fun j y => ∃ f3, (∀ m, m ≠ 22 → f3 m = f m) ∧ (∀ i, i < j → f3 22 (100 * n + i) = bI (a i)) ∧ (∀ c, (∀ i, i < N → c ≠ 100 * n + i) → f3 22 c = f 22 c) ∧ zK f f3 22 ∧ y = (nI k, nI (100 * n + j), v, f3, g)) ?_ ⟨f, fun _ _ => rfl, fun i hi => absurd hi (Nat.not_lt_zero i), fun _ _ => rfl, zK_rf, rfl⟩
  rintro P j _ hj ⟨f3, b1, b2, b3, b4, rfl⟩ ih
  show r_prepare_129 Q R88 _ (nI k) (nI (100 * n + j)) v f3 g
  unfold r_prepare_129
  rw [nI_clamp (show k < 2 ^ 31 by omega), b1 24 (by decide), h24, nI_clamp (show n < 2 ^ 31 by omega), b1 20 (by decide), h20, pk_mul, nI_add, nI_clamp (show 100 * n + j < 2 ^ 31 by omega), b1 21 (by decide)]
  refine ⟨pk_in k 202 hk, pk_in k 202 hk, pk_in n 202 hn, pk_le (100 * n + N) (100 * n + j) (fun z => ?_) (fun z => ?_)⟩
  · obtain rfl : j = N := by omega
    exact h f3 b1 b2 b3 b4
  · have inc : vp_in (nI (100 * n + j)) 20200 := pk_in (100 * n + j) 20200 (by omega)
    rw [ha j (by omega)]
    refine ⟨inc, inc, ⟨_, rfl⟩, fun f5 e5 => ?_⟩
    rintro _ rfl
    rw [nI_add]
    have r22 : f5 22 = fun c => if c = 100 * n + j then bI (a j) else f3 22 c := by rw [e5, mU_s]
    refine ih _ (by omega) ⟨f5, fun m hm => by rw [e5, mU_n hm]; exact b1 m hm, fun i hi => ?_, fun c hc => ?_, zK_tr b4 (zK_up r22), rfl⟩
    · rw [r22]
      show (if 100 * n + i = 100 * n + j then bI (a j) else f3 22 (100 * n + i)) = _
      by_cases c : i = j
      · subst c; rw [if_pos rfl]
      · rw [if_neg (by omega)]; exact b2 i (by omega)
    · rw [r22]
      show (if c = 100 * n + j then _ else f3 22 c) = _
      rw [if_neg (hc j (by omega))]; exact b3 c hc
end PP
