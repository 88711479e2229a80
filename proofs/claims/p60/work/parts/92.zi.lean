/-! what is typed: words, their stems and tokens -/
/-- the letters of a word of the law -/
def ltW (w : Nat) : List Nat := if w = 1 then [99, 97, 116] else if w = 2 then [67, 97, 116, 83] else if w = 3 then [114, 117, 110, 110, 105, 110, 103] else if w = 4 then [82, 101, 100] else if w = 5 then [115, 105, 110, 103] else if w = 6 then [98, 111, 115, 115] else [116, 104, 101]
def sgW (w : Nat) : List Nat := ltW w ++ [if w = 4 then 45 else 32]
def pdL (P : Nat → Nat) (l : List Nat) : Prop := ∀ k q, l[k]? = some q → P k = q
section LZK
theorem stW_e {w n : Nat} (h : lnW w = n) : stW w = if 6 ≤ n ∧ endW w n 103 0 ∧ endW w n 110 1 ∧ endW w n 105 2 then cutW w (n - 3) else if 5 ≤ n ∧ endW w n 100 0 ∧ endW w n 101 1 then cutW w (n - 2) else if 4 ≤ n ∧ endW w n 115 0 ∧ ¬ endW w n 115 1 then cutW w (n - 1) else w := by
  unfold stW
  rw [h]
/-- the token of a word, none for the word that is stopped -/
theorem st_1 : stW (wdc (ltW 1) 0) = tcW 0 := (stW_e (lnW_eq (n := 3) (by decide) (by decide +kernel) (fun _ => by decide +kernel))).trans (by decide +kernel)
theorem st_2 : stW (wdc (ltW 2) 0) = tcW 0 := (stW_e (lnW_eq (n := 4) (by decide) (by decide +kernel) (fun _ => by decide +kernel))).trans (by decide +kernel)
theorem st_3 : stW (wdc (ltW 3) 0) = tcW 1 := (stW_e (lnW_eq (n := 7) (by decide) (by decide +kernel) (fun _ => by decide +kernel))).trans (by decide +kernel)
theorem st_4 : stW (wdc (ltW 4) 0) = tcW 2 := (stW_e (lnW_eq (n := 3) (by decide) (by decide +kernel) (fun _ => by decide +kernel))).trans (by decide +kernel)
theorem st_5 : stW (wdc (ltW 5) 0) = tcW 3 := (stW_e (lnW_eq (n := 4) (by decide) (by decide +kernel) (fun _ => by decide +kernel))).trans (by decide +kernel)
theorem st_6 : stW (wdc (ltW 6) 0) = tcW 4 := (stW_e (lnW_eq (n := 4) (by decide) (by decide +kernel) (fun _ => by decide +kernel))).trans (by decide +kernel)
theorem st_7 : stW (wdc (ltW 7) 0) = wdc [116, 104, 101] 0 := (stW_e (lnW_eq (n := 3) (by decide) (by decide +kernel) (fun _ => by decide +kernel))).trans (by decide +kernel)
theorem rdS_ext {P P' : Nat → Nat} : ∀ {n : Nat}, (∀ k, k < n → P k = P' k) → rdS P n = rdS P' n
  | 0, _ => rfl
  | n + 1, h => by rw [rdS, rdS, rdS_ext (n := n) (fun k hk => h k (by omega)), h n (by omega)]
/-- a word read -/
theorem rd_w {P : Nat → Nat} {n0 c : Nat} {W : Nat → Nat} (h0 : rdS P n0 = (0, c, W)) : ∀ i, i < 12 → (∀ q, q ≤ i → 0 < figN (P (n0 + q))) → rdS P (n0 + i + 1) = (i + 1, c + 1, upR W c (smN (fun q => figN (P (n0 + q)) * 37 ^ (11 - q)) (i + 1)))
  | 0, _, h => by
    show rdS P (n0 + 1) = _
    rw [rdS_N (P := P) (k := n0) (h 0 (Nat.le_refl _)) (by rw [h0]), h0]
    show (1, c + 1, upR W c (figN (P n0) * 37 ^ 11)) = (1, c + 1, upR W c (0 + figN (P (n0 + 0)) * 37 ^ (11 - 0)))
    rw [Nat.zero_add]
    rfl
  | i + 1, hi, h => by
    have ih := rd_w h0 i (by omega) (fun q hq => h q (by omega))
    have e : n0 + (i + 1) + 1 = (n0 + i + 1) + 1 := by omega
    rw [e, rdS_I (by have := h (i + 1) (Nat.le_refl _); rwa [← Nat.add_assoc] at this) (by rw [ih]; exact Nat.succ_pos _), ih]
    dsimp only
    rw [if_pos (by omega), Nat.add_sub_cancel]
    refine congrArg (fun z => (i + 1 + 1, c + 1, z)) ?_
    funext j
    by_cases cj : j = c
    · rw [cj, upR_s, upR_s, upR_s]
      show _ = smN (fun q => figN (P (n0 + q)) * 37 ^ (11 - q)) (i + 1) + figN (P (n0 + (i + 1))) * 37 ^ (11 - (i + 1))
      rw [← Nat.add_assoc]
    · rw [upR_n cj, upR_n cj, upR_n cj]
theorem wdc_sm {P : Nat → Nat} : ∀ (cs : List Nat) (n0 k : Nat), (∀ i q, cs[i]? = some q → P (n0 + k + i) = q) → wdc cs k + smN (fun q => figN (P (n0 + q)) * 37 ^ (11 - q)) k = smN (fun q => figN (P (n0 + q)) * 37 ^ (11 - q)) (k + cs.length)
  | [], n0, k, _ => by
    show 0 + _ = _
    rw [Nat.zero_add]
    rfl
  | a :: cs, n0, k, h => by
    have ih := wdc_sm (P := P) cs n0 (k + 1) (fun i q hi => by
      have := h (i + 1) q (by simpa using hi)
      rwa [show n0 + k + (i + 1) = n0 + (k + 1) + i by omega] at this)
    have ea : P (n0 + k) = a := h 0 a rfl
    rw [List.length_cons, show k + (cs.length + 1) = k + 1 + cs.length by omega, ← ih]
    show figN a * 37 ^ (11 - k) + wdc cs (k + 1) + _ = wdc cs (k + 1) + (smN _ k + figN (P (n0 + k)) * 37 ^ (11 - k))
    rw [ea]
    omega
theorem lt_fig : ∀ w, 1 ≤ w → w ≤ 7 → (∀ q, q ∈ ltW w → 0 < figN q) ∧ 1 ≤ (ltW w).length ∧ (ltW w).length ≤ 7 := by
  intro w h1 h2
  have : w = 1 ∨ w = 2 ∨ w = 3 ∨ w = 4 ∨ w = 5 ∨ w = 6 ∨ w = 7 := by omega
  rcases this with rfl | rfl | rfl | rfl | rfl | rfl | rfl <;> decide +kernel
/-- one word more on the pad -/
theorem rd_sg {P : Nat → Nat} {l : List Nat} {c w : Nat} {W : Nat → Nat} (hw : 1 ≤ w ∧ w ≤ 7) (hp : pdL P (l ++ sgW w)) (h0 : rdS P l.length = (0, c, W)) : rdS P (l ++ sgW w).length = (0, c + 1, upR W c (wdc (ltW w) 0)) := by
  obtain ⟨f1, f2, f3⟩ := lt_fig w hw.1 hw.2
  have at' : ∀ i q, (sgW w)[i]? = some q → P (l.length + i) = q := fun i q hi => hp _ q (by rw [List.getElem?_append_right (by omega), Nat.add_sub_cancel_left]; exact hi)
  have lt' : ∀ i q, (ltW w)[i]? = some q → P (l.length + i) = q := fun i q hi => at' i q (by unfold sgW; rw [List.getElem?_append_left (get_lt hi)]; exact hi)
  have hf : ∀ q, q ≤ (ltW w).length - 1 → 0 < figN (P (l.length + q)) := fun q hq => by
    have e := List.getElem?_eq_getElem (l := ltW w) (i := q) (by omega)
    rw [lt' q _ e]
    exact f1 _ (List.mem_of_getElem? e)
  have h1 := rd_w h0 ((ltW w).length - 1) (by omega) hf
  have hs := wdc_sm (P := P) (ltW w) l.length 0 (fun i q hi => by rw [Nat.add_zero]; exact lt' i q hi)
  rw [show l.length + ((ltW w).length - 1) + 1 = l.length + (ltW w).length by omega, show (ltW w).length - 1 + 1 = (ltW w).length by omega] at h1
  rw [Nat.zero_add] at hs
  have hs' : wdc (ltW w) 0 = smN (fun q => figN (P (l.length + q)) * 37 ^ (11 - q)) (ltW w).length := by rw [← hs]; rfl
  rw [← hs'] at h1
  have hz : figN (P (l.length + (ltW w).length)) = 0 := by
    rw [at' (ltW w).length (if w = 4 then 45 else 32) (by unfold sgW; rw [List.getElem?_concat_length])]
    split <;> decide
  have hl : (l ++ sgW w).length = l.length + (ltW w).length + 1 := by
    unfold sgW
    rw [List.length_append, List.length_append]
    rfl
  rw [hl, rdS_0 hz, h1]
end LZK
