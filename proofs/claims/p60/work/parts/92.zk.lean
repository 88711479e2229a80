/-! tokens of what is typed; records by their figures -/
def stp6 (c : Int64) : Bool := anyB (fun j => A6 j == c) 1
section LZM
theorem tk_0 : stp6 (tcN 0) = false ∧ gvB F6 G6 0 (tcN 0) = true := by decide +kernel
theorem tk_1 : stp6 (tcN 1) = false ∧ gvB F6 G6 0 (tcN 1) = false := by decide +kernel
theorem tk_2 : stp6 (tcN 2) = false ∧ gvB F6 G6 0 (tcN 2) = false := by decide +kernel
theorem tk_3 : stp6 (tcN 3) = false ∧ gvB F6 G6 0 (tcN 3) = false := by decide +kernel
theorem tk_4 : stp6 (tcN 4) = false ∧ gvB F6 G6 0 (tcN 4) = false := by decide +kernel
theorem tk_7 : stp6 (lN (wdc [116, 104, 101] 0)) = true := by decide +kernel
theorem tk_w {w k : Nat} (hw : 1 ≤ w ∧ w ≤ 7) : (if stp6 (lN (stW (wdc (ltW w) 0))) = true then [] else (lN (stW (wdc (ltW w) 0)), k) :: syL F6 G6 (lN (stW (wdc (ltW w) 0))) k 1) = tkJ (tkI w) k := by
  have one : ∀ t, t ≠ 0 → stp6 (tcN t) = false ∧ gvB F6 G6 0 (tcN t) = false → (if stp6 (tcN t) = true then [] else (tcN t, k) :: syL F6 G6 (tcN t) k 1) = tkJ (some t) k := fun t h0 h => by
    rw [h.1, if_neg (by decide)]
    unfold syL syL
    rw [h.2, if_neg (by decide)]
    unfold tkJ
    dsimp only
    rw [if_neg h0]
    rfl
  have zero : (if stp6 (tcN 0) = true then [] else (tcN 0, k) :: syL F6 G6 (tcN 0) k 1) = tkJ (some 0) k := by
    rw [tk_0.1, if_neg (by decide)]
    unfold syL syL
    rw [tk_0.2, if_pos rfl]
    rfl
  have : w = 1 ∨ w = 2 ∨ w = 3 ∨ w = 4 ∨ w = 5 ∨ w = 6 ∨ w = 7 := by omega
  rcases this with rfl | rfl | rfl | rfl | rfl | rfl | rfl
  · rw [st_1]; exact zero
  · rw [st_2]; exact zero
  · rw [st_3]; exact one 1 (by decide) tk_1
  · rw [st_4]; exact one 2 (by decide) tk_2
  · rw [st_5]; exact one 3 (by decide) tk_3
  · rw [st_6]; exact one 4 (by decide) tk_4
  · rw [st_7, tk_7, if_pos rfl]; rfl
theorem tkL_w {ws : List Nat} {W : Nat → Nat} (hw : ∀ i w, ws[i]? = some w → (1 ≤ w ∧ w ≤ 7) ∧ W i = wdc (ltW w) 0) : ∀ m, m ≤ ws.length → tkL F6 G6 1 stp6 (fun k => lN (stW (W k))) m = (List.range m).flatMap (fun k => tkJ (tkI (ws.getD k 0)) k)
  | 0, _ => rfl
  | m + 1, h => by
    have e := List.getElem?_eq_getElem (l := ws) (i := m) (by omega)
    obtain ⟨h1, h2⟩ := hw m _ e
    rw [List.range_succ, List.flatMap_append, List.flatMap_singleton, ← tkL_w hw m (by omega)]
    show tkL F6 G6 1 stp6 (fun k => lN (stW (W k))) m ++ (if stp6 (lN (stW (W m))) = true then [] else (lN (stW (W m)), m) :: syL F6 G6 (lN (stW (W m))) m 1) = _
    rw [h2, tk_w h1, List.getD_eq_getElem?_getD, e]
    rfl
theorem fm_more {g : Nat → List (Int64 × Nat)} {m : Nat} : ∀ d, (∀ p, m ≤ p → g p = []) → (List.range (m + d)).flatMap g = (List.range m).flatMap g
  | 0, _ => rfl
  | d + 1, h => by
    rw [← Nat.add_assoc, List.range_succ, List.flatMap_append, List.flatMap_singleton, fm_more d h, h (m + d) (by omega), List.append_nil]
theorem tkA_w {n f : Nat} {ws : List Nat} (hl : ws.length ≤ 5) (h : ∀ p, p < 5 → wdN n f p = ws.getD p 0) : tkA n f 5 = (List.range ws.length).flatMap (fun k => tkJ (tkI (ws.getD k 0)) k) := by
  have e : tkA n f 5 = (List.range 5).flatMap (fun k => tkJ (tkI (ws.getD k 0)) k) := by
    unfold tkA
    rw [List.flatMap_def, List.flatMap_def]
    congr 1
    exact List.map_congr_left (fun p hp => by rw [h p (List.mem_range.mp hp)])
  rw [e]
  obtain ⟨d, hd⟩ : ∃ d, 5 = ws.length + d := ⟨5 - ws.length, by omega⟩
  rw [hd]
  exact fm_more d (fun p hp => by rw [List.getD_eq_getElem?_getD, List.getElem?_eq_none (by omega)]; rfl)
theorem tkJ_len {w p : Nat} (h : w < 8) : (tkJ (tkI w) p).length = tnN w := by
  have : w = 0 ∨ w = 1 ∨ w = 2 ∨ w = 3 ∨ w = 4 ∨ w = 5 ∨ w = 6 ∨ w = 7 := by omega
  rcases this with rfl | rfl | rfl | rfl | rfl | rfl | rfl | rfl <;> rfl
theorem tkA_len {n f : Nat} (h : ∀ p, p < 5 → wdN n f p < 8) : ∀ k, k ≤ 5 → (tkA n f k).length = smN (fun p => tnN (wdN n f p)) k
  | 0, _ => rfl
  | k + 1, hk => by
    show ((List.range (k + 1)).flatMap _).length = smN _ k + tnN (wdN n f k)
    rw [List.range_succ, List.flatMap_append, List.flatMap_singleton, List.length_append, tkJ_len (h k (by omega)), ← tkA_len h k (by omega)]
    rfl
/-- figures of sixteen -/
def hx (D : Nat → Nat) : Nat → Nat := smN (fun j => D j * 16 ^ j)
theorem hx_lt {D : Nat → Nat} : ∀ {n : Nat}, (∀ j, j < n → D j < 16) → hx D n < 16 ^ n
  | 0, _ => Nat.one_pos
  | n + 1, h => by
    have ih := hx_lt (n := n) (fun j hj => h j (by omega))
    have h2 := h n (by omega)
    have e : hx D (n + 1) = hx D n + D n * 16 ^ n := rfl
    have h3 : D n * 16 ^ n ≤ 15 * 16 ^ n := Nat.mul_le_mul_right _ (by omega)
    rw [e, Nat.pow_succ]
    omega
theorem hx_at {D : Nat → Nat} {j c : Nat} : ∀ {n : Nat}, (∀ j, j < n → D j < 16) → j < n → (hx D n + c * 16 ^ n) / 16 ^ j % 16 = D j
  | 0, _, h => absurd h (Nat.not_lt_zero _)
  | n + 1, h, hj => by
    have e : hx D (n + 1) + c * 16 ^ (n + 1) = hx D n + (D n + 16 * c) * 16 ^ n := by
      show hx D n + D n * 16 ^ n + c * 16 ^ (n + 1) = _
      rw [Nat.pow_succ, Nat.add_mul, Nat.mul_comm (16 ^ n) 16, ← Nat.mul_assoc, Nat.mul_comm c 16, Nat.add_assoc]
    rw [e]
    by_cases c' : j = n
    · subst c'
      rw [Nat.add_mul_div_right _ _ (Nat.pow_pos (by decide)), Nat.div_eq_of_lt (hx_lt (fun q hq => h q (by omega))), Nat.zero_add, Nat.add_mul_mod_self_left, Nat.mod_eq_of_lt (h j (by omega))]
    · exact hx_at (fun q hq => h q (by omega)) (by omega)
theorem hx_top {D : Nat → Nat} {n c : Nat} (h : ∀ j, j < n → D j < 16) : (hx D n + c * 16 ^ n) / 16 ^ n = c := by
  rw [Nat.add_mul_div_right _ _ (Nat.pow_pos (by decide)), Nat.div_eq_of_lt (hx_lt h), Nat.zero_add]
theorem hx_ext {D E : Nat → Nat} : ∀ {n : Nat}, (∀ j, j < n → D j = E j) → hx D n = hx E n
  | 0, _ => rfl
  | n + 1, h => by
    show hx D n + D n * 16 ^ n = hx E n + E n * 16 ^ n
    rw [hx_ext (n := n) (fun j hj => h j (by omega)), h n (by omega)]
theorem hx_hi {D : Nat → Nat} {k : Nat} (h : ∀ j, k ≤ j → D j = 0) : ∀ d, hx D (k + d) = hx D k
  | 0 => rfl
  | d + 1 => by
    show hx D (k + d) + D (k + d) * 16 ^ (k + d) = _
    rw [h (k + d) (by omega), Nat.zero_mul, Nat.add_zero]
    exact hx_hi h d
/-- a figure is put -/
theorem hx_put {D : Nat → Nat} {k w : Nat} (hD : ∀ j, D j < 16) (h : ∀ j, k ≤ j → D j = 0) (hk : k < 12) : lN (hx D 12) ||| lN (w * 2 ^ (4 * k)) = lN (hx (upR D k w) 12) := by
  obtain ⟨d, hd⟩ : ∃ d, 12 = k + d := ⟨12 - k, by omega⟩
  obtain ⟨e, he⟩ : ∃ e, 12 = (k + 1) + e := ⟨12 - (k + 1), by omega⟩
  have h16 : (16 : Nat) ^ k = 2 ^ (4 * k) := by rw [show (16 : Nat) = 2 ^ 4 from rfl, ← Nat.pow_mul]
  have e1 : hx D 12 = hx D k := by rw [hd]; exact hx_hi h d
  have e2 : hx (upR D k w) 12 = hx D k + w * 16 ^ k := by
    rw [he, hx_hi (fun j hj => by rw [upR_n (by omega)]; exact h j (by omega)) e]
    show hx (upR D k w) k + upR D k w k * 16 ^ k = _
    rw [upR_s, hx_ext (n := k) (E := D) (fun j hj => upR_n (by omega))]
  rw [e1, e2, lN_orS (by rw [← h16]; exact hx_lt (fun j _ => hD j)), h16]
end LZM
