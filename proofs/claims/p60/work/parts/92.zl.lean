/-! a field is typed and given -/
def WSo (l ws : List Nat) : Prop := (l.length ≤ 8 * ws.length ∧ ∀ w, w ∈ ws → 1 ≤ w ∧ w ≤ 7) ∧ ∀ P, pdL P l → ∃ W, rdS P l.length = (0, ws.length, W) ∧ ∀ i w, ws[i]? = some w → W i = wdc (ltW w) 0
/-- the figures of a field -/
def DFo (D0 D : Nat → Nat) (f : Nat) (ws : List Nat) : Prop := (∀ j, D j < 16) ∧ (∀ j, 1 + 5 * f + ws.length ≤ j → D j = 0) ∧ (∀ p w, ws[p]? = some w → D (1 + 5 * f + p) = w) ∧ ∀ j, j < 1 + 5 * f → D j = D0 j
def TXo (P : Nat → Nat) (n : Nat) (ws : List Nat) : Prop := tkL F6 G6 1 stp6 (fun k => lN (stW (wdW P n k))) (wdC P n) = (List.range ws.length).flatMap (fun k => tkJ (tkI (ws.getD k 0)) k)
section LZN
variable {S T : cS} {ρ : Nat → Nat} {dp x : Nat} {ad : Bool} {c0 c1 : Int32} {n0 n1 : Nat} {P0 P1 : Nat → Nat} {l ws : List Nat} {D0 D : Nat → Nat} {f w : Nat}
theorem WSo_0 : WSo [] [] := ⟨⟨Nat.le_refl _, fun w hw => absurd hw List.not_mem_nil⟩, fun P _ => ⟨fun _ => 0, rfl, fun i w hi => absurd (get_lt hi) (Nat.not_lt_zero i)⟩⟩
theorem sgW_len (h : 1 ≤ w ∧ w ≤ 7) : (sgW w).length ≤ 8 := by
  have := (lt_fig w h.1 h.2).2.2
  unfold sgW
  rw [List.length_append]
  show _ + 1 ≤ 8
  omega
theorem WSo_s (h : WSo l ws) (hw : 1 ≤ w ∧ w ≤ 7) : WSo (l ++ sgW w) (ws ++ [w]) := by
  obtain ⟨⟨h1, h2⟩, h3⟩ := h
  refine ⟨⟨?_, fun v hv => ?_⟩, fun P hp => ?_⟩
  · have := sgW_len hw
    rw [List.length_append, List.length_append]
    show _ ≤ 8 * (ws.length + 1)
    omega
  · rcases List.mem_append.mp hv with c | c
    · exact h2 v c
    · rw [List.mem_singleton.mp c]; exact hw
  · obtain ⟨W, e, hW⟩ := h3 P (fun k q hq => hp k q (by rw [List.getElem?_append_left (get_lt hq)]; exact hq))
    refine ⟨_, by rw [rd_sg hw hp e, List.length_append]; rfl, fun i v hi => ?_⟩
    rcases Nat.lt_or_ge i ws.length with c | c
    · rw [List.getElem?_append_left c] at hi
      rw [upR_n (by omega)]
      exact hW i v hi
    · have := get_lt hi
      rw [List.length_append] at this
      obtain rfl : i = ws.length := by have : i < ws.length + 1 := this; omega
      rw [List.getElem?_concat_length] at hi
      cases hi
      exact upR_s
theorem WSo_t {P : Nat → Nat} (h : WSo l ws) (hp : pdL P l) : TXo P l.length ws := by
  obtain ⟨⟨h1, h2⟩, h3⟩ := h
  obtain ⟨W, e, hW⟩ := h3 P hp
  unfold TXo wdC wdW
  rw [e]
  exact tkL_w (fun i v hi => ⟨h2 v (List.mem_of_getElem? hi), hW i v hi⟩) ws.length (Nat.le_refl _)
theorem DFo_s (h : DFo D0 D f ws) (hw : w ≤ 7) : DFo D0 (upR D (1 + 5 * f + ws.length) w) f (ws ++ [w]) := by
  obtain ⟨h1, h2, h3, h4⟩ := h
  refine ⟨fun j => ?_, fun j hj => ?_, fun p v hp => ?_, fun j hj => ?_⟩
  · by_cases c : j = 1 + 5 * f + ws.length
    · rw [c, upR_s]; omega
    · rw [upR_n c]; exact h1 j
  · rw [List.length_append] at hj
    have hj : 1 + 5 * f + (ws.length + 1) ≤ j := hj
    rw [upR_n (by omega)]
    exact h2 j (by omega)
  · rcases Nat.lt_or_ge p ws.length with c | c
    · rw [List.getElem?_append_left c] at hp
      rw [upR_n (by omega)]
      exact h3 p v hp
    · have := get_lt hp
      rw [List.length_append] at this
      obtain rfl : p = ws.length := by have : p < ws.length + 1 := this; omega
      rw [List.getElem?_concat_length] at hp
      cases hp
      exact upR_s
  · rw [upR_n (by omega)]
    exact h4 j hj
theorem DFo_w {c : Nat} (h : DFo D0 D f ws) (hl : ws.length ≤ 5) (hf : f < 2) : ∀ p, p < 5 → wdN (hx D 12 + c * 16 ^ 12) f p = ws.getD p 0 := fun p hp => by
  unfold wdN dgt
  rw [if_pos hp, hx_at (fun j _ => h.1 j) (by omega), List.getD_eq_getElem?_getD]
  cases e : ws[p]? with
  | some v => exact h.2.2.1 p v e
  | none => exact h.2.1 _ (by have := List.getElem?_eq_none_iff.mp e; omega)
theorem q_ad47 {Q : Int32 → cS → Prop} {mc ms cd dd u a1 a2 a3 a4 a5 a6 a7 : Nat} {x8 x9 x10 : Int32} {R18 : Nat → Nat → Nat → Nat → Nat → Nat → Nat → Nat → Int32 → Int32 → Int32 → Int64 → Int32 → Int32 → Nat → Nat → cS → Prop} {Pp : Nat → Nat} (hx' : cA S x 11) (hf : f < 2) (hu : u < 2 ^ 31) (hD0 : ∀ j, D0 j < 16) (hDz : ∀ j, 1 + 5 * f ≤ j → D0 j = 0) (hm : cd + 226 ≤ mc ∧ dd + 1821 ≤ ms) (g : gLD S ρ x 0 Pp 1 A6 1 F6 G6 ad c0 c1 n0 P0 n1 P1) (hk : ∀ T ρ' P P' l ws D, fr S T ρ ρ' [2, 3, 4, 5, 6] → DFo D0 D f ws → (ws.length ≤ 5 ∧ ∀ w, w ∈ ws → 1 ≤ w ∧ w ≤ 7) → TXo P l ws → gLD T ρ' x 0 P' 1 A6 1 F6 G6 ad c0 c1 (if f = 0 then l else n0) (if f = 0 then P else P0) (if f = 0 then n1 else l) (if f = 0 then P1 else P) → R18 x a1 a2 a3 a4 a5 a6 a7 x8 x9 x10 (lN (hx D 12)) (nI 1) (nI (f + 1)) (cd + 226) (dd + 1821) T) : k_L_isAdded_47L Q dp mc ms R18 x a1 a2 a3 a4 a5 a6 a7 x8 x9 x10 (lN (hx D0 12)) (nI 1) (nI f) (nI u) (nI 0) cd dd S := by
  have hm5 : u % 5 < 5 := Nat.mod_lt _ (by decide)
  unfold k_L_isAdded_47L
  refine lfp_cnt (1 + u % 5) (fun i y => ∃ T l ws D, ws.length = i ∧ TYd S T ρ x ad c0 c1 n0 P0 n1 P1 l ∧ WSo l ws ∧ DFo D0 D f ws ∧ y = (x, a1, a2, a3, a4, a5, a6, a7, x8, x9, x10, lN (hx D 12), nI 1, nI f, nI u, nI i, cd, dd, T)) ?_ ⟨S, [], [], D0, rfl, ⟨fr_rf, Pp, fun k q hq => absurd (get_lt hq) (Nat.not_lt_zero k), g⟩, WSo_0, ⟨hD0, hDz, fun p w hp => absurd (get_lt hp) (Nat.not_lt_zero p), fun _ _ => rfl⟩, rfl⟩
  rintro P i _ hi ⟨T, l, ws, D, rfl, hT, hW, hD, rfl⟩ ih
  show k_L_isAdded_47 Q dp mc ms R18 _ x a1 a2 a3 a4 a5 a6 a7 x8 x9 x10 (lN (hx D 12)) (nI 1) (nI f) (nI u) (nI ws.length) cd dd T
  unfold k_L_isAdded_47
  rw [i_mod hu (by decide) (by decide), nI_add]
  refine pk_le (1 + u % 5) ws.length (fun c => ⟨fun z => absurd z (by decide), fun _ => ?_⟩) (fun c => ?_)
  · have l5 : ws.length ≤ 5 := by omega
    have hcx := TY_x hT
    obtain ⟨fT, P', hp, gT⟩ := hT
    refine ⟨hcx, 226, 1821, hm.1, hm.2, g_text (P' := P') gT hf (by omega) (by omega) (fun U ρ' fU gU => ⟨hm, ?_⟩)⟩
    have hlt : hx D 12 < 2 ^ 63 := Nat.lt_of_lt_of_le (hx_lt (fun j _ => hD.1 j)) (by decide)
    refine q_L_tokens hlt hf ?_
    have ew := fun p hp => DFo_w (c := 0) hD l5 hf p hp
    rw [Nat.zero_mul, Nat.add_zero] at ew
    have w8 : ∀ p, p < 5 → wdN (hx D 12) f p < 8 := fun p hp => by
      rw [ew p hp, List.getD_eq_getElem?_getD]
      cases e : ws[p]? with
      | none => exact (by decide : 0 < 8)
      | some v => have := hW.1.2 v (List.mem_of_getElem? e); show v < 8; omega
    have hlen : toN (hx D 12) f = (tkL F6 G6 1 stp6 (fun k => lN (stW (wdW P' l.length k))) (wdC P' l.length)).length := by
      rw [WSo_t hW hp, ← tkA_w l5 ew]
      exact (tkA_len w8 5 (Nat.le_refl _)).symm
    rw [hlen]
    refine ⟨fun z => absurd rfl z, fun _ => ?_⟩
    unfold k_L_isAdded_132
    rintro _ rfl
    rw [nI_add]
    exact hk U ρ' P' P' l.length ws D (fr_mix (fr_up fT (by decide)) fU) hD ⟨l5, hW.1.2⟩ (WSo_t hW hp) gU
  · rintro _ rfl
    have e65 : (65535 : Int32) = nI 65535 := by decide
    rw [nI_shr hu (by omega), e65, nI_and]
    obtain ⟨m, hm'⟩ : ∃ m, m = u / 2 ^ ws.length &&& 65535 := ⟨_, rfl⟩
    have hml : m ≤ 65535 := by rw [hm']; exact Nat.and_le_right
    rw [← hm', i_mod (by omega) (by decide) (by decide), nI_add]
    have hm7 : m % 7 < 7 := Nat.mod_lt _ (by decide)
    obtain ⟨w, hw⟩ : ∃ w, w = 1 + m % 7 := ⟨_, rfl⟩
    rw [← hw]
    have hw7 : 1 ≤ w ∧ w ≤ 7 := by omega
    rintro _ rfl
    have epl : nI 4 + nI 20 * nI f + nI 4 * nI ws.length = nI (4 * (1 + 5 * f + ws.length)) := by
      rw [pk_mul, pk_mul, nI_add, nI_add]
      congr 1
      omega
    have hw2 : w * 2 ^ (4 * (1 + 5 * f + ws.length)) < 2 ^ 64 := by
      have h1 : (2 : Nat) ^ (4 * (1 + 5 * f + ws.length)) ≤ 2 ^ 44 := Nat.pow_le_pow_right (by decide) (by omega)
      exact Nat.lt_of_le_of_lt (Nat.mul_le_mul hw7.2 h1) (by decide)
    rw [epl, nI_toL (by omega), jSl_N (by omega) hw2, hx_put hD.1 hD.2.1 (by omega)]
    refine ⟨⟨by omega, by omega⟩, q_L_types hw7 hT (by have := hW.1.1; omega) (fun U hU => ?_)⟩
    rintro _ rfl
    rw [nI_add]
    exact ih _ (by omega) ⟨U, l ++ sgW w, ws ++ [w], _, by rw [List.length_append]; rfl, hU, WSo_s hW hw7, DFo_s hD hw7.2, rfl⟩
end LZN
