/-! the case of adding -/
section LZO
variable {S V T U : cS} {ρ ρ' : Nat → Nat} {dp x k cd dd made dn key : Nat} {ar : Nat → Nat} {sl : Nat → List Nat} {BL : List Nat} {ix : Vw} {mg : Option (Vw × Nat)} {cm pr : Option Vw} {sn : List (Nat × Vw)} {o1 o2 : Option (Nat × Vw)} {op fi w : Nat} {cc : Option Nat} {off ad : Bool} {H : List (Nat × Nat)} {sk tk : Nat} {R : List (Nat × Nat)} {a : Nat}
theorem tkJ_in {w p : Nat} {y : Int64 × Nat} (h : y ∈ tkJ (tkI w) p) : y.1 ∈ WL6 := by
  unfold tkI at h
  split at h
  · unfold tkJ at h
    simp only [if_true, List.mem_cons, List.not_mem_nil, or_false] at h
    rcases h with rfl | rfl <;> simp [WL6]
  · split at h
    · rename_i h1 h2
      have : w = 3 ∨ w = 4 ∨ w = 5 ∨ w = 6 := by omega
      rcases this with rfl | rfl | rfl | rfl <;> (simp [tkJ] at h; subst h; simp [WL6])
    · exact absurd h List.not_mem_nil
theorem tIn_R (a : Nat) : tIn WL6 l6 (dcR a) := fun fl y hy => by
  have gen : ∀ f, y ∈ tkA a f 5 → y.1 ∈ WL6 := fun f h => by
    unfold tkA at h
    obtain ⟨p, -, hp⟩ := List.mem_flatMap.mp h
    exact tkJ_in hp
  unfold dT at hy
  split at hy
  · exact Or.inl (gen 0 hy)
  · exact Or.inl (gen 1 hy)
theorem pI_add {B' : List Dc} {lv' : Nat → Nat → Bool} {b : Bool} {D : Dc} (h : pI k WL6 l6 ad (sgR sl) made (BL.map dcR) ix mg cm pr sn (slO o1 o2) op cc false) (hkey : key < 100) (hkB : ∀ d, d ∈ BL.map dcR → dK d < 100) (hkS : ∀ n, n ∈ ix.1 → ∀ d, d ∈ sgR sl n → dK d < 100) (hdk : dkR (sgR sl) ix.1 (nI key) (BL.map dcR) ix.2 B' lv' b) (hDk : dK D = key) (hDt : tIn WL6 l6 D) : pI (k + 1) WL6 l6 true (sgR sl) made (B' ++ [D]) (ix.1, lv') mg cm pr sn (slO o1 o2) op cc false := by
  obtain ⟨⟨p1, p2, p3, p4, p5⟩, p6, p7, ⟨p8, p8b, p8c, p8d⟩, p9, p10, p11, p12, p13, p14⟩ := h
  obtain ⟨s1, s2, s3, s4⟩ := dkR_sub hdk
  obtain ⟨t1, t2⟩ := dkR_no hkey hkB hkS p6.1 (p1.2 key) p6.2 hdk
  refine ⟨⟨⟨p1.1, fun key n j d n' j' d' h1 h2 h3 h4 h5 h6 => p1.2 key n j d n' j' d' h1 h2 h3 h4 (s3 n j h5) (s3 n' j' h6)⟩, p2, p3, p4, p5⟩, ⟨fun i i' d d' h1 h2 h3 => ?_, fun d hd n j d' h1 h2 h3 => ?_⟩, p7, ⟨p8, p8b, p8c, by omega⟩, fun w => absurd w (by decide), p10, fun z => absurd z (by decide), ⟨p12.1, fun d hd => ?_⟩, p13, p14.1, ?_⟩
  · rcases app1_get.mp h1 with h1 | ⟨e1, e2⟩ <;> rcases app1_get.mp h2 with h2 | ⟨e3, e4⟩
    · exact s4 p6.1 i i' d d' h1 h2 h3
    · rw [e4, hDk] at h3
      exact absurd h3 (t1 d (List.mem_of_getElem? h1))
    · rw [e2, hDk] at h3
      exact absurd h3.symm (t1 d' (List.mem_of_getElem? h2))
    · rw [e1, e3]
  · rcases List.mem_append.mp hd with h | h
    · exact p6.2 d (s1 d h) n j d' h1 h2 (s3 n j h3)
    · rw [List.mem_singleton.mp h, hDk]
      exact t2 n j d' h1 h2 h3
  · rcases List.mem_append.mp hd with h | h
    · exact p12.2 d (s1 d h)
    · rw [List.mem_singleton.mp h]
      exact hDt
  · rw [List.length_append]
    have := p14.2
    show _ + (B'.length + 1) + _ ≤ _
    omega
/-- a record behind the buffer -/
theorem I6_push (g : I6 S ar dn made sl BL ix mg cm pr o1 o2 op fi w cc off H sk tk R) (hl : BL.length + 1 ≤ 10) (h60 : dn + BL.length + 1 ≤ 60) (ha : rcK a) (wV : lwT S V ([1, 15].map ar)) (oV : rO S V (ar 15) [1]) (v1 : cI V (ar 15) 1 = nI (BL.length + 1)) (b1 : ∀ i, i < BL.length → cJ V (ar 1) i = cJ S (ar 1) i) (b2 : cJ V (ar 1) BL.length = lN a) : I6 V ar dn made sl (BL ++ [a]) ix mg cm pr o1 o2 op fi w cc off H sk tk R := by
  obtain ⟨g1, g2, g3, g4, g5, g6, ⟨g7, g8, g9, g10⟩, g11, g12, g13⟩ := g
  have hlen : (BL ++ [a]).length = BL.length + 1 := by rw [List.length_append]; rfl
  refine ⟨lR_w wV g1, sg_w g1 wV rfl g2, ⟨⟨(oV 0 (by decide)).trans g3.1.1, by omega⟩, ⟨(oV 2 (by decide)).trans g3.2.1.1, g3.2.1.2⟩, g3.2.2.1, fun b hb => ?_⟩, ⟨by rw [hlen]; exact v1, by omega, fun i b hi => ?_⟩, ix_w g1 wV rfl oV rfl g5, mg_w g1 wV rfl oV rfl g6, ⟨of_w 7 (by decide) ⟨rfl, rfl⟩ g1 wV rfl g7, of_w 8 (by decide) ⟨rfl, rfl⟩ g1 wV rfl g8, of_w 9 (by decide) ⟨rfl, rfl⟩ g1 wV rfl g9, of_w 10 (by decide) ⟨rfl, rfl⟩ g1 wV rfl g10⟩, wr_w g1 wV rfl g11, nm_w oV rfl g12, fi_w g1 wV rfl oV rfl g13⟩
  · rcases List.mem_append.mp hb with c | c
    · exact g3.2.2.2 b c
    · rw [List.mem_singleton.mp c]; exact ha
  · rcases Nat.lt_or_ge i BL.length with c | c
    · rw [List.getElem?_append_left c] at hi
      rw [b1 i c]
      exact g4.2.2 i b hi
    · have := get_lt hi
      rw [hlen] at this
      obtain rfl : i = BL.length := by omega
      rw [List.getElem?_concat_length] at hi
      cases hi
      exact ⟨b2, ha.1⟩
/-- distinct keys are at most ten -/
theorem bl_10 (hu : ∀ (i i' : Nat) (d d' : Dc), (BL.map dcR)[i]? = some d → (BL.map dcR)[i']? = some d' → dK d = dK d' → i = i') (h : ∀ b, b ∈ BL → b % 16 < 10) : BL.length ≤ 10 := by
  have h1 := nd_lt (N := 10) (ids := BL.map (fun b => b % 16)) (nd_of (fun i j c hi hj => ?_)) (fun c hc => ?_)
  · rwa [List.length_map] at h1
  · rw [List.getElem?_map] at hi hj
    obtain ⟨y, hy, ey⟩ := Option.map_eq_some_iff.mp hi
    obtain ⟨z, hz, ez⟩ := Option.map_eq_some_iff.mp hj
    refine hu i j (dcR y) (dcR z) (by rw [List.getElem?_map, hy]; rfl) (by rw [List.getElem?_map, hz]; rfl) ?_
    rw [dK_R, dK_R]
    exact ey.trans ez.symm
  · obtain ⟨y, hy, rfl⟩ := List.mem_map.mp hc
    exact h y hy
/-- the record of what was typed -/
def D00 (key : Nat) : Nat → Nat := upR (fun _ => 0) 0 key
theorem D00_16 (h : key < 10) : (∀ j, D00 key j < 16) ∧ ∀ j, 1 ≤ j → D00 key j = 0 := ⟨fun j => by
  unfold D00
  by_cases c : j = 0
  · rw [c, upR_s]; omega
  · rw [upR_n c]; decide, fun j hj => by unfold D00; rw [upR_n (by omega)]⟩
theorem D00_hx (h : key < 10) : hx (D00 key) 12 = key := by
  have e := hx_hi (D := D00 key) (k := 1) (fun j hj => (D00_16 h).2 j hj) 11
  rw [e]
  show 0 + D00 key 0 * 16 ^ 0 = key
  unfold D00
  rw [upR_s]
  omega
theorem rec_ok {D1 D : Nat → Nat} {ws0 ws1 : List Nat} {c0 c1 : Nat} (hk : key < 10) (h0 : DFo (D00 key) D1 0 ws0) (h1 : DFo D1 D 1 ws1) (l0 : ws0.length ≤ 5 ∧ ∀ w, w ∈ ws0 → 1 ≤ w ∧ w ≤ 7) (l1 : ws1.length ≤ 5 ∧ ∀ w, w ∈ ws1 → 1 ≤ w ∧ w ≤ 7) (hc0 : c0 < 3) (hc1 : c1 < 5) : (lN (hx D 12) ||| (lN (c0 * 2 ^ 44) ||| lN (c1 * 2 ^ 48)) = lN (hx (upR D 11 c0) 12 + c1 * 16 ^ 12)) ∧ rcK (hx (upR D 11 c0) 12 + c1 * 16 ^ 12) ∧ (hx (upR D 11 c0) 12 + c1 * 16 ^ 12) % 16 = key ∧ dcR (hx (upR D 11 c0) 12 + c1 * 16 ^ 12) = ((key, c0, c1), (List.range ws0.length).flatMap (fun k => tkJ (tkI (ws0.getD k 0)) k), (List.range ws1.length).flatMap (fun k => tkJ (tkI (ws1.getD k 0)) k)) := by
  have D16 : ∀ j, upR D 11 c0 j < 16 := fun j => by
    by_cases c : j = 11
    · rw [c, upR_s]; omega
    · rw [upR_n c]; exact h1.1 j
  have at' : ∀ j, j < 12 → (hx (upR D 11 c0) 12 + c1 * 16 ^ 12) / 16 ^ j % 16 = upR D 11 c0 j := fun j hj => hx_at (fun q _ => D16 q) hj
  have hD0 : D 0 = key := by
    rw [h1.2.2.2 0 (by omega), h0.2.2.2 0 (by omega)]
    exact upR_s
  have w0 : ∀ p, p < 5 → upR D 11 c0 (1 + p) = ws0.getD p 0 := fun p hp => by
    rw [upR_n (by omega), h1.2.2.2 (1 + p) (by omega), List.getD_eq_getElem?_getD]
    cases e : ws0[p]? with
    | some v => have := h0.2.2.1 p v e; rw [show 1 + 5 * 0 + p = 1 + p by omega] at this; exact this
    | none => exact h0.2.1 _ (by have := List.getElem?_eq_none_iff.mp e; omega)
  have w1 : ∀ p, p < 5 → upR D 11 c0 (6 + p) = ws1.getD p 0 := fun p hp => by
    rw [upR_n (by omega), List.getD_eq_getElem?_getD]
    cases e : ws1[p]? with
    | some v => exact h1.2.2.1 p v e
    | none => exact h1.2.1 _ (by have := List.getElem?_eq_none_iff.mp e; omega)
  have lt8 : ∀ (ws : List Nat) p, (∀ w, w ∈ ws → 1 ≤ w ∧ w ≤ 7) → ws.getD p 0 < 8 := fun ws p hw => by
    rw [List.getD_eq_getElem?_getD]
    cases e : ws[p]? with
    | some v => have := hw v (List.mem_of_getElem? e); show v < 8; omega
    | none => exact (by decide : 0 < 8)
  have wd0 : ∀ p, p < 5 → wdN (hx (upR D 11 c0) 12 + c1 * 16 ^ 12) 0 p = ws0.getD p 0 := fun p hp => by
    unfold wdN dgt
    rw [if_pos hp, show 1 + 5 * 0 + p = 1 + p by omega, at' _ (by omega), w0 p hp]
  have wd1 : ∀ p, p < 5 → wdN (hx (upR D 11 c0) 12 + c1 * 16 ^ 12) 1 p = ws1.getD p 0 := fun p hp => by
    unfold wdN dgt
    rw [if_pos hp, show 1 + 5 * 1 + p = 6 + p by omega, at' _ (by omega), w1 p hp]
  have a0 : (hx (upR D 11 c0) 12 + c1 * 16 ^ 12) % 16 = key := by
    have := at' 0 (by decide)
    rw [Nat.pow_zero, Nat.div_one, upR_n (by decide), hD0] at this
    exact this
  have a11 : dgt (hx (upR D 11 c0) 12 + c1 * 16 ^ 12) 11 = c0 := by
    unfold dgt
    rw [at' 11 (by decide), upR_s]
  have a12 : (hx (upR D 11 c0) 12 + c1 * 16 ^ 12) / 16 ^ 12 = c1 := hx_top (fun q _ => D16 q)
  refine ⟨?_, ⟨?_, by rw [a0]; exact hk, by rw [a11]; exact hc0, fun p hp => ?_⟩, a0, ?_⟩
  · have e1 : hx D 12 = hx D 11 := hx_hi (D := D) (k := 11) (fun j hj => h1.2.1 j (by omega)) 1
    have hlt : hx D 11 < 2 ^ 44 := by
      have := hx_lt (D := D) (n := 11) (fun j _ => h1.1 j)
      exact Nat.lt_of_lt_of_le this (by decide)
    have e2 : hx (upR D 11 c0) 12 = hx D 11 + c0 * 16 ^ 11 := by
      show hx (upR D 11 c0) 11 + upR D 11 c0 11 * 16 ^ 11 = _
      rw [upR_s, hx_ext (E := D) (fun j hj => upR_n (by omega))]
    have e3 : c0 * 2 ^ 44 + c1 * 2 ^ 48 = (c0 + 16 * c1) * 2 ^ 44 := by omega
    rw [lN_orS (a := c0 * 2 ^ 44) (b := c1) (k := 48) (by omega), e3, e1, lN_orS hlt, e2]
    exact congrArg lN (by omega)
  · have := hx_lt (D := upR D 11 c0) (n := 12) (fun j _ => D16 j)
    have e : (16 : Nat) ^ 12 = 2 ^ 48 := by decide
    rw [e] at this ⊢
    omega
  · unfold dgt
    rw [at' (1 + p) (by omega)]
    rcases Nat.lt_or_ge p 5 with c | c
    · rw [w0 p c]; exact lt8 ws0 p l0.2
    · obtain ⟨q, rfl⟩ : ∃ q, p = 5 + q := ⟨p - 5, by omega⟩
      rw [show 1 + (5 + q) = 6 + q by omega, w1 q (by omega)]
      exact lt8 ws1 q l1.2
  · unfold dcR
    rw [a0, a11, a12, tkA_w l0.1 wd0, tkA_w l1.1 wd1]
end LZO
