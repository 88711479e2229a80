/-! documents of the law as documents of the class; what is due, names, deletes -/
/-- a word by its letters -/
def wdc : List Nat → Nat → Nat
  | [], _ => 0
  | c :: l, k => figN c * 37 ^ (11 - k) + wdc l (k + 1)
/-- the five tokens: cat run red sing boss -/
def tcW (t : Nat) : Nat := if t = 0 then wdc [99, 97, 116] 0 else if t = 1 then wdc [114, 117, 110, 110] 0 else if t = 2 then wdc [114, 101, 100] 0 else if t = 3 then wdc [115, 105, 110, 103] 0 else wdc [98, 111, 115, 115] 0
def tcN (t : Nat) : Int64 := lN (tcW t)
def tkJ (o : Option Nat) (p : Nat) : List (Int64 × Nat) := match o with
  | none => []
  | some k => if k = 0 then [(tcN 0, p), (tcN 2, p)] else [(tcN k, p)]
def tkA (n f : Nat) (k : Nat) : List (Int64 × Nat) := (List.range k).flatMap (fun p => tkJ (tkI (wdN n f p)) p)
def dcR (n : Nat) : Dc := ((n % 16, dgt n 11, n / 16 ^ 12), tkA n 0 5, tkA n 1 5)
theorem dK_R (n : Nat) : dK (dcR n) = n % 16 := rfl
theorem dC_R (n : Nat) : dC (dcR n) = dgt n 11 := rfl
theorem dN_R (n : Nat) : dN (dcR n) = n / 16 ^ 12 := rfl
def sgR (sl : Nat → List Nat) : Nat → List Dc := fun n => (sl n).map dcR
theorem sgR_len (sl : Nat → List Nat) (n : Nat) : (sgR sl n).length = (sl n).length := List.length_map _
theorem sgR_get {sl : Nat → List Nat} {n j : Nat} {d : Dc} : (sgR sl n)[j]? = some d ↔ ∃ a, (sl n)[j]? = some a ∧ dcR a = d := by
  unfold sgR
  rw [List.getElem?_map]
  constructor
  · intro h
    obtain ⟨a, h1, h2⟩ := Option.map_eq_some_iff.mp h
    exact ⟨a, h1, h2⟩
  · rintro ⟨a, h1, h2⟩
    exact Option.map_eq_some_iff.mpr ⟨a, h1, h2⟩
theorem sgR_up {sl : Nat → List Nat} {made : Nat} {L : List Nat} : sgR (upR sl made L) = upR (sgR sl) made (L.map dcR) := by
  funext n
  unfold sgR upR
  split <;> rfl
theorem due_len {sl : Nat → List Nat} {ids : List Nat} {k : Nat} (h : dueI (sgR sl) ids k) : k + 2 < ids.length := by
  obtain ⟨a, b, c, -, -, h3, -⟩ := h
  exact get_lt h3
section LH
variable {S T U : cS} {ad : Nat → Nat} {dp made n : Nat} {sl : Nat → List Nat} {ix : Vw}
/-- the index in rows: x and sizes -/
def lXi (S : cS) (z x m made : Nat) (sl : Nat → List Nat) (ids : List Nat) : Prop := ((cA S z 14 ∧ cn S z = 30) ∧ (cA S x 14 ∧ cn S x = 30) ∧ (cA S m 14 ∧ cn S m = 17)) ∧ (made ≤ 30 ∧ ids.length ≤ 30) ∧ cI S m 3 = nI ids.length ∧ (∀ k n, ids[k]? = some n → cI S x k = nI n ∧ n < made) ∧ ∀ n, n < made → cI S z n = nI (sl n).length ∧ (sl n).length ≤ 10
theorem lXi_X {z x m : Nat} {ids : List Nat} (g : lXi S z x m made sl ids) {k n : Nat} (hk : ids[k]? = some n) : (cX S x 14 (nI k) ∧ cI S x k = nI n) ∧ (cX S z 14 (nI n) ∧ cI S z n = nI (sl n).length ∧ (sl n).length ≤ 10) ∧ k < 30 ∧ n < 30 := by
  obtain ⟨⟨⟨z1, z2⟩, ⟨x1, x2⟩, m1⟩, ⟨g1, g2⟩, g3, g4, g5⟩ := g
  have hlt := get_lt hk
  obtain ⟨e1, e2⟩ := g4 k n hk
  exact ⟨⟨cX_mk x1 x2 (by decide) (by omega : k < 30) rfl, e1⟩, ⟨cX_mk z1 z2 (by decide) (by omega : n < 30) rfl, g5 n e2⟩, by omega, by omega⟩
theorem q_L_due {Q : Int32 → cS → Prop} {z x m : Nat} {ids : List Nat} (g : lXi S z x m made sl ids) (h0 : (∀ k, ¬ dueI (sgR sl) ids k) → Q (-1) S) (h1 : ∀ k, dueI (sgR sl) ids k → (∀ j, j < k → ¬ dueI (sgR sl) ids j) → k < 30 → Q (nI k) S) : k_L_due Q dp z x m S := by
  obtain ⟨⟨-, -, m1, m2⟩, ⟨g1, g2⟩, g3, g4, g5⟩ := id g
  unfold k_L_due
  intro y ey
  rw [ey, nI_clamp (by decide), g3]
  refine ⟨cX_mk m1 m2 (by decide) (by decide : 3 < 17) rfl, fun y4 ey4 => ?_⟩
  unfold k_L_due_9L
  by_cases hl : ids.length < 3
  · have hneg : y4 < 0 := by rw [ey4]; exact pk_sneg (by decide) hl
    refine lfp_cnt 0 (fun k w => w = (z, x, -1, y4, S)) ?_ rfl
    rintro P k _ hk rfl ih
    show k_L_due_9 Q dp _ z x (-1) y4 S
    unfold k_L_due_9
    exact ⟨fun _ => h0 (fun k hk => by have := due_len hk; omega), fun c => absurd hneg c⟩
  have ey5 : y4 = nM (ids.length - 2) := by
    rw [ey4, pk_sub (by omega), show ids.length - 2 = (ids.length - 3) + 1 from by omega, nM_s]
  rw [ey5]
  refine lfp_ind (fun w => ∃ c : Nat, c ≤ ids.length - 2 ∧ ∃ v : Int32, ((v = -1 ∧ ∀ k, c ≤ k → ¬ dueI (sgR sl) ids k) ∨ ∃ k, v = nI k ∧ c ≤ k ∧ dueI (sgR sl) ids k ∧ ∀ j, c ≤ j → j < k → ¬ dueI (sgR sl) ids j) ∧ w = (z, x, v, nM c, S)) (fun w => (w.2.2.2.1 + nI 1).toNatClampNeg) ?_ ⟨ids.length - 2, Nat.le_refl _, -1, Or.inl ⟨rfl, fun k hk hd => by have := due_len hd; omega⟩, rfl⟩
  rintro P _ ⟨c, hc, v, hv, rfl⟩ ih
  show k_L_due_9 Q dp _ z x v (nM c) S
  unfold k_L_due_9
  by_cases c0 : c = 0
  · subst c0
    refine ⟨fun _ => ?_, fun hc => absurd (by decide : nM 0 < 0) hc⟩
    rcases hv with ⟨rfl, h⟩ | ⟨k, rfl, hk, hd, hm⟩
    · exact h0 (fun k => h k (Nat.zero_le _))
    · have := due_len hd
      exact h1 k hd (fun j hj => hm j (Nat.zero_le _) hj) (by omega)
  obtain ⟨i, rfl⟩ : ∃ i, c = i + 1 := ⟨c - 1, by omega⟩
  rw [nM_s]
  refine w_pos i ?_
  obtain ⟨a, ha⟩ := get_ex (l := ids) (k := i) (by omega)
  obtain ⟨b, hb⟩ := get_ex (l := ids) (k := i + 1) (by omega)
  obtain ⟨e, he⟩ := get_ex (l := ids) (k := i + 2) (by omega)
  obtain ⟨⟨xa, ea⟩, ⟨za, la, la10⟩, i30, a30⟩ := lXi_X g ha
  obtain ⟨⟨xb, eb⟩, ⟨zb, lb, lb10⟩, i31, b30⟩ := lXi_X g hb
  obtain ⟨⟨xe, ee⟩, ⟨ze, le, le10⟩, i32, e30⟩ := lXi_X g he
  have next : ∀ v' : Int32, ((v' = -1 ∧ ∀ k, i ≤ k → ¬ dueI (sgR sl) ids k) ∨ ∃ k, v' = nI k ∧ i ≤ k ∧ dueI (sgR sl) ids k ∧ ∀ j, i ≤ j → j < k → ¬ dueI (sgR sl) ids j) → k_L_due_66 Q dp (fun b0 b1 b2 b3 S => P (b0, b1, b2, b3, S)) z x (nI i) v' S := fun v' hv' => by
    unfold k_L_due_66
    intro w ew
    rw [ew, nI_m1]
    refine ih _ ⟨i, by omega, v', hv', rfl⟩ ?_
    show (nM i + nI 1).toNatClampNeg < (nM (i + 1) + nI 1).toNatClampNeg
    have : ∀ j : Nat, nM j + nI 1 = nI j := fun j => by
      cases j with
      | zero => decide
      | succ j => rw [nM_s, nI_add]
    rw [this, this, nI_clamp (by omega), nI_clamp (by omega)]
    omega
  have old : ¬ dueI (sgR sl) ids i → k_L_due_66 Q dp (fun b0 b1 b2 b3 S => P (b0, b1, b2, b3, S)) z x (nI i) v S := fun hno => by
    refine next v ?_
    rcases hv with ⟨e1, h⟩ | ⟨k, e1, hk, hd, hm⟩
    · refine Or.inl ⟨e1, fun k hk => ?_⟩
      by_cases ck : k = i
      · rw [ck]; exact hno
      · exact h k (by omega)
    · refine Or.inr ⟨k, e1, by omega, hd, fun j hj hjk => ?_⟩
      by_cases ck : j = i
      · rw [ck]; exact hno
      · exact hm j (by omega) hjk
  have dI : dueI (sgR sl) ids i ↔ tierN (sl b).length = tierN (sl a).length ∧ tierN (sl e).length = tierN (sl a).length := by
    constructor
    · rintro ⟨a', b', e', h1, h2, h3, h4, h5⟩
      rw [ha] at h1; rw [hb] at h2; rw [he] at h3
      cases h1; cases h2; cases h3
      rw [sgR_len, sgR_len] at h4 h5
      exact ⟨h4, h5⟩
    · rintro ⟨h4, h5⟩
      exact ⟨a, b, e, ha, hb, he, by rw [sgR_len, sgR_len]; exact h4, by rw [sgR_len, sgR_len]; exact h5⟩
  have t5 : ∀ q, tierN q ≤ 4 := fun q => by unfold tierN; (repeat' split) <;> omega
  have ta := t5 (sl a).length
  have tb := t5 (sl b).length
  have te := t5 (sl e).length
  have ci := nI_clamp (show i < 2 ^ 31 by omega)
  have ca := nI_clamp (show a < 2 ^ 31 by omega)
  have cb := nI_clamp (show b < 2 ^ 31 by omega)
  have ce := nI_clamp (show e < 2 ^ 31 by omega)
  rw [ci, ea, ca, la]
  refine ⟨xa, za, q_L_tier (by omega) ?_⟩
  rw [nI_add, nI_clamp (show i + 1 < 2 ^ 31 by omega), eb, cb, lb]
  refine ⟨xb, zb, q_L_tier (by omega) ?_⟩
  refine w_ne _ _ (fun d => ?_) (fun d => ?_)
  · unfold k_L_due_65
    exact old (fun hd => d (dI.mp hd).1.symm)
  · rw [ea, ca, la]
    refine ⟨xa, za, q_L_tier (by omega) ?_⟩
    rw [nI_add, nI_clamp (show i + 2 < 2 ^ 31 by omega), ee, ce, le]
    refine ⟨xe, ze, q_L_tier (by omega) ?_⟩
    refine w_ne _ _ (fun d2 => ?_) (fun d2 => ?_)
    · unfold k_L_due_65
      exact old (fun hd => d2 (dI.mp hd).2.symm)
    · exact next _ (Or.inr ⟨i, rfl, Nat.le_refl _, dI.mpr ⟨d.symm, d2.symm⟩, fun j hj hji => by omega⟩)
end LH
