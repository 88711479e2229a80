/-! the law's rows by their numbers; writes; a flush -/
def lK (i : Nat) : Nat := if i < 3 then 15 else 14
def lLn (i : Nat) : Nat := [64, 12, 30, 30, 30, 30, 30, 64, 64, 64, 64, 8, 40, 32, 30, 17].getD i 0
/-- 0 records 1 buffer 2 segments 3 sizes 4 live 5 written 6 index 7 committed 8 prepared 9 10 looks 11 uses 12 hits 13 copies 14 kept 15 numbers -/
def lRow (S : cS) (ad : Nat → Nat) : Prop := (∀ i, i < 16 → cA S (ad i) (lK i) ∧ cn S (ad i) = lLn i) ∧ ∀ i j, i < 16 → j < 16 → ad i = ad j → i = j
def okX (i : Nat) (L : List Nat) : Bool := decide (i < 16) && L.all (fun j => decide (j < 16) && decide (j ≠ i))
/-- six bits each -/
def pk6 (f : Nat → Nat) : Nat → Nat := smN (fun j => f j * 64 ^ j)
theorem pk6_s (f : Nat → Nat) (n : Nat) : pk6 f (n + 1) = pk6 f n + f n * 64 ^ n := rfl
theorem pk6_lt {f : Nat → Nat} : ∀ {n : Nat}, (∀ j, j < n → f j < 64) → pk6 f n < 64 ^ n
  | 0, _ => Nat.one_pos
  | n + 1, h => by
    have ih := pk6_lt (n := n) (fun j hj => h j (by omega))
    have h1 := h n (by omega)
    rw [pk6_s, Nat.pow_succ]
    have : f n * 64 ^ n ≤ 63 * 64 ^ n := Nat.mul_le_mul_right _ (by omega)
    omega
theorem pk6_at {f : Nat → Nat} : ∀ {n j : Nat}, (∀ j, j < n → f j < 64) → j < n → pk6 f n / 64 ^ j % 64 = f j
  | 0, j, _, hj => absurd hj (Nat.not_lt_zero j)
  | n + 1, j, h, hj => by
    rw [pk6_s]
    by_cases c : j < n
    · have ih := pk6_at (n := n) (fun j hj => h j (by omega)) c
      obtain ⟨d, rfl⟩ : ∃ d, n = j + (d + 1) := ⟨n - j - 1, by omega⟩
      have e : f (j + (d + 1)) * 64 ^ (j + (d + 1)) = 64 ^ j * (64 * (f (j + (d + 1)) * 64 ^ d)) := by
        rw [Nat.pow_add, Nat.pow_succ]
        simp [Nat.mul_comm, Nat.mul_left_comm, Nat.mul_assoc]
      rw [e, Nat.add_mul_div_left _ _ (Nat.pow_pos (by decide)), Nat.add_mul_mod_self_left]
      exact ih
    · obtain rfl : j = n := by omega
      have hl := pk6_lt (n := j) (fun i hi => h i (by omega))
      rw [Nat.mul_comm, Nat.add_mul_div_left _ _ (Nat.pow_pos (by decide)), Nat.div_eq_of_lt hl, Nat.zero_add]
      exact Nat.mod_eq_of_lt (h j (by omega))
section LFW
variable {S T U : cS} {ad : Nat → Nat} {dp : Nat}
theorem lR_X (g : lRow S ad) {i k : Nat} (hi : i < 16) (h : k < lLn i) : cX S (ad i) (lK i) (nI k) := by
  obtain ⟨h1, h2⟩ := g.1 i hi
  have : lLn i < 100 := by
    unfold lLn
    rcases (by omega : i = 0 ∨ i = 1 ∨ i = 2 ∨ i = 3 ∨ i = 4 ∨ i = 5 ∨ i = 6 ∨ i = 7 ∨ i = 8 ∨ i = 9 ∨ i = 10 ∨ i = 11 ∨ i = 12 ∨ i = 13 ∨ i = 14 ∨ i = 15) with rfl | rfl | rfl | rfl | rfl | rfl | rfl | rfl | rfl | rfl | rfl | rfl | rfl | rfl | rfl | rfl <;> decide
  exact cX_mk h1 h2 (by omega) h rfl
theorem lR_w {A : List Nat} (w : lwT S T A) (g : lRow S ad) : lRow T ad := ⟨fun i hi => lw_row w (g.1 i hi), g.2⟩
theorem lR_n (g : lRow S ad) {i : Nat} {L : List Nat} (h : okX i L = true) : ad i ∉ L.map ad := by
  unfold okX at h
  rw [Bool.and_eq_true, decide_eq_true_eq, List.all_eq_true] at h
  obtain ⟨h1, h2⟩ := h
  intro c
  obtain ⟨j, hj, e⟩ := List.mem_map.mp c
  have h3 := h2 j hj
  rw [Bool.and_eq_true, decide_eq_true_eq, decide_eq_true_eq] at h3
  exact h3.2 (g.2 j i h3.1 h1 e)
theorem lR_ne (g : lRow S ad) {i j : Nat} (hi : i < 16) (hj : j < 16) (h : i ≠ j) : ad i ≠ ad j := fun e => h (g.2 i j hi hj e)
theorem lwI (g : lRow S ad) {L : List Nat} (w : lwT S T (L.map ad)) (i : Nat) (h : okX i L = true) : cI T (ad i) = cI S (ad i) := lw_I w (lR_n g h)
theorem lwJ (g : lRow S ad) {L : List Nat} (w : lwT S T (L.map ad)) (i : Nat) (h : okX i L = true) : cJ T (ad i) = cJ S (ad i) := lw_J w (lR_n g h)
/-- the machine goes DOWN -/
def lDw (S T : cS) (m p q g w : Nat) : Prop := lwT S T [m, p, q, g] ∧ rO S T m [1, 3, 4, 5, 6, 9, 13, 14, 15, 16] ∧ (cI T m 4 = nI w ∧ cI T m 6 = nI 1 ∧ cI T m 1 = nI 0 ∧ cI T m 3 = nI 0 ∧ cI T m 9 = nI 0 ∧ cI T m 13 = nI 0 ∧ cI T m 14 = nI 0 ∧ cI T m 15 = nI 0 ∧ cI T m 16 = nI 0) ∧ cI T p 0 = nI 0 ∧ cI T q 0 = nI 0 ∧ cI T g 0 = nI 0
/-- writes were done, j of them -/
def lWn (S T : cS) (m w : Nat) (cc : Option Nat) (j : Nat) : Prop := lwT S T [m] ∧ rO S T m [4, 5] ∧ cI T m 4 = nI (w + j) ∧ cI T m 5 = cIn (cc.map (fun k => k - j)) ∧ ∀ k, cc = some k → j ≤ k
section
variable {m p q g w j : Nat} {cc : Option Nat}
theorem lWn_0 (h4 : cI S m 4 = nI w) (h5 : cI S m 5 = cIn cc) : lWn S S m w cc 0 := ⟨lw_rf, rO_rf, h4, by cases cc <;> exact h5, fun _ _ => Nat.zero_le _⟩
theorem q_L_writes {Q : Int32 → cS → Prop} (gm : cA S m 14 ∧ cn S m = 17) (gp : cA S p 14 ∧ cn S p = 64) (gq : cA S q 14 ∧ cn S q = 64) (gg : cA S g 14 ∧ cn S g = 64) (hp : p ≠ m) (hq : q ≠ m) (hg : g ≠ m) (hcc : ∀ k, cc = some k → k ≤ 1000) (hT : lWn S T m w cc j) (h1 : ∀ U, (∀ k, cc = some k → j < k) → lWn S U m w cc (j + 1) → Q (bI true) U) (h2 : ∀ U, cc = some j → lDw S U m p q g (w + j) → Q (bI false) U) : k_L_writes Q dp m p q g T := by
  obtain ⟨w0, o0, e4, e5, hj⟩ := hT
  have mm : m ∈ [m] := List.mem_singleton.mpr rfl
  have gmT := lw_row w0 gm
  have mX : ∀ {U : cS} {A : List Nat}, lwT T U A → ∀ k, k < 17 → cX U m 14 (nI k) := fun w' k hk => cX_mk (lw_row w' gmT).1 (lw_row w' gmT).2 (by decide) hk rfl
  have m0 := fun k hk => mX (lw_rf (S := T) (A := [])) k hk
  unfold k_L_writes
  rw [nI_clamp (show 5 < 2 ^ 31 by decide), e5]
  refine ⟨m0 5 (by decide), ⟨fun hne => ⟨m0 5 (by decide), m0 5 (by decide), ?_⟩, fun he => ?_⟩⟩
  · have k73 : ∀ t0 t1 : Int32, t1 - t0 = cIn (cc.map (fun k => k - (j + 1))) → (∀ k, cc = some k → j < k) → k_L_writes_73 Q dp m t0 t1 (nI 5) m T := fun t0 t1 et hlt => by
      unfold k_L_writes_73
      rw [nI_clamp (show 5 < 2 ^ 31 by decide), et]
      refine ⟨m0 5 (by decide), fun S1 e1 => ?_⟩
      have w1 : lwT T S1 [m] := by rw [e1]; exact lw_SI mm
      have x4 : cI S1 m 4 = nI (w + j) := by rw [e1, cSI_o (by decide)]; exact e4
      rw [nI_clamp (show 4 < 2 ^ 31 by decide), x4, nI_add]
      refine ⟨mX w1 4 (by decide), mX w1 4 (by decide), fun S2 e2 => ?_⟩
      have w2 : lwT S1 S2 [m] := by rw [e2]; exact lw_SI mm
      have o1 : rO T S1 m [4, 5] := by rw [e1]; exact rO_SI (by simp)
      have o2 : rO S1 S2 m [4, 5] := by rw [e2]; exact rO_SI (by simp)
      refine h1 S2 hlt ⟨lw_tr w0 (lw_tr w1 w2 (fun _ c => c)) (fun _ c => c), rO_tr o0 (rO_tr o1 o2 (fun _ c => c)) (fun _ c => c), ?_, ?_, fun k hk => hlt k hk⟩
      · rw [e2, cSI_s]; rfl
      · rw [e2, cSI_o (by decide), e1, cSI_s]
    cases cc with
    | none => exact ⟨fun _ => k73 _ _ (show (-1 : Int32) - nI 0 = -1 from by decide) (fun k hk => nomatch hk), fun hc => absurd (by decide : (-1 : Int32) ≤ 0) hc⟩
    | some k =>
      have hk := hcc k rfl
      have hjk := hj k rfl
      have hne' : k - j ≠ 0 := fun e => hne (by show nI (k - j) = 0; rw [e]; rfl)
      refine ⟨fun hc => absurd ((nI_le0 (x := k - j) (by omega)).mp hc) hne', fun _ => k73 _ _ ?_ (fun k' hk' => by cases hk'; omega)⟩
      show nI (k - j) - nI 1 = nI (k - (j + 1))
      rw [pk_sub (by omega)]
      congr 1
  · obtain rfl : cc = some j := by
      cases cc with
      | none => exact absurd he (show ¬ (-1 : Int32) = 0 from by decide)
      | some k =>
        have hk := hcc k rfl
        have hjk := hj k rfl
        have : k - j = 0 := (nI_z (x := k - j) (by omega)).mp he
        congr 1
        omega
    refine ⟨m0 6 (by decide), fun S3 e3 => ?_⟩
    have w3 : lwT T S3 [m, p, q, g] := by rw [e3]; exact lw_SI (by simp)
    refine ⟨mX w3 1 (by decide), fun S4 e4' => ?_⟩
    have w4 : lwT T S4 [m, p, q, g] := lw_tr w3 (by rw [e4']; exact lw_SI (by simp)) (fun _ c => c)
    refine ⟨mX w4 3 (by decide), fun S5 e5' => ?_⟩
    have w5 : lwT T S5 [m, p, q, g] := lw_tr w4 (by rw [e5']; exact lw_SI (by simp)) (fun _ c => c)
    refine ⟨mX w5 9 (by decide), fun S6 e6 => ?_⟩
    have w6 : lwT T S6 [m, p, q, g] := lw_tr w5 (by rw [e6]; exact lw_SI (by simp)) (fun _ c => c)
    refine ⟨mX w6 13 (by decide), fun S7 e7 => ?_⟩
    have w7 : lwT T S7 [m, p, q, g] := lw_tr w6 (by rw [e7]; exact lw_SI (by simp)) (fun _ c => c)
    refine ⟨mX w7 14 (by decide), fun S8 e8 => ?_⟩
    have w8 : lwT T S8 [m, p, q, g] := lw_tr w7 (by rw [e8]; exact lw_SI (by simp)) (fun _ c => c)
    refine ⟨mX w8 15 (by decide), fun S9 e9 => ?_⟩
    have w9 : lwT T S9 [m, p, q, g] := lw_tr w8 (by rw [e9]; exact lw_SI (by simp)) (fun _ c => c)
    refine ⟨mX w9 16 (by decide), fun S10 e10 => ?_⟩
    have w10 : lwT T S10 [m, p, q, g] := lw_tr w9 (by rw [e10]; exact lw_SI (by simp)) (fun _ c => c)
    have g10p := lw_row (lw_tr (lw_wk w0 (B := [m, p, q, g]) (by simp)) w10 (fun _ c => c)) gp
    refine ⟨cX_mk g10p.1 g10p.2 (by decide) (by decide : 0 < 64) rfl, fun S11 e11 => ?_⟩
    have w11 : lwT T S11 [m, p, q, g] := lw_tr w10 (by rw [e11]; exact lw_SI (by simp)) (fun _ c => c)
    have g11q := lw_row (lw_tr (lw_wk w0 (B := [m, p, q, g]) (by simp)) w11 (fun _ c => c)) gq
    refine ⟨cX_mk g11q.1 g11q.2 (by decide) (by decide : 0 < 64) rfl, fun S12 e12 => ?_⟩
    have w12 : lwT T S12 [m, p, q, g] := lw_tr w11 (by rw [e12]; exact lw_SI (by simp)) (fun _ c => c)
    have g12g := lw_row (lw_tr (lw_wk w0 (B := [m, p, q, g]) (by simp)) w12 (fun _ c => c)) gg
    refine ⟨cX_mk g12g.1 g12g.2 (by decide) (by decide : 0 < 64) rfl, fun S13 e13 => ?_⟩
    have w13 : lwT T S13 [m, p, q, g] := lw_tr w12 (by rw [e13]; exact lw_SI (by simp)) (fun _ c => c)
    rw [nI_clamp (by decide)] at e3 e4' e5' e6 e7 e8 e9 e10 e11 e12 e13
    have hm : cI S13 m = cI S10 m := by rw [e13, cI_SI_ne hg.symm, e12, cI_SI_ne hq.symm, e11, cI_SI_ne hp.symm]
    have o13 : rO T S10 m [1, 3, 4, 5, 6, 9, 13, 14, 15, 16] := by
      rw [e10, e9, e8, e7, e6, e5', e4', e3]
      exact rO_tr (rO_tr (rO_tr (rO_tr (rO_tr (rO_tr (rO_tr (rO_SI (by simp)) (rO_SI (K := [1]) (by simp)) (by simp)) (rO_SI (K := [3]) (by simp)) (by simp)) (rO_SI (K := [9]) (by simp)) (by simp)) (rO_SI (K := [13]) (by simp)) (by simp)) (rO_SI (K := [14]) (by simp)) (by simp)) (rO_SI (K := [15]) (by simp)) (by simp)) (rO_SI (K := [16]) (by simp)) (by simp)
    refine h2 S13 rfl ⟨lw_tr (lw_wk w0 (by simp)) w13 (fun _ c => c), rO_tr (rO_tr (K := [1, 3, 4, 5, 6, 9, 13, 14, 15, 16]) rO_rf o0 (by simp)) (fun k hk => by rw [hm]; exact o13 k hk) (fun _ c => c), ?_, ?_, ?_, ?_⟩
    · rw [hm]
      refine ⟨?_, ?_, ?_, ?_, ?_, ?_, ?_, ?_, ?_⟩
      · rw [e10, cSI_o (by decide), e9, cSI_o (by decide), e8, cSI_o (by decide), e7, cSI_o (by decide), e6, cSI_o (by decide), e5', cSI_o (by decide), e4', cSI_o (by decide), e3, cSI_o (by decide)]; exact e4
      · rw [e10, cSI_o (by decide), e9, cSI_o (by decide), e8, cSI_o (by decide), e7, cSI_o (by decide), e6, cSI_o (by decide), e5', cSI_o (by decide), e4', cSI_o (by decide), e3, cSI_s]
      · rw [e10, cSI_o (by decide), e9, cSI_o (by decide), e8, cSI_o (by decide), e7, cSI_o (by decide), e6, cSI_o (by decide), e5', cSI_o (by decide), e4', cSI_s]
      · rw [e10, cSI_o (by decide), e9, cSI_o (by decide), e8, cSI_o (by decide), e7, cSI_o (by decide), e6, cSI_o (by decide), e5', cSI_s]
      · rw [e10, cSI_o (by decide), e9, cSI_o (by decide), e8, cSI_o (by decide), e7, cSI_o (by decide), e6, cSI_s]
      · rw [e10, cSI_o (by decide), e9, cSI_o (by decide), e8, cSI_o (by decide), e7, cSI_s]
      · rw [e10, cSI_o (by decide), e9, cSI_o (by decide), e8, cSI_s]
      · rw [e10, cSI_o (by decide), e9, cSI_s]
      · rw [e10, cSI_s]
    · by_cases c1 : p = g
      · rw [c1, e13, cSI_s]
      · rw [e13, cI_SI_ne c1]
        by_cases c2 : p = q
        · rw [c2, e12, cSI_s]
        · rw [e12, cI_SI_ne c2, e11, cSI_s]
    · by_cases c1 : q = g
      · rw [c1, e13, cSI_s]
      · rw [e13, cI_SI_ne c1, e12, cSI_s]
    · rw [e13, cSI_s]
end
end LFW
