/-! the class's leaves, out of their predicates: words -/
section KA
variable {S : cS} {dp : Nat}
theorem q_digitOf {Q : Int32 → cS → Prop} {n : Nat} (hn : n < 65536) (h : Q (nI (figN n)) S) : k_X9_digitOf Q dp (nI n) S := by
  have l48 : nI n < nI 48 ↔ n < 48 := nI_ltI (by omega) (by decide)
  have g57 : nI 57 < nI n ↔ 57 < n := nI_ltI (by decide) (by omega)
  have l97 : nI n < nI 97 ↔ n < 97 := nI_ltI (by omega) (by decide)
  have g122 : nI 122 < nI n ↔ 122 < n := nI_ltI (by decide) (by omega)
  have l65 : nI n < nI 65 ↔ n < 65 := nI_ltI (by omega) (by decide)
  have g90 : nI 90 < nI n ↔ 90 < n := nI_ltI (by decide) (by omega)
  have hA : ∀ a b : Nat, (inN n a b = true ↔ a ≤ n ∧ n ≤ b) := fun a b => by simp [inN]
  have hF : ∀ a b : Nat, (inN n a b = false ↔ ¬ (a ≤ n ∧ n ≤ b)) := fun a b => by rw [← hA]; simp
  have c3 : ¬ (48 ≤ n ∧ n ≤ 57) → ¬ (97 ≤ n ∧ n ≤ 122) → k_X9_digitOf_39 Q dp (nI n) S := by
    intro h1 h2
    unfold k_X9_digitOf_39
    rw [l65, g90]
    refine ⟨fun c => ?_, fun c => ⟨fun c2 => ?_, fun c2 => ?_⟩⟩
    · rw [figN_0 ((hF _ _).mpr h1) ((hF _ _).mpr h2) ((hF _ _).mpr (by omega))] at h; exact h
    · rw [figN_0 ((hF _ _).mpr h1) ((hF _ _).mpr h2) ((hF _ _).mpr (by omega))] at h; exact h
    · rw [figN_3 ((hF _ _).mpr h1) ((hF _ _).mpr h2) ((hA _ _).mpr (by omega))] at h
      rw [pk_sub (by omega), nI_add]; exact h
  have c2 : ¬ (48 ≤ n ∧ n ≤ 57) → k_X9_digitOf_19 Q dp (nI n) S := by
    intro h1
    unfold k_X9_digitOf_19
    rw [l97, g122]
    refine ⟨fun c => c3 h1 (by omega), fun c => ⟨fun c2 => c3 h1 (by omega), fun c2 => ?_⟩⟩
    rw [figN_2 ((hF _ _).mpr h1) ((hA _ _).mpr (by omega))] at h
    rw [pk_sub (by omega), nI_add]; exact h
  unfold k_X9_digitOf
  rw [l48, g57]
  refine ⟨fun c => c2 (by omega), fun c => ⟨fun c3 => c2 (by omega), fun c3 => ?_⟩⟩
  rw [figN_1 ((hA _ _).mpr (by omega))] at h
  rw [pk_sub (by omega), nI_add]; exact h
/-- the digit of a word at any place: 0 where there is none -/
def dgI (w : Nat) (x : Int32) : Nat := if x < 0 then 0 else if x < nI 12 then dg w x.toNatClampNeg else 0
theorem dgI_N {w k : Nat} (hk : k < 12) : dgI w (nI k) = dg w k := by
  unfold dgI
  rw [if_neg (nI_pos (by omega)), if_pos ((nI_ltI (by omega) (by decide)).mpr hk), nI_clamp (by omega)]
theorem dgI_lt (w : Nat) (x : Int32) : dgI w x < 37 := by
  unfold dgI
  split
  · decide
  · split
    · exact dg_lt _ _
    · decide
theorem q_digitAtI {Q : Int32 → cS → Prop} {w : Nat} {x : Int32} (hw : w < 2 ^ 63) (h : Q (nI (dgI w x)) S) : k_X9_digitAt Q dp (lN w) x S := by
  unfold k_X9_digitAt
  unfold dgI at h
  refine ⟨fun c => ?_, fun c => ⟨fun c2 => ?_, fun c2 => ?_⟩⟩
  · rw [if_pos c] at h; exact h
  · rw [if_neg c, if_pos c2] at h
    obtain ⟨k, hk, rfl⟩ := nI_of c
    have c2 : k < 12 := (nI_ltI (by omega) (by decide)).mp c2
    rw [nI_clamp (by omega)] at h
    rw [pk_sub (show k ≤ 11 by omega), nI_clamp (by omega)]
    refine ⟨pk_in (11 - k) 12 (by omega), fun q => absurd ((pk_lEQ (p37_lt (by omega)) (by decide)).mp (q.trans (show (0 : Int64) = lN 0 from rfl))) (Nat.ne_of_gt (p37_pos _)), ?_⟩
    rw [pk_lDiv hw (p37_pos _) (p37_lt (by omega))]
    have e2 : lN (w / 37 ^ (11 - k)) - lN (w / 37 ^ (11 - k)) / 37 * 37 = lN (w / 37 ^ (11 - k) % 37) := pk_lRem (Nat.lt_of_le_of_lt (Nat.div_le_self _ _) hw) (by decide) (by decide)
    rw [e2, show (lN (w / 37 ^ (11 - k) % 37)).toInt32 = nI (dg w k) from lN_i _]
    exact h
  · rw [if_neg c, if_neg c2] at h; exact h
theorem q_digitAt {Q : Int32 → cS → Prop} {w k : Nat} (hw : w < 2 ^ 63) (hk : k < 12) (h : Q (nI (dg w k)) S) : k_X9_digitAt Q dp (lN w) (nI k) S := q_digitAtI hw (by rw [dgI_N hk]; exact h)
theorem q_lengthOf {Q : Int32 → cS → Prop} {w : Nat} (hw : w < 2 ^ 63) (h : Q (nI (lnW w)) S) : k_X9_lengthOf Q dp (lN w) S := by
  unfold k_X9_lengthOf k_X9_lengthOf_2L
  refine lfp_ind (I := fun y => ∃ k, k ≤ 12 ∧ (∀ j, j < k → 0 < dg w j) ∧ y = (lN w, nI k, S)) (μ := fun y => 12 - y.2.1.toNatClampNeg) ?_ ⟨0, by omega, fun j hj => absurd hj (Nat.not_lt_zero j), rfl⟩
  rintro P _ ⟨k, hk, hd, rfl⟩ ih
  show k_X9_lengthOf_2 Q dp _ (lN w) (nI k) S
  unfold k_X9_lengthOf_2
  refine ⟨fun c => ?_, fun c => ?_⟩
  · have c : 12 ≤ k := (nI_leI (by decide) (by omega)).mp c
    obtain rfl : k = 12 := by omega
    rw [lnW_eq (n := 12) (by omega) hd (by omega)] at h; exact h
  · have c : k < 12 := by have := mt (nI_leI (by decide) (by omega)).mpr c; omega
    refine q_digitAt hw c ?_
    have hb : dg w k < 2 ^ 31 := Nat.lt_trans (dg_lt _ _) (by decide)
    refine ⟨fun c2 => ?_, fun c2 => ?_⟩
    · have c2 := (nI_z hb).mp c2
      rw [lnW_eq (n := k) hk hd (fun _ => c2)] at h; exact h
    · have c2 : ¬ dg w k = 0 := fun q => c2 ((nI_z hb).mpr q)
      rintro _ rfl
      rw [nI_add]
      refine ih _ ⟨k + 1, by omega, fun j hj => ?_, rfl⟩ ?_
      · rcases Nat.lt_or_ge j k with q | q
        · exact hd j q
        · obtain rfl : j = k := by omega
          omega
      · show 12 - (nI (k + 1)).toNatClampNeg < 12 - (nI k).toNatClampNeg
        rw [nI_clamp (by omega), nI_clamp (by omega)]
        omega
theorem q_cutTo {Q : Int64 → cS → Prop} {w n : Nat} (hw : w < 2 ^ 63) (h1 : 1 ≤ n) (h2 : n ≤ 12) (h : Q (lN (cutW w n)) S) : k_X9_cutTo Q dp (lN w) (nI n) S := by
  unfold k_X9_cutTo
  refine ⟨fun c => absurd ((nI_ltI (by omega) (by decide)).mp c) (by omega), fun _ => ⟨fun _ => ?_, fun c => absurd ((nI_leI (by omega) (by decide)).mpr h2) c⟩⟩
  rw [pk_sub h2, nI_clamp (by omega)]
  refine ⟨pk_in (12 - n) 12 (by omega), fun q => absurd ((pk_lEQ (p37_lt (by omega)) (by decide)).mp (q.trans (show (0 : Int64) = lN 0 from rfl))) (Nat.ne_of_gt (p37_pos _)), ?_⟩
  have e1 : lN w / lN (37 ^ (12 - n)) * lN (37 ^ (12 - n)) = lN (cutW w n) := by rw [pk_lDiv hw (p37_pos _) (p37_lt (by omega)), lN_mul]; rfl
  have h0 := cutW_le w n
  rw [e1, lN_sub h0, lN_sub (Nat.sub_le _ _), show w - (w - cutW w n) = cutW w n by omega]
  exact h
def eW (w n x b : Nat) : Bool := decide (x = 32) || (dg w (n - b) == figN x)
theorem q_isEnding {Q : Int32 → cS → Prop} {w n x y z : Nat} (hw : w < 2 ^ 63) (hn : n ≤ 12) (h3 : 3 ≤ n) (hx : x < 65536) (hy : y < 65536) (hz : z < 65536) (h : Q (bI (eW w n x 3 && (eW w n y 2 && (dg w (n - 1) == figN z)))) S) : k_X9_isEnding Q dp (lN w) (nI n) (nI x) (nI y) (nI z) S := by
  have b1 : ∀ k, dg w k < 2 ^ 31 := fun k => Nat.lt_trans (dg_lt _ _) (by decide)
  have b2 : ∀ x, figN x < 2 ^ 31 := fun x => Nat.lt_trans (figN_lt _) (by decide)
  have k3 : eW w n x 3 = true → eW w n y 2 = true → k_X9_isEnding_42 Q dp (lN w) (nI n) (nI z) S := by
    intro e1 e2
    unfold k_X9_isEnding_42
    rw [pk_sub (show 1 ≤ n by omega)]
    refine q_digitAt hw (by omega) (q_digitOf hz ?_)
    rw [e1, e2, Bool.true_and, Bool.true_and] at h
    refine ⟨fun c => ?_, fun c => ?_⟩
    · rw [beq_eq_false_iff_ne.mpr (fun q => c (by rw [q]))] at h; exact h
    · rw [beq_iff_eq.mpr ((nI_eq (b1 _) (b2 _)).mp c)] at h; exact h
  have k2 : eW w n x 3 = true → k_X9_isEnding_20 Q dp (lN w) (nI n) (nI y) (nI z) S := by
    intro e1
    unfold k_X9_isEnding_20
    rw [pk_sub (show 2 ≤ n by omega)]
    refine ⟨fun c => k3 e1 ?_, fun c => q_digitAt hw (by omega) (q_digitOf hy ⟨fun c2 => ?_, fun c2 => k3 e1 ?_⟩)⟩
    · have c := (nI_eq (by omega) (by decide)).mp c
      unfold eW; rw [decide_eq_true c, Bool.true_or]
    · have c : ¬ y = 32 := fun q => c (by rw [q])
      have : eW w n y 2 = false := by
        unfold eW; rw [decide_eq_false c, beq_eq_false_iff_ne.mpr (fun q => c2 (by rw [q]))]; rfl
      rw [e1, this] at h; exact h
    · unfold eW; rw [beq_iff_eq.mpr ((nI_eq (b1 _) (b2 _)).mp c2), Bool.or_true]
  unfold k_X9_isEnding
  rw [pk_sub (show 3 ≤ n by omega)]
  refine ⟨fun c => k2 ?_, fun c => q_digitAt hw (by omega) (q_digitOf hx ⟨fun c2 => ?_, fun c2 => k2 ?_⟩)⟩
  · have c := (nI_eq (by omega) (by decide)).mp c
    unfold eW; rw [decide_eq_true c, Bool.true_or]
  · have c : ¬ x = 32 := fun q => c (by rw [q])
    have : eW w n x 3 = false := by
      unfold eW; rw [decide_eq_false c, beq_eq_false_iff_ne.mpr (fun q => c2 (by rw [q]))]; rfl
    rw [this] at h; exact h
  · unfold eW; rw [beq_iff_eq.mpr ((nI_eq (b1 _) (b2 _)).mp c2), Bool.or_true]
end KA
