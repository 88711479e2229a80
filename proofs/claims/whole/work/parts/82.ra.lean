/-! the reference's leaves, out of their predicates -/
abbrev QI : Type := Int32 → (Nat → Int32) → (Nat → Nat → Int32) → (Nat → Nat → Int64) → Prop
abbrev QL : Type := Int64 → (Nat → Int32) → (Nat → Nat → Int32) → (Nat → Nat → Int64) → Prop
abbrev QV : Type := (Nat → Int32) → (Nat → Nat → Int32) → (Nat → Nat → Int64) → Prop
section RA
variable {v : Nat → Int32} {f : Nat → Nat → Int32} {g : Nat → Nat → Int64}
theorem p_in {Q : QI} {x lo hi : Int32} (h : Q (bI (inB x lo hi)) v f g) : r_in Q x lo hi v f g := by
  unfold r_in
  refine ⟨fun h1 => ?_, fun h1 => ⟨fun h2 => ?_, fun h2 => ?_⟩⟩
  · rw [inB_lo h1] at h; exact h
  · rw [inB_hi h2] at h; exact h
  · rw [inB_t h1 h2] at h; exact h
theorem p_inN {Q : QI} {x lo hi : Nat} (hx : x < 2 ^ 31) (hl : lo < 2 ^ 31) (hh : hi < 2 ^ 31) (h : Q (bI (inN x lo hi)) v f g) : r_in Q (nI x) (nI lo) (nI hi) v f g := p_in (by rw [inB_N hx hl hh]; exact h)
theorem p_goes {Q : QI} {b1 b2 b3 : Bool} (h : Q (bI (b1 && b2 && b3)) (upd v 99 (goX b1 b2 b3)) f g) : r_goes Q (bI b1) (bI b2) (bI b3) v f g := by
  unfold r_goes r_goes_26
  refine ⟨fun h1 => ⟨fun h2 => ⟨fun h3 => ?_, fun h3 => ?_⟩, fun h2 => ?_⟩, fun h1 => ?_⟩
  · obtain rfl := bI_n.mp h1
    obtain rfl := bI_n.mp h2
    obtain rfl := bI_0.mp h3
    rintro _ rfl
    exact ⟨fun _ => h, fun z => absurd z (by rw [upd_e]; decide)⟩
  · obtain rfl := bI_n.mp h1
    obtain rfl := bI_n.mp h2
    obtain rfl := bI_n.mp h3
    rintro _ rfl
    exact ⟨fun z => absurd (by rw [upd_e]; decide) z, fun _ => h⟩
  · obtain rfl := bI_n.mp h1
    obtain rfl := bI_0.mp h2
    rintro _ rfl
    exact ⟨fun _ => h, fun z => absurd z (by rw [upd_e]; decide)⟩
  · obtain rfl := bI_0.mp h1
    rintro _ rfl
    exact ⟨fun _ => h, fun z => absurd z (by rw [upd_e]; decide)⟩
theorem p_figure {Q : QI} {n : Nat} (hn : n < 65536) (h : Q (nI (figN n)) v f g) : r_figure Q (nI n) v f g := by
  unfold r_figure
  refine p_inN (by omega) (by decide) (by decide) ?_
  refine ⟨fun h1 => ?_, fun h1 => ?_⟩
  · have h1 := bI_0.mp h1
    refine p_inN (by omega) (by decide) (by decide) ?_
    refine ⟨fun h2 => ?_, fun h2 => ?_⟩
    · have h2 := bI_0.mp h2
      refine p_inN (by omega) (by decide) (by decide) ?_
      refine ⟨fun h3 => ?_, fun h3 => ?_⟩
      · rw [figN_0 h1 h2 (bI_0.mp h3)] at h; exact h
      · have h3 := bI_n.mp h3
        have q := inN_t h3
        rw [pk_sub q.1, nI_add]
        rw [figN_3 h1 h2 h3] at h; exact h
    · have h2 := bI_n.mp h2
      have q := inN_t h2
      rw [pk_sub q.1, nI_add]
      rw [figN_2 h1 h2] at h; exact h
  · have h1 := bI_n.mp h1
    have q := inN_t h1
    rw [pk_sub q.1, nI_add]
    rw [figN_1 h1] at h; exact h
theorem p_at {Q : QI} {w k : Nat} (hw : w < 2 ^ 63) (hk : k < 12) (hp : mPow g) (h : Q (nI (dg w k)) v f g) : r_at Q (lN w) (nI k) v f g := by
  unfold r_at
  have e1 : (nI k).toNatClampNeg = k := nI_clamp (by omega)
  refine ⟨pk_in k 12 hk, ?_⟩
  rw [e1, hp k hk]
  refine ⟨fun q => absurd ((pk_lEQ (p37_lt (by omega)) (by decide)).mp (q.trans (show (0 : Int64) = lN 0 from rfl))) (Nat.ne_of_gt (p37_pos _)), ?_⟩
  rw [pk_lDiv hw (p37_pos _) (p37_lt (by omega))]
  have e2 : lN (w / 37 ^ (11 - k)) - lN (w / 37 ^ (11 - k)) / 37 * 37 = lN (w / 37 ^ (11 - k) % 37) := pk_lRem (Nat.lt_of_le_of_lt (Nat.div_le_self _ _) hw) (by decide) (by decide)
  rw [e2, show (lN (w / 37 ^ (11 - k) % 37)).toInt32 = nI (dg w k) from lN_i _]
  exact h
theorem p_length {Q : QI} {w : Nat} (hw : w < 2 ^ 63) (hp : mPow g) (h : Q (nI (lnW w)) v f g) : r_length Q (lN w) v f g := by
  unfold r_length r_length_2L
  refine lfp_ind (I := fun y => ∃ k, k ≤ 12 ∧ (∀ j, j < k → 0 < dg w j) ∧ y = (lN w, nI k, v, f, g)) (μ := fun y => 12 - y.2.1.toNatClampNeg) ?_ ⟨0, by omega, fun j hj => absurd hj (Nat.not_lt_zero j), rfl⟩
  rintro P _ ⟨k, hk, hd, rfl⟩ ih
  show r_length_2 Q _ (lN w) (nI k) v f g
  unfold r_length_2
  refine ⟨fun c => ?_, fun c => ?_⟩
  · have c : 12 ≤ k := (nI_leI (by decide) (by omega)).mp c
    obtain rfl : k = 12 := by omega
    rw [lnW_eq (n := 12) (by omega) hd (by omega)] at h; exact h
  · have c : k < 12 := by have := mt (nI_leI (by decide) (by omega)).mpr c; omega
    refine p_at hw c hp ?_
    have hb : dg w k < 2 ^ 31 := Nat.lt_trans (dg_lt _ _) (by decide)
    refine ⟨fun c2 => ?_, fun c2 => ?_⟩
    · have c2 := (nI_le0 hb).mp c2
      rw [lnW_eq (n := k) hk hd (fun _ => c2)] at h; exact h
    · have c2 : ¬ dg w k = 0 := fun q => c2 ((nI_le0 hb).mpr q)
      rintro _ rfl
      rw [nI_add]
      refine ih _ ⟨k + 1, by omega, fun j hj => ?_, rfl⟩ ?_
      · rcases Nat.lt_or_ge j k with q | q
        · exact hd j q
        · obtain rfl : j = k := by omega
          omega
      · show 12 - (nI (k + 1)).toNatClampNeg < 12 - (nI k).toNatClampNeg
        rw [nI_clamp (by omega), nI_clamp (by omega)]
        omega
theorem p_ends {Q : QI} {w n x b : Nat} (hw : w < 2 ^ 63) (hp : mPow g) (hn : n ≤ 12) (hb : b < 12) (hx : x < 65536) (h : Q (bI (endW w n x b)) v f g) : r_ends Q (lN w) (nI n) (nI x) (nI b) v f g := by
  unfold r_ends
  refine ⟨fun c => ?_, fun c => ?_⟩
  · have c := (nI_leI (by omega) (by omega)).mp c
    rw [endW_0 c] at h; exact h
  · have c : b < n := by have := mt (nI_leI (by omega) (by omega)).mpr c; omega
    rw [pk_sub (by omega), pk_sub (by omega)]
    refine p_at hw (by omega) hp ?_
    refine p_figure hx ?_
    have b1 : dg w (n - 1 - b) < 2 ^ 31 := Nat.lt_trans (dg_lt _ _) (by decide)
    have b2 : figN x < 2 ^ 31 := Nat.lt_trans (figN_lt _) (by decide)
    refine ⟨fun c2 => ?_, fun c2 => ?_⟩
    · have c2 : ¬ dg w (n - 1 - b) = figN x := fun q => c2 (by rw [q])
      rw [endW_1 c c2] at h; exact h
    · have c2 := (nI_eq b1 b2).mp c2
      rw [endW_2 c c2] at h; exact h
theorem p_without {Q : QL} {w n k : Nat} (hw : w < 2 ^ 63) (hp : mPow g) (hn : n ≤ 12) (hk : k < n) (h : Q (lN (cutW w (n - k))) v f g) : r_without Q (lN w) (nI n) (nI k) v f g := by
  unfold r_without
  rw [pk_sub (by omega), pk_sub (by omega)]
  refine ⟨pk_in (n - k - 1) 12 (by omega), ?_⟩
  intro x hx
  rw [nI_clamp (by omega), hp _ (by omega), show 11 - (n - k - 1) = 12 - (n - k) by omega] at hx
  subst hx
  refine ⟨fun q => absurd ((pk_lEQ (p37_lt (by omega)) (by decide)).mp (q.trans (show (0 : Int64) = lN 0 from rfl))) (Nat.ne_of_gt (p37_pos _)), ?_⟩
  rw [pk_lDiv hw (p37_pos _) (p37_lt (by omega)), lN_mul]
  exact h
theorem p_isStop {Q : QI} {t : Int64} {n : Nat} (hn : n ≤ 10) (hv : v 6 = nI n) (h : Q (bI (anyB (fun j => g 4 j == t) n)) v f g) : r_isStop Q t v f g := by
  unfold r_isStop r_isStop_5L
  refine lfp_ind (I := fun y => ∃ k, k ≤ n ∧ y = (t, bI (anyB (fun j => g 4 j == t) k), nI k, v, f, g)) (μ := fun y => n - y.2.2.1.toNatClampNeg) ?_ ⟨0, by omega, rfl⟩
  rintro P _ ⟨k, hk, rfl⟩ ih
  show r_isStop_5 Q _ t (bI (anyB (fun j => g 4 j == t) k)) (nI k) v f g
  have hm : n - (nI (k + 1)).toNatClampNeg < n - (nI k).toNatClampNeg ∨ ¬ k < n := by
    rw [nI_clamp (by omega), nI_clamp (by omega)]; omega
  have go : ∀ b, b = anyB (fun j => g 4 j == t) (k + 1) → k < n → r_isStop_35 Q (fun b0 b1 b2 v f g => P (b0, b1, b2, v, f, g)) t (nI k) (bI b) v f g := by
    intro b hb hk2
    unfold r_isStop_35
    rintro _ rfl
    rw [nI_add]
    exact ih _ ⟨k + 1, by omega, by rw [hb]⟩ (hm.resolve_right (fun q => q hk2))
  unfold r_isStop_5
  rw [hv]
  refine ⟨fun c => ?_, fun c => ?_⟩
  · have c := (nI_leI (by omega) (by omega)).mp c
    obtain rfl : k = n := by omega
    exact ⟨⟨_, rfl⟩, h⟩
  · have c : k < n := by have := mt (nI_leI (by omega) (by omega)).mpr c; omega
    refine ⟨fun c2 => ?_, fun c2 => ?_⟩
    · have c2 := bI_n.mp c2
      exact go true (anyB_s1 c2).symm c
    · have c2 := bI_0.mp c2
      refine ⟨pk_in k 10 (by omega), ?_⟩
      rw [nI_clamp (by omega)]
      refine ⟨fun c3 => ?_, fun c3 => ?_⟩
      · exact go false (anyB_s0 c2 (beq_eq_false_iff_ne.mpr c3)).symm c
      · exact go true (Eq.symm (by exact anyB_s2 (beq_iff_eq.mpr c3))) c
end RA
