/-! the reference: stems, synonyms, the pad -/
theorem stW_1 {w : Nat} (h : 6 ≤ lnW w) (h1 : endW w (lnW w) 103 0 = true) (h2 : endW w (lnW w) 110 1 = true) (h3 : endW w (lnW w) 105 2 = true) : stW w = cutW w (lnW w - 3) := by
  unfold stW; rw [if_pos ⟨h, h1, h2, h3⟩]
theorem stW_2 {w : Nat} (n1 : ¬ (6 ≤ lnW w ∧ endW w (lnW w) 103 0 = true ∧ endW w (lnW w) 110 1 = true ∧ endW w (lnW w) 105 2 = true)) (h : 5 ≤ lnW w) (h1 : endW w (lnW w) 100 0 = true) (h2 : endW w (lnW w) 101 1 = true) : stW w = cutW w (lnW w - 2) := by
  unfold stW; rw [if_neg n1, if_pos ⟨h, h1, h2⟩]
theorem stW_3 {w : Nat} (n1 : ¬ (6 ≤ lnW w ∧ endW w (lnW w) 103 0 = true ∧ endW w (lnW w) 110 1 = true ∧ endW w (lnW w) 105 2 = true)) (n2 : ¬ (5 ≤ lnW w ∧ endW w (lnW w) 100 0 = true ∧ endW w (lnW w) 101 1 = true)) (h : 4 ≤ lnW w) (h1 : endW w (lnW w) 115 0 = true) (h2 : endW w (lnW w) 115 1 = false) : stW w = cutW w (lnW w - 1) := by
  unfold stW; rw [if_neg n1, if_neg n2, if_pos ⟨h, h1, by rw [h2]; decide⟩]
theorem stW_4 {w : Nat} (n1 : ¬ (6 ≤ lnW w ∧ endW w (lnW w) 103 0 = true ∧ endW w (lnW w) 110 1 = true ∧ endW w (lnW w) 105 2 = true)) (n2 : ¬ (5 ≤ lnW w ∧ endW w (lnW w) 100 0 = true ∧ endW w (lnW w) 101 1 = true)) (n3 : ¬ (4 ≤ lnW w ∧ endW w (lnW w) 115 0 = true ∧ ¬ endW w (lnW w) 115 1 = true)) : stW w = w := by
  unfold stW; rw [if_neg n1, if_neg n2, if_neg n3]
/-- whether a synonym gives another token, which no earlier one gives -/
def gvB (F S : Nat → Int64) (j : Nat) (t : Int64) : Bool := ((F j == t) && !(S j == t)) && !(anyB (fun k => (F k == t) && (S k == S j)) j)
theorem gv_0 {X : Bool} {q : Nat → Bool} {k : Nat} (h : (X && !anyB q k) = false) : (X && !anyB q (k + 1)) = false := by
  rw [anyB]; cases X <;> simp_all
theorem gv_1 {X : Bool} {q : Nat → Bool} {k : Nat} (h : (X && !anyB q k) = true) (h2 : q k = false) : (X && !anyB q (k + 1)) = true := by
  rw [anyB]; cases X <;> simp_all
theorem gv_2 {X : Bool} {q : Nat → Bool} {k : Nat} (h2 : q k = true) : (X && !anyB q (k + 1)) = false := by
  rw [anyB]; cases X <;> simp_all
set_option maxHeartbeats 4000000 in
set_option maxRecDepth 100000 in
theorem c_stem (l : Launch) (v : Nat → Int32) (f : Nat → Nat → Int32) (g : Nat → Nat → Int64) (w : Nat) (hw : w < 2 ^ 63) (hp : mPow g) : mMl l yX12_stem cX12_stem 4 (some .long) 3 67 false [.long (lN w)] v f g (fun r_ u_ => r_ = lN (stW w) ∧ u_ = (v, f, g)) := by
  intro D cI cJ cZ a sz
  refine mg_body (by decide +kernel) rfl (Nat.le_of_ble_eq_true rfl) ?_
  intro p e s m args below meth c hsz C
  clear hsz
  generalize va_A (mW cI cJ cZ a v f g) sz = A at C ⊢
  refine mg_lv (lv' := [(0, .ref (a 0)), (1, .long (lN w))]) rfl ?_
  have hln := lnW_le w
  refine mg_aload_n C (i := 0) rfl 0 rfl dX12_stem_0 ?_
  refine mg_lload_n C (i := 1) rfl 1 rfl dX12_stem_1 ?_
  refine mg_doi C (c_length l v f g w (by omega) hp) mCal_length rfl ⟨by decide, by decide⟩ rfl (Nat.le_of_ble_eq_true rfl) dX12_stem_2 ?_
  refine mg_istore_n C (i := 3) (lv' := [(3, .int (nI (lnW w))), (0, .ref (a 0)), (1, .long (lN w))]) rfl (Nat.le_of_ble_eq_true rfl) rfl dX12_stem_5 ?_
  refine mg_have (X := Unit) 93 (fun y_ => (¬ (6 ≤ lnW w ∧ endW w (lnW w) 103 0 = true ∧ endW w (lnW w) 110 1 = true ∧ endW w (lnW w) 105 2 = true)) ∧ (¬ (5 ≤ lnW w ∧ endW w (lnW w) 100 0 = true ∧ endW w (lnW w) 101 1 = true))) (fun y_ => [(3, .int (nI (lnW w))), (0, .ref (a 0)), (1, .long (lN w))]) (fun y_ => []) (fun y_ => (v, f, g)) ?_ (fun cut_93 => ?_)
  · rintro u0 hI_
    dsimp only at hI_ ⊢
    obtain ⟨hq1, hq2⟩ := hI_
    refine mg_iload_n C (i := 3) rfl 0 rfl dX12_stem_93 ?_
    refine mg_iconst C (x := nI 4) rfl dX12_stem_94 ?_
    refine mg_icmp_ltN C (by omega) (by omega) 132 (by decide) dX12_stem_95 (fun c_95 => ?_) (fun c_95 => ?_)
    · refine mg_lload_n C (i := 1) rfl 2 rfl dX12_stem_132 ?_
      exact mg_lret C (by first | exact ⟨congrArg lN (stW_3 hq1 hq2 c_95 c_107 c_119).symm, rfl⟩ | exact ⟨congrArg lN (stW_4 hq1 hq2 (by rintro ⟨a1, a2, a3⟩; first | omega | exact absurd a2 (by rw [c_107]; decide) | exact a3 c_119)).symm, rfl⟩) dX12_stem_133
    · refine mg_aload_n C (i := 0) rfl 1 rfl dX12_stem_98 ?_
      refine mg_lload_n C (i := 1) rfl 2 rfl dX12_stem_99 ?_
      refine mg_iload_n C (i := 3) rfl 0 rfl dX12_stem_100 ?_
      refine mg_bipush C (x := nI 115) rfl dX12_stem_101 ?_
      refine mg_iconst C (x := nI 0) rfl dX12_stem_103 ?_
      refine mg_doi C (c_ends l v f g w (lnW w) 115 0 (by omega) hp (by omega) (by omega) (by omega)) mCal_ends rfl ⟨by decide, by decide⟩ rfl (Nat.le_of_ble_eq_true rfl) dX12_stem_104 ?_
      refine mg_if_eqB C 132 (by decide) dX12_stem_107 (fun c_107 => ?_) (fun c_107 => ?_)
      · refine mg_lload_n C (i := 1) rfl 2 rfl dX12_stem_132 ?_
        exact mg_lret C (by first | exact ⟨congrArg lN (stW_3 hq1 hq2 c_95 c_107 c_119).symm, rfl⟩ | exact ⟨congrArg lN (stW_4 hq1 hq2 (by rintro ⟨a1, a2, a3⟩; first | omega | exact absurd a2 (by rw [c_107]; decide) | exact a3 c_119)).symm, rfl⟩) dX12_stem_133
      · refine mg_aload_n C (i := 0) rfl 1 rfl dX12_stem_110 ?_
        refine mg_lload_n C (i := 1) rfl 2 rfl dX12_stem_111 ?_
        refine mg_iload_n C (i := 3) rfl 0 rfl dX12_stem_112 ?_
        refine mg_bipush C (x := nI 115) rfl dX12_stem_113 ?_
        refine mg_iconst C (x := nI 1) rfl dX12_stem_115 ?_
        refine mg_doi C (c_ends l v f g w (lnW w) 115 1 (by omega) hp (by omega) (by omega) (by omega)) mCal_ends rfl ⟨by decide, by decide⟩ rfl (Nat.le_of_ble_eq_true rfl) dX12_stem_116 ?_
        refine mg_if_neB C 132 (by decide) dX12_stem_119 (fun c_119 => ?_) (fun c_119 => ?_)
        · refine mg_lload_n C (i := 1) rfl 2 rfl dX12_stem_132 ?_
          exact mg_lret C (by first | exact ⟨congrArg lN (stW_3 hq1 hq2 c_95 c_107 c_119).symm, rfl⟩ | exact ⟨congrArg lN (stW_4 hq1 hq2 (by rintro ⟨a1, a2, a3⟩; first | omega | exact absurd a2 (by rw [c_107]; decide) | exact a3 c_119)).symm, rfl⟩) dX12_stem_133
        · refine mg_aload_n C (i := 0) rfl 1 rfl dX12_stem_122 ?_
          refine mg_lload_n C (i := 1) rfl 2 rfl dX12_stem_123 ?_
          refine mg_iload_n C (i := 3) rfl 0 rfl dX12_stem_124 ?_
          refine mg_iconst C (x := nI 1) rfl dX12_stem_125 ?_
          refine mg_dol C (c_without l v f g w (lnW w) 1 (by omega) hp (by omega) (by omega)) mCal_without rfl ⟨by decide, by decide⟩ rfl (Nat.le_of_ble_eq_true rfl) dX12_stem_126 ?_
          refine mg_goto C 133 (by decide) dX12_stem_129 ?_
          exact mg_lret C (by first | exact ⟨congrArg lN (stW_3 hq1 hq2 c_95 c_107 c_119).symm, rfl⟩ | exact ⟨congrArg lN (stW_4 hq1 hq2 (by rintro ⟨a1, a2, a3⟩; first | omega | exact absurd a2 (by rw [c_107]; decide) | exact a3 c_119)).symm, rfl⟩) dX12_stem_133
  refine mg_have (X := Unit) 56 (fun y_ => (¬ (6 ≤ lnW w ∧ endW w (lnW w) 103 0 = true ∧ endW w (lnW w) 110 1 = true ∧ endW w (lnW w) 105 2 = true))) (fun y_ => [(3, .int (nI (lnW w))), (0, .ref (a 0)), (1, .long (lN w))]) (fun y_ => []) (fun y_ => (v, f, g)) ?_ (fun cut_56 => ?_)
  · rintro u0 hI_
    dsimp only at hI_ ⊢
    have hq1 := hI_
    refine mg_iload_n C (i := 3) rfl 0 rfl dX12_stem_56 ?_
    refine mg_iconst C (x := nI 5) rfl dX12_stem_57 ?_
    refine mg_icmp_ltN C (by omega) (by omega) 93 (by decide) dX12_stem_58 (fun c_58 => ?_) (fun c_58 => ?_)
    · exact mg_sub [0, 1, 2] rfl (cut_93 () ⟨hq1, (by rintro ⟨a1, a2, a3⟩; first | omega | exact absurd a2 (by rw [c_70]; decide) | exact absurd a3 (by rw [c_82]; decide))⟩)
    · refine mg_aload_n C (i := 0) rfl 1 rfl dX12_stem_61 ?_
      refine mg_lload_n C (i := 1) rfl 2 rfl dX12_stem_62 ?_
      refine mg_iload_n C (i := 3) rfl 0 rfl dX12_stem_63 ?_
      refine mg_bipush C (x := nI 100) rfl dX12_stem_64 ?_
      refine mg_iconst C (x := nI 0) rfl dX12_stem_66 ?_
      refine mg_doi C (c_ends l v f g w (lnW w) 100 0 (by omega) hp (by omega) (by omega) (by omega)) mCal_ends rfl ⟨by decide, by decide⟩ rfl (Nat.le_of_ble_eq_true rfl) dX12_stem_67 ?_
      refine mg_if_eqB C 93 (by decide) dX12_stem_70 (fun c_70 => ?_) (fun c_70 => ?_)
      · exact mg_sub [0, 1, 2] rfl (cut_93 () ⟨hq1, (by rintro ⟨a1, a2, a3⟩; first | omega | exact absurd a2 (by rw [c_70]; decide) | exact absurd a3 (by rw [c_82]; decide))⟩)
      · refine mg_aload_n C (i := 0) rfl 1 rfl dX12_stem_73 ?_
        refine mg_lload_n C (i := 1) rfl 2 rfl dX12_stem_74 ?_
        refine mg_iload_n C (i := 3) rfl 0 rfl dX12_stem_75 ?_
        refine mg_bipush C (x := nI 101) rfl dX12_stem_76 ?_
        refine mg_iconst C (x := nI 1) rfl dX12_stem_78 ?_
        refine mg_doi C (c_ends l v f g w (lnW w) 101 1 (by omega) hp (by omega) (by omega) (by omega)) mCal_ends rfl ⟨by decide, by decide⟩ rfl (Nat.le_of_ble_eq_true rfl) dX12_stem_79 ?_
        refine mg_if_eqB C 93 (by decide) dX12_stem_82 (fun c_82 => ?_) (fun c_82 => ?_)
        · exact mg_sub [0, 1, 2] rfl (cut_93 () ⟨hq1, (by rintro ⟨a1, a2, a3⟩; first | omega | exact absurd a2 (by rw [c_70]; decide) | exact absurd a3 (by rw [c_82]; decide))⟩)
        · refine mg_aload_n C (i := 0) rfl 1 rfl dX12_stem_85 ?_
          refine mg_lload_n C (i := 1) rfl 2 rfl dX12_stem_86 ?_
          refine mg_iload_n C (i := 3) rfl 0 rfl dX12_stem_87 ?_
          refine mg_iconst C (x := nI 2) rfl dX12_stem_88 ?_
          refine mg_dol C (c_without l v f g w (lnW w) 2 (by omega) hp (by omega) (by omega)) mCal_without rfl ⟨by decide, by decide⟩ rfl (Nat.le_of_ble_eq_true rfl) dX12_stem_89 ?_
          exact mg_lret C ⟨congrArg lN (stW_2 hq1 c_58 c_70 c_82).symm, rfl⟩ dX12_stem_92
  refine mg_iload_n C (i := 3) rfl 0 rfl dX12_stem_6 ?_
  refine mg_bipush C (x := nI 6) rfl dX12_stem_7 ?_
  refine mg_icmp_ltN C (by omega) (by omega) 56 (by decide) dX12_stem_9 (fun c_9 => ?_) (fun c_9 => ?_)
  · exact mg_sub [0, 1, 2] rfl (cut_56 () (by rintro ⟨a1, a2, a3, a4⟩; first | omega | exact absurd a2 (by rw [c_21]; decide) | exact absurd a3 (by rw [c_33]; decide) | exact absurd a4 (by rw [c_45]; decide)))
  · refine mg_aload_n C (i := 0) rfl 1 rfl dX12_stem_12 ?_
    refine mg_lload_n C (i := 1) rfl 2 rfl dX12_stem_13 ?_
    refine mg_iload_n C (i := 3) rfl 0 rfl dX12_stem_14 ?_
    refine mg_bipush C (x := nI 103) rfl dX12_stem_15 ?_
    refine mg_iconst C (x := nI 0) rfl dX12_stem_17 ?_
    refine mg_doi C (c_ends l v f g w (lnW w) 103 0 (by omega) hp (by omega) (by omega) (by omega)) mCal_ends rfl ⟨by decide, by decide⟩ rfl (Nat.le_of_ble_eq_true rfl) dX12_stem_18 ?_
    refine mg_if_eqB C 56 (by decide) dX12_stem_21 (fun c_21 => ?_) (fun c_21 => ?_)
    · exact mg_sub [0, 1, 2] rfl (cut_56 () (by rintro ⟨a1, a2, a3, a4⟩; first | omega | exact absurd a2 (by rw [c_21]; decide) | exact absurd a3 (by rw [c_33]; decide) | exact absurd a4 (by rw [c_45]; decide)))
    · refine mg_aload_n C (i := 0) rfl 1 rfl dX12_stem_24 ?_
      refine mg_lload_n C (i := 1) rfl 2 rfl dX12_stem_25 ?_
      refine mg_iload_n C (i := 3) rfl 0 rfl dX12_stem_26 ?_
      refine mg_bipush C (x := nI 110) rfl dX12_stem_27 ?_
      refine mg_iconst C (x := nI 1) rfl dX12_stem_29 ?_
      refine mg_doi C (c_ends l v f g w (lnW w) 110 1 (by omega) hp (by omega) (by omega) (by omega)) mCal_ends rfl ⟨by decide, by decide⟩ rfl (Nat.le_of_ble_eq_true rfl) dX12_stem_30 ?_
      refine mg_if_eqB C 56 (by decide) dX12_stem_33 (fun c_33 => ?_) (fun c_33 => ?_)
      · exact mg_sub [0, 1, 2] rfl (cut_56 () (by rintro ⟨a1, a2, a3, a4⟩; first | omega | exact absurd a2 (by rw [c_21]; decide) | exact absurd a3 (by rw [c_33]; decide) | exact absurd a4 (by rw [c_45]; decide)))
      · refine mg_aload_n C (i := 0) rfl 1 rfl dX12_stem_36 ?_
        refine mg_lload_n C (i := 1) rfl 2 rfl dX12_stem_37 ?_
        refine mg_iload_n C (i := 3) rfl 0 rfl dX12_stem_38 ?_
        refine mg_bipush C (x := nI 105) rfl dX12_stem_39 ?_
        refine mg_iconst C (x := nI 2) rfl dX12_stem_41 ?_
        refine mg_doi C (c_ends l v f g w (lnW w) 105 2 (by omega) hp (by omega) (by omega) (by omega)) mCal_ends rfl ⟨by decide, by decide⟩ rfl (Nat.le_of_ble_eq_true rfl) dX12_stem_42 ?_
        refine mg_if_eqB C 56 (by decide) dX12_stem_45 (fun c_45 => ?_) (fun c_45 => ?_)
        · exact mg_sub [0, 1, 2] rfl (cut_56 () (by rintro ⟨a1, a2, a3, a4⟩; first | omega | exact absurd a2 (by rw [c_21]; decide) | exact absurd a3 (by rw [c_33]; decide) | exact absurd a4 (by rw [c_45]; decide)))
        · refine mg_aload_n C (i := 0) rfl 1 rfl dX12_stem_48 ?_
          refine mg_lload_n C (i := 1) rfl 2 rfl dX12_stem_49 ?_
          refine mg_iload_n C (i := 3) rfl 0 rfl dX12_stem_50 ?_
          refine mg_iconst C (x := nI 3) rfl dX12_stem_51 ?_
          refine mg_dol C (c_without l v f g w (lnW w) 3 (by omega) hp (by omega) (by omega)) mCal_without rfl ⟨by decide, by decide⟩ rfl (Nat.le_of_ble_eq_true rfl) dX12_stem_52 ?_
          exact mg_lret C ⟨congrArg lN (stW_1 c_9 c_21 c_33 c_45).symm, rfl⟩ dX12_stem_55
set_option maxHeartbeats 4000000 in
set_option maxRecDepth 100000 in
theorem c_gives (l : Launch) (v : Nat → Int32) (f : Nat → Nat → Int32) (g : Nat → Nat → Int64) (j : Nat) (t : Int64) (hj : j < 10) : mMi l yX12_gives cX12_gives 6 (some .boolean) 0 0 false [.int (nI j), .long t] v f g (fun r_ u_ => r_ = bI (gvB (g 5) (g 6) j t) ∧ u_ = (v, f, g)) := by
  intro D cI cJ cZ a sz
  refine mg_body (by decide +kernel) rfl (Nat.le_of_ble_eq_true rfl) ?_
  intro p e s m args below meth c hsz C
  clear hsz
  generalize va_A (mW cI cJ cZ a v f g) sz = A at C ⊢
  refine mg_lv (lv' := [(0, .ref (a 0)), (1, .int (nI j)), (2, .long t)]) rfl ?_
  refine mg_have (X := Bool) 27 (fun y_ => (y_ = ((g 5 j == t) && !(g 6 j == t)))) (fun y_ => [(0, .ref (a 0)), (1, .int (nI j)), (2, .long t)]) (fun y_ => [.int (bI y_)]) (fun y_ => (v, f, g)) ?_ (fun cut_27 => ?_)
  · rintro b hI_
    dsimp only at hI_ ⊢
    have hb := hI_
    refine mg_istore C (lv' := [(4, .int (bI b)), (0, .ref (a 0)), (1, .int (nI j)), (2, .long t)]) (Nat.le_of_ble_eq_true rfl) rfl dX12_gives_27 ?_
    refine mg_iconst C (x := nI 0) rfl dX12_gives_29 ?_
    refine mg_istore C (lv' := [(5, .int (nI 0)), (4, .int (bI b)), (0, .ref (a 0)), (1, .int (nI j)), (2, .long t)]) (Nat.le_of_ble_eq_true rfl) rfl dX12_gives_30 ?_
    refine mg_loop (X := Nat × Bool) (fun y_ => (y_.1 ≤ j) ∧ (y_.2 = (((g 5 j == t) && !(g 6 j == t)) && !(anyB (fun q => (g 5 q == t) && (g 6 q == g 6 j)) y_.1)))) (fun y_ => j - y_.1) (fun y_ => [(0, .ref (a 0)), (1, .int (nI j)), (2, .long t), (4, .int (bI y_.2)), (5, .int (nI y_.1))]) (fun y_ => (v, f, g)) (0, b) [2, 3, 4, 1, 0] rfl rfl ⟨by omega, by rw [hb]; simp [anyB]⟩ ?_
    rintro ⟨k, b2⟩ hI_ ih_32
    dsimp only at hI_ ih_32 ⊢
    obtain ⟨hk, hi⟩ := hI_
    refine mg_iload C 4 rfl dX12_gives_32 ?_
    refine mg_iload_n C (i := 1) rfl 1 rfl dX12_gives_34 ?_
    refine mg_icmp_geN C (by omega) (by omega) 85 (by decide) dX12_gives_35 (fun c_35 => ?_) (fun c_35 => ?_)
    · refine mg_iload C 3 rfl dX12_gives_85 ?_
      exact mg_zret C (bI_nar _) ⟨congrArg bI (by rw [hi, show k = j by omega]; rfl), rfl⟩ dX12_gives_87
    · refine mg_iload C 3 rfl dX12_gives_38 ?_
      refine mg_if_eqB C 76 (by decide) dX12_gives_40 (fun c_40 => ?_) (fun c_40 => ?_)
      · refine mg_iconst C (x := nI 0) rfl dX12_gives_76 ?_
        refine mg_cast (bI false) rfl ?_
        refine mg_istore C (lv' := [(4, .int (bI false)), (0, .ref (a 0)), (1, .int (nI j)), (2, .long t), (5, .int (nI k))]) (Nat.le_of_ble_eq_true rfl) rfl dX12_gives_77 ?_
        refine mg_iincN C (lv' := [(5, .int (nI (k + 1))), (4, .int (bI false)), (0, .ref (a 0)), (1, .int (nI j)), (2, .long t)]) 1 4 rfl rfl (Nat.le_of_ble_eq_true rfl) rfl dX12_gives_79 ?_
        refine mg_goto C 32 (by decide) dX12_gives_82 ?_
        exact mg_sub [2, 3, 4, 1, 0] rfl (ih_32 ((k + 1), false) ⟨by omega, by first | exact (gv_0 (hi.symm.trans c_38)).symm | exact Eq.symm (by exact gv_0 (hi.symm.trans c_40)) | exact Eq.symm (by exact gv_1 (hi.symm.trans c_40) (by rw [beq_eq_false_iff_ne.mpr c_52]; rfl)) | exact Eq.symm (by exact gv_2 (by rw [beq_iff_eq.mpr c_52, beq_iff_eq.mpr c_69]; rfl)) | exact Eq.symm (by exact gv_1 (hi.symm.trans c_40) (by rw [beq_eq_false_iff_ne.mpr c_69, Bool.and_false]))⟩ (by omega))
      · refine mg_aload_n C (i := 0) rfl 0 rfl dX12_gives_43 ?_
        refine mg_arr C 5 (by decide) (by decide) rfl mL_firsts rfl dX12_gives_44 ?_
        refine mg_iload C 4 rfl dX12_gives_47 ?_
        refine mg_laload C (n := 10) 5 k (by decide) (by decide) rfl rfl (by omega) (by decide) dX12_gives_49 ?_
        refine mg_lload_n C (i := 2) rfl 2 rfl dX12_gives_50 ?_
        refine mg_lcmp C dX12_gives_51 ?_
        refine mg_if_neL C 72 (by decide) dX12_gives_52 (fun c_52 => ?_) (fun c_52 => ?_)
        · refine mg_iconst C (x := nI 1) rfl dX12_gives_72 ?_
          refine mg_goto C 77 (by decide) dX12_gives_73 ?_
          refine mg_cast (bI true) rfl ?_
          refine mg_istore C (lv' := [(4, .int (bI true)), (0, .ref (a 0)), (1, .int (nI j)), (2, .long t), (5, .int (nI k))]) (Nat.le_of_ble_eq_true rfl) rfl dX12_gives_77 ?_
          refine mg_iincN C (lv' := [(5, .int (nI (k + 1))), (4, .int (bI true)), (0, .ref (a 0)), (1, .int (nI j)), (2, .long t)]) 1 4 rfl rfl (Nat.le_of_ble_eq_true rfl) rfl dX12_gives_79 ?_
          refine mg_goto C 32 (by decide) dX12_gives_82 ?_
          exact mg_sub [2, 3, 4, 1, 0] rfl (ih_32 ((k + 1), true) ⟨by omega, by first | exact (gv_0 (hi.symm.trans c_38)).symm | exact Eq.symm (by exact gv_0 (hi.symm.trans c_40)) | exact Eq.symm (by exact gv_1 (hi.symm.trans c_40) (by rw [beq_eq_false_iff_ne.mpr c_52]; rfl)) | exact Eq.symm (by exact gv_2 (by rw [beq_iff_eq.mpr c_52, beq_iff_eq.mpr c_69]; rfl)) | exact Eq.symm (by exact gv_1 (hi.symm.trans c_40) (by rw [beq_eq_false_iff_ne.mpr c_69, Bool.and_false]))⟩ (by omega))
        · refine mg_aload_n C (i := 0) rfl 0 rfl dX12_gives_55 ?_
          refine mg_arr C 6 (by decide) (by decide) rfl mL_seconds rfl dX12_gives_56 ?_
          refine mg_iload C 4 rfl dX12_gives_59 ?_
          refine mg_laload C (n := 10) 6 k (by decide) (by decide) rfl rfl (by omega) (by decide) dX12_gives_61 ?_
          refine mg_aload_n C (i := 0) rfl 0 rfl dX12_gives_62 ?_
          refine mg_arr C 6 (by decide) (by decide) rfl mL_seconds rfl dX12_gives_63 ?_
          refine mg_iload_n C (i := 1) rfl 1 rfl dX12_gives_66 ?_
          refine mg_laload C (n := 10) 6 j (by decide) (by decide) rfl rfl (by omega) (by decide) dX12_gives_67 ?_
          refine mg_lcmp C dX12_gives_68 ?_
          refine mg_if_eqL C 76 (by decide) dX12_gives_69 (fun c_69 => ?_) (fun c_69 => ?_)
          · refine mg_iconst C (x := nI 0) rfl dX12_gives_76 ?_
            refine mg_cast (bI false) rfl ?_
            refine mg_istore C (lv' := [(4, .int (bI false)), (0, .ref (a 0)), (1, .int (nI j)), (2, .long t), (5, .int (nI k))]) (Nat.le_of_ble_eq_true rfl) rfl dX12_gives_77 ?_
            refine mg_iincN C (lv' := [(5, .int (nI (k + 1))), (4, .int (bI false)), (0, .ref (a 0)), (1, .int (nI j)), (2, .long t)]) 1 4 rfl rfl (Nat.le_of_ble_eq_true rfl) rfl dX12_gives_79 ?_
            refine mg_goto C 32 (by decide) dX12_gives_82 ?_
            exact mg_sub [2, 3, 4, 1, 0] rfl (ih_32 ((k + 1), false) ⟨by omega, by first | exact (gv_0 (hi.symm.trans c_38)).symm | exact Eq.symm (by exact gv_0 (hi.symm.trans c_40)) | exact Eq.symm (by exact gv_1 (hi.symm.trans c_40) (by rw [beq_eq_false_iff_ne.mpr c_52]; rfl)) | exact Eq.symm (by exact gv_2 (by rw [beq_iff_eq.mpr c_52, beq_iff_eq.mpr c_69]; rfl)) | exact Eq.symm (by exact gv_1 (hi.symm.trans c_40) (by rw [beq_eq_false_iff_ne.mpr c_69, Bool.and_false]))⟩ (by omega))
          · refine mg_iconst C (x := nI 1) rfl dX12_gives_72 ?_
            refine mg_goto C 77 (by decide) dX12_gives_73 ?_
            refine mg_cast (bI true) rfl ?_
            refine mg_istore C (lv' := [(4, .int (bI true)), (0, .ref (a 0)), (1, .int (nI j)), (2, .long t), (5, .int (nI k))]) (Nat.le_of_ble_eq_true rfl) rfl dX12_gives_77 ?_
            refine mg_iincN C (lv' := [(5, .int (nI (k + 1))), (4, .int (bI true)), (0, .ref (a 0)), (1, .int (nI j)), (2, .long t)]) 1 4 rfl rfl (Nat.le_of_ble_eq_true rfl) rfl dX12_gives_79 ?_
            refine mg_goto C 32 (by decide) dX12_gives_82 ?_
            exact mg_sub [2, 3, 4, 1, 0] rfl (ih_32 ((k + 1), true) ⟨by omega, by first | exact (gv_0 (hi.symm.trans c_38)).symm | exact Eq.symm (by exact gv_0 (hi.symm.trans c_40)) | exact Eq.symm (by exact gv_1 (hi.symm.trans c_40) (by rw [beq_eq_false_iff_ne.mpr c_52]; rfl)) | exact Eq.symm (by exact gv_2 (by rw [beq_iff_eq.mpr c_52, beq_iff_eq.mpr c_69]; rfl)) | exact Eq.symm (by exact gv_1 (hi.symm.trans c_40) (by rw [beq_eq_false_iff_ne.mpr c_69, Bool.and_false]))⟩ (by omega))
  refine mg_aload_n C (i := 0) rfl 0 rfl dX12_gives_0 ?_
  refine mg_arr C 5 (by decide) (by decide) rfl mL_firsts rfl dX12_gives_1 ?_
  refine mg_iload_n C (i := 1) rfl 1 rfl dX12_gives_4 ?_
  refine mg_laload C (n := 10) 5 j (by decide) (by decide) rfl rfl (by omega) (by decide) dX12_gives_5 ?_
  refine mg_lload_n C (i := 2) rfl 2 rfl dX12_gives_6 ?_
  refine mg_lcmp C dX12_gives_7 ?_
  refine mg_if_neL C 26 (by decide) dX12_gives_8 (fun c_8 => ?_) (fun c_8 => ?_)
  · refine mg_iconst C (x := nI 0) rfl dX12_gives_26 ?_
    refine mg_cast (bI false) rfl ?_
    exact mg_sub [0, 1, 2] rfl (cut_27 false (by first | (rw [beq_eq_false_iff_ne.mpr c_8]; rfl) | (rw [beq_iff_eq.mpr c_19, beq_iff_eq.mpr c_8]; rfl) | (rw [beq_iff_eq.mpr c_8, beq_eq_false_iff_ne.mpr c_19]; rfl)))
  · refine mg_aload_n C (i := 0) rfl 0 rfl dX12_gives_11 ?_
    refine mg_arr C 6 (by decide) (by decide) rfl mL_seconds rfl dX12_gives_12 ?_
    refine mg_iload_n C (i := 1) rfl 1 rfl dX12_gives_15 ?_
    refine mg_laload C (n := 10) 6 j (by decide) (by decide) rfl rfl (by omega) (by decide) dX12_gives_16 ?_
    refine mg_lload_n C (i := 2) rfl 2 rfl dX12_gives_17 ?_
    refine mg_lcmp C dX12_gives_18 ?_
    refine mg_if_eqL C 26 (by decide) dX12_gives_19 (fun c_19 => ?_) (fun c_19 => ?_)
    · refine mg_iconst C (x := nI 0) rfl dX12_gives_26 ?_
      refine mg_cast (bI false) rfl ?_
      exact mg_sub [0, 1, 2] rfl (cut_27 false (by first | (rw [beq_eq_false_iff_ne.mpr c_8]; rfl) | (rw [beq_iff_eq.mpr c_19, beq_iff_eq.mpr c_8]; rfl) | (rw [beq_iff_eq.mpr c_8, beq_eq_false_iff_ne.mpr c_19]; rfl)))
    · refine mg_iconst C (x := nI 1) rfl dX12_gives_22 ?_
      refine mg_goto C 27 (by decide) dX12_gives_23 ?_
      refine mg_cast (bI true) rfl ?_
      exact mg_sub [0, 1, 2] rfl (cut_27 true (by first | (rw [beq_eq_false_iff_ne.mpr c_8]; rfl) | (rw [beq_iff_eq.mpr c_19, beq_iff_eq.mpr c_8]; rfl) | (rw [beq_iff_eq.mpr c_8, beq_eq_false_iff_ne.mpr c_19]; rfl)))
set_option maxHeartbeats 4000000 in
set_option maxRecDepth 100000 in
theorem c_thrown (l : Launch) (v : Nat → Int32) (f : Nat → Nat → Int32) (g : Nat → Nat → Int64)   : mMi l yX12_thrown cX12_thrown 1 (some .int) 0 0 false [] v f g (fun r_ u_ => r_ = v 99 ∧ u_ = (v, f, g)) := by
  intro D cI cJ cZ a sz
  refine mg_body (by decide +kernel) rfl (Nat.le_of_ble_eq_true rfl) ?_
  intro p e s m args below meth c hsz C
  clear hsz
  generalize va_A (mW cI cJ cZ a v f g) sz = A at C ⊢
  refine mg_lv (lv' := [(0, .ref (a 0))]) rfl ?_
  refine mg_aload_n C (i := 0) rfl 0 rfl dX12_thrown_0 ?_
  refine mg_getI C (k := 99) (by decide) rfl mL_last rfl dX12_thrown_1 ?_
  refine mg_cast (v 99) rfl ?_
  exact mg_iret C ⟨by first | rfl | simp_all, rfl⟩ dX12_thrown_4
set_option maxHeartbeats 4000000 in
set_option maxRecDepth 100000 in
theorem c_isDown (l : Launch) (v : Nat → Int32) (f : Nat → Nat → Int32) (g : Nat → Nat → Int64)  (d : Bool) (hd : v 98 = bI d) : mMi l yX12_isDown cX12_isDown 1 (some .boolean) 0 0 false [] v f g (fun r_ u_ => r_ = bI d ∧ u_ = (upd v 99 0, f, g)) := by
  intro D cI cJ cZ a sz
  refine mg_body (by decide +kernel) rfl (Nat.le_of_ble_eq_true rfl) ?_
  intro p e s m args below meth c hsz C
  clear hsz
  generalize va_A (mW cI cJ cZ a v f g) sz = A at C ⊢
  refine mg_lv (lv' := [(0, .ref (a 0))]) rfl ?_
  refine mg_aload_n C (i := 0) rfl 0 rfl dX12_isDown_0 ?_
  refine mg_iconst C (x := nI 0) rfl dX12_isDown_1 ?_
  refine mg_put C (k := 99) (by decide) rfl mL_last rfl (by decide +kernel) mT_last rfl rfl dX12_isDown_2 ?_
  refine mg_aload_n C (i := 0) rfl 0 rfl dX12_isDown_5 ?_
  refine mg_getI C (k := 98) (by decide) rfl mL_down rfl dX12_isDown_6 ?_
  refine mg_cast (bI d) hd ?_
  exact mg_zret C (bI_nar _) ⟨by first | rfl | simp_all, rfl⟩ dX12_isDown_9
set_option maxHeartbeats 4000000 in
set_option maxRecDepth 100000 in
theorem c_writes (l : Launch) (v : Nat → Int32) (f : Nat → Nat → Int32) (g : Nat → Nat → Int64)   : mMi l yX12_writes cX12_writes 1 (some .int) 0 0 false [] v f g (fun r_ u_ => r_ = v 96 ∧ u_ = (upd v 99 0, f, g)) := by
  intro D cI cJ cZ a sz
  refine mg_body (by decide +kernel) rfl (Nat.le_of_ble_eq_true rfl) ?_
  intro p e s m args below meth c hsz C
  clear hsz
  generalize va_A (mW cI cJ cZ a v f g) sz = A at C ⊢
  refine mg_lv (lv' := [(0, .ref (a 0))]) rfl ?_
  refine mg_aload_n C (i := 0) rfl 0 rfl dX12_writes_0 ?_
  refine mg_iconst C (x := nI 0) rfl dX12_writes_1 ?_
  refine mg_put C (k := 99) (by decide) rfl mL_last rfl (by decide +kernel) mT_last rfl rfl dX12_writes_2 ?_
  refine mg_aload_n C (i := 0) rfl 0 rfl dX12_writes_5 ?_
  refine mg_getI C (k := 96) (by decide) rfl mL_writes rfl dX12_writes_6 ?_
  refine mg_cast (v 96) rfl ?_
  exact mg_iret C ⟨by first | rfl | simp_all, rfl⟩ dX12_writes_9
set_option maxHeartbeats 4000000 in
set_option maxRecDepth 100000 in
theorem c_skipped (l : Launch) (v : Nat → Int32) (f : Nat → Nat → Int32) (g : Nat → Nat → Int64)   : mMi l yX12_skipped cX12_skipped 1 (some .int) 0 0 false [] v f g (fun r_ u_ => r_ = v 89 ∧ u_ = (upd v 99 0, f, g)) := by
  intro D cI cJ cZ a sz
  refine mg_body (by decide +kernel) rfl (Nat.le_of_ble_eq_true rfl) ?_
  intro p e s m args below meth c hsz C
  clear hsz
  generalize va_A (mW cI cJ cZ a v f g) sz = A at C ⊢
  refine mg_lv (lv' := [(0, .ref (a 0))]) rfl ?_
  refine mg_aload_n C (i := 0) rfl 0 rfl dX12_skipped_0 ?_
  refine mg_iconst C (x := nI 0) rfl dX12_skipped_1 ?_
  refine mg_put C (k := 99) (by decide) rfl mL_last rfl (by decide +kernel) mT_last rfl rfl dX12_skipped_2 ?_
  refine mg_aload_n C (i := 0) rfl 0 rfl dX12_skipped_5 ?_
  refine mg_getI C (k := 89) (by decide) rfl mL_skips rfl dX12_skipped_6 ?_
  refine mg_cast (v 89) rfl ?_
  exact mg_iret C ⟨by first | rfl | simp_all, rfl⟩ dX12_skipped_9
set_option maxHeartbeats 4000000 in
set_option maxRecDepth 100000 in
theorem c_cached (l : Launch) (v : Nat → Int32) (f : Nat → Nat → Int32) (g : Nat → Nat → Int64)   : mMi l yX12_cached cX12_cached 1 (some .int) 0 0 false [] v f g (fun r_ u_ => r_ = v 90 ∧ u_ = (upd v 99 0, f, g)) := by
  intro D cI cJ cZ a sz
  refine mg_body (by decide +kernel) rfl (Nat.le_of_ble_eq_true rfl) ?_
  intro p e s m args below meth c hsz C
  clear hsz
  generalize va_A (mW cI cJ cZ a v f g) sz = A at C ⊢
  refine mg_lv (lv' := [(0, .ref (a 0))]) rfl ?_
  refine mg_aload_n C (i := 0) rfl 0 rfl dX12_cached_0 ?_
  refine mg_iconst C (x := nI 0) rfl dX12_cached_1 ?_
  refine mg_put C (k := 99) (by decide) rfl mL_last rfl (by decide +kernel) mT_last rfl rfl dX12_cached_2 ?_
  refine mg_aload_n C (i := 0) rfl 0 rfl dX12_cached_5 ?_
  refine mg_getI C (k := 90) (by decide) rfl mL_taken rfl dX12_cached_6 ?_
  refine mg_cast (v 90) rfl ?_
  exact mg_iret C ⟨by first | rfl | simp_all, rfl⟩ dX12_cached_9
set_option maxHeartbeats 4000000 in
set_option maxRecDepth 100000 in
theorem c_wipe (l : Launch) (v : Nat → Int32) (f : Nat → Nat → Int32) (g : Nat → Nat → Int64)   : mMi l yX12_wipe cX12_wipe 2 (some .int) 0 0 false [] v f g (fun r_ u_ => r_ = v 2 ∧ u_ = (upd (upd v 99 0) 2 0, f, g)) := by
  intro D cI cJ cZ a sz
  refine mg_body (by decide +kernel) rfl (Nat.le_of_ble_eq_true rfl) ?_
  intro p e s m args below meth c hsz C
  clear hsz
  generalize va_A (mW cI cJ cZ a v f g) sz = A at C ⊢
  refine mg_lv (lv' := [(0, .ref (a 0))]) rfl ?_
  refine mg_aload_n C (i := 0) rfl 0 rfl dX12_wipe_0 ?_
  refine mg_iconst C (x := nI 0) rfl dX12_wipe_1 ?_
  refine mg_put C (k := 99) (by decide) rfl mL_last rfl (by decide +kernel) mT_last rfl rfl dX12_wipe_2 ?_
  refine mg_aload_n C (i := 0) rfl 0 rfl dX12_wipe_5 ?_
  refine mg_getI C (k := 2) (by decide) rfl mL_padded rfl dX12_wipe_6 ?_
  refine mg_cast (v 2) rfl ?_
  refine mg_istore_n C (i := 1) (lv' := [(1, .int (v 2)), (0, .ref (a 0))]) rfl (Nat.le_of_ble_eq_true rfl) rfl dX12_wipe_9 ?_
  refine mg_aload_n C (i := 0) rfl 1 rfl dX12_wipe_10 ?_
  refine mg_iconst C (x := nI 0) rfl dX12_wipe_11 ?_
  refine mg_put C (k := 2) (by decide) rfl mL_padded rfl (by decide +kernel) mT_padded rfl rfl dX12_wipe_12 ?_
  refine mg_iload_n C (i := 1) rfl 0 rfl dX12_wipe_15 ?_
  exact mg_iret C ⟨by first | rfl | simp_all, rfl⟩ dX12_wipe_16
set_option maxHeartbeats 4000000 in
set_option maxRecDepth 100000 in
theorem c_type (l : Launch) (v : Nat → Int32) (f : Nat → Nat → Int32) (g : Nat → Nat → Int64) (x : Nat) (n : Nat) (hx : x < 65536) (hn : n ≤ 40) (hv : v 2 = nI n) : mMi l yX12_type cX12_type 2 (some .int) 1 23 false [.int (nI x)] v f g (fun r_ u_ => ((inN x 32 126 && decide (n < 40)) = true → r_ = nI (n + 1) ∧ u_ = (upd (upd v 99 0) 2 (nI (n + 1)), sR f 2 (upR (f 2) n (nI x)), g)) ∧ ((inN x 32 126 && decide (n < 40)) = false → r_ = 0 ∧ u_ = (upd v 99 (goX (inN x 32 126) (decide (n < 40)) true), f, g))) := by
  intro D cI cJ cZ a sz
  refine mg_body (by decide +kernel) rfl (Nat.le_of_ble_eq_true rfl) ?_
  intro p e s m args below meth c hsz C
  clear hsz
  generalize va_A (mW cI cJ cZ a v f g) sz = A at C ⊢
  refine mg_lv (lv' := [(0, .ref (a 0)), (1, .int (nI x))]) rfl ?_
  refine mg_aload_n C (i := 0) rfl 0 rfl dX12_type_0 ?_
  refine mg_iload_n C (i := 1) rfl 1 rfl dX12_type_1 ?_
  refine mg_bipush C (x := nI 32) rfl dX12_type_2 ?_
  refine mg_bipush C (x := nI 126) rfl dX12_type_4 ?_
  refine mg_dosi C (c_in l v f g (nI x) (nI 32) (nI 126)) mCal_in rfl ⟨by decide, by decide⟩ rfl (Nat.le_of_ble_eq_true rfl) dX12_type_6 ?_
  refine mg_cast (bI (inN x 32 126)) (congrArg bI (inB_N (by omega) (by omega) (by omega))) ?_
  refine mg_aload_n C (i := 0) rfl 0 rfl dX12_type_9 ?_
  refine mg_getI C (k := 2) (by decide) rfl mL_padded rfl dX12_type_10 ?_
  refine mg_cast (nI n) hv ?_
  refine mg_bipush C (x := nI 40) rfl dX12_type_13 ?_
  refine mg_icmp_geN C (by omega) (by omega) 22 (by decide) dX12_type_15 (fun c_15 => ?_) (fun c_15 => ?_)
  · refine mg_iconst C (x := nI 0) rfl dX12_type_22 ?_
    refine mg_cast (bI (decide (n < 40))) (by first | exact (congrArg bI (decide_eq_true (by omega))).symm | exact (congrArg bI (decide_eq_false (by omega))).symm) ?_
    refine mg_iconst C (x := nI 1) rfl dX12_type_23 ?_
    refine mg_doi C (c_goes l v f g (inN x 32 126) (decide (n < 40)) true) mCal_goes rfl ⟨by decide, by decide⟩ rfl (Nat.le_of_ble_eq_true rfl) dX12_type_24 ?_
    refine mg_if_neB C 32 (by decide) dX12_type_27 (fun c_27 => ?_) (fun c_27 => ?_)
    · have h_27 : inN x 32 126 = true ∧ n < 40 := by simpa using c_27
      obtain ⟨h1_27, h2_27⟩ := h_27
      refine mg_aload_n C (i := 0) rfl 0 rfl dX12_type_32 ?_
      refine mg_arr C 2 (by decide) (by decide) rfl mL_pad rfl dX12_type_33 ?_
      refine mg_aload_n C (i := 0) rfl 0 rfl dX12_type_36 ?_
      refine mg_getI C (k := 2) (by decide) rfl mL_padded rfl dX12_type_37 ?_
      refine mg_cast (nI n) hv ?_
      refine mg_iload_n C (i := 1) rfl 1 rfl dX12_type_40 ?_
      refine mg_iastore C (n := 40) 2 n (by decide) (by decide) rfl rfl (by omega) (by decide) dX12_type_41 ?_
      refine mg_world (f' := (sR f 2 (upR (f 2) n (nI x)))) rfl mU_new rfl ?_
      refine mg_aload_n C (i := 0) rfl 0 rfl dX12_type_42 ?_
      refine mg_dup C rfl dX12_type_43 ?_
      refine mg_getI C (k := 2) (by decide) rfl mL_padded rfl dX12_type_44 ?_
      refine mg_cast (nI n) hv ?_
      refine mg_iconst C (x := nI 1) rfl dX12_type_47 ?_
      refine mg_iaddN C dX12_type_48 ?_
      refine mg_put C (k := 2) (by decide) rfl mL_padded rfl (by decide +kernel) mT_padded rfl rfl dX12_type_49 ?_
      refine mg_aload_n C (i := 0) rfl 0 rfl dX12_type_52 ?_
      refine mg_getI C (k := 2) (by decide) rfl mL_padded rfl dX12_type_53 ?_
      refine mg_cast (nI (n + 1)) rfl ?_
      exact mg_iret C ⟨fun _ => ⟨rfl, by rw [h1_27, decide_eq_true h2_27]; rfl⟩, fun h => absurd c_27 (by simpa using h)⟩ dX12_type_56
    · refine mg_iconst C (x := nI 0) rfl dX12_type_30 ?_
      exact mg_iret C ⟨fun h => absurd c_27 (by simpa using h), fun _ => ⟨rfl, rfl⟩⟩ dX12_type_31
  · refine mg_iconst C (x := nI 1) rfl dX12_type_18 ?_
    refine mg_goto C 23 (by decide) dX12_type_19 ?_
    refine mg_cast (bI (decide (n < 40))) (by first | exact (congrArg bI (decide_eq_true (by omega))).symm | exact (congrArg bI (decide_eq_false (by omega))).symm) ?_
    refine mg_iconst C (x := nI 1) rfl dX12_type_23 ?_
    refine mg_doi C (c_goes l v f g (inN x 32 126) (decide (n < 40)) true) mCal_goes rfl ⟨by decide, by decide⟩ rfl (Nat.le_of_ble_eq_true rfl) dX12_type_24 ?_
    refine mg_if_neB C 32 (by decide) dX12_type_27 (fun c_27 => ?_) (fun c_27 => ?_)
    · have h_27 : inN x 32 126 = true ∧ n < 40 := by simpa using c_27
      obtain ⟨h1_27, h2_27⟩ := h_27
      refine mg_aload_n C (i := 0) rfl 0 rfl dX12_type_32 ?_
      refine mg_arr C 2 (by decide) (by decide) rfl mL_pad rfl dX12_type_33 ?_
      refine mg_aload_n C (i := 0) rfl 0 rfl dX12_type_36 ?_
      refine mg_getI C (k := 2) (by decide) rfl mL_padded rfl dX12_type_37 ?_
      refine mg_cast (nI n) hv ?_
      refine mg_iload_n C (i := 1) rfl 1 rfl dX12_type_40 ?_
      refine mg_iastore C (n := 40) 2 n (by decide) (by decide) rfl rfl (by omega) (by decide) dX12_type_41 ?_
      refine mg_world (f' := (sR f 2 (upR (f 2) n (nI x)))) rfl mU_new rfl ?_
      refine mg_aload_n C (i := 0) rfl 0 rfl dX12_type_42 ?_
      refine mg_dup C rfl dX12_type_43 ?_
      refine mg_getI C (k := 2) (by decide) rfl mL_padded rfl dX12_type_44 ?_
      refine mg_cast (nI n) hv ?_
      refine mg_iconst C (x := nI 1) rfl dX12_type_47 ?_
      refine mg_iaddN C dX12_type_48 ?_
      refine mg_put C (k := 2) (by decide) rfl mL_padded rfl (by decide +kernel) mT_padded rfl rfl dX12_type_49 ?_
      refine mg_aload_n C (i := 0) rfl 0 rfl dX12_type_52 ?_
      refine mg_getI C (k := 2) (by decide) rfl mL_padded rfl dX12_type_53 ?_
      refine mg_cast (nI (n + 1)) rfl ?_
      exact mg_iret C ⟨fun _ => ⟨rfl, by rw [h1_27, decide_eq_true h2_27]; rfl⟩, fun h => absurd c_27 (by simpa using h)⟩ dX12_type_56
    · refine mg_iconst C (x := nI 0) rfl dX12_type_30 ?_
      exact mg_iret C ⟨fun h => absurd c_27 (by simpa using h), fun _ => ⟨rfl, rfl⟩⟩ dX12_type_31
