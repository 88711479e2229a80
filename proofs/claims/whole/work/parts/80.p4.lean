/-! the reference: stop words, synonyms, texts, columns -/
theorem rdS_lt (P : Nat → Nat) : ∀ k, (∀ j, (rdS P k).2.2 j + 1 ≤ 37 ^ 12) ∧ (0 < (rdS P k).1 → (rdS P k).2.2 ((rdS P k).2.1 - 1) + 37 ^ (12 - min (rdS P k).1 12) ≤ 37 ^ 12)
  | 0 => by simp [rdS]
  | k + 1 => by
    obtain ⟨h1, h2⟩ := rdS_lt P k
    have hd := figN_lt (P k)
    rcases Nat.eq_zero_or_pos (figN (P k)) with h | h
    · rw [rdS_0 h]
      exact ⟨h1, fun q => absurd q (by omega)⟩
    · rcases Nat.eq_zero_or_pos (rdS P k).1 with q | q
      · rw [rdS_N h q]
        dsimp only
        refine ⟨fun j => ?_, fun _ => ?_⟩
        · by_cases e : j = (rdS P k).2.1
          · rw [upR_e e]; omega
          · rw [upR_n e]; exact h1 j
        · rw [upR_e (by omega), show 12 - min 1 12 = 11 from rfl]; omega
      · rw [rdS_I h q]
        dsimp only
        have h3 := h2 q
        by_cases hs : (rdS P k).1 < 12
        · rw [if_pos hs]
          have e1 : 37 ^ (12 - min (rdS P k).1 12) = 37 * 37 ^ (11 - (rdS P k).1) := by
            rw [show 12 - min (rdS P k).1 12 = 11 - (rdS P k).1 + 1 by omega, Nat.pow_succ, Nat.mul_comm]
          have e2 : 37 ^ (12 - min ((rdS P k).1 + 1) 12) = 37 ^ (11 - (rdS P k).1) := by
            rw [show 12 - min ((rdS P k).1 + 1) 12 = 11 - (rdS P k).1 by omega]
          have e3 : figN (P k) * 37 ^ (11 - (rdS P k).1) ≤ 36 * 37 ^ (11 - (rdS P k).1) := Nat.mul_le_mul_right _ (by omega)
          have e4 := p37_pos (11 - (rdS P k).1)
          rw [e1] at h3
          refine ⟨fun j => ?_, fun _ => ?_⟩
          · by_cases e : j = (rdS P k).2.1 - 1
            · rw [upR_e e]; omega
            · rw [upR_n e]; exact h1 j
          · rw [upR_e rfl, e2]; omega
        · rw [if_neg hs]
          refine ⟨fun j => ?_, fun _ => ?_⟩
          · by_cases e : j = (rdS P k).2.1 - 1
            · rw [upR_e e, ← e]; exact h1 j
            · rw [upR_n e]; exact h1 j
          · rw [upR_e rfl, show min ((rdS P k).1 + 1) 12 = min (rdS P k).1 12 by omega]; exact h3
theorem wdW_lt (P : Nat → Nat) (n j : Nat) : wdW P n j < 37 ^ 12 := (rdS_lt P n).1 j
theorem wdW_63 (P : Nat → Nat) (n j : Nat) : wdW P n j < 2 ^ 63 := Nat.lt_trans (wdW_lt P n j) (by decide)
theorem mS_inj {v v' : Nat → Int32} {f f' : Nat → Nat → Int32} {g g' : Nat → Nat → Int64} (h : (v, f, g) = (v', f', g')) : v' = v ∧ f' = f ∧ g' = g := by
  obtain ⟨h1, h2⟩ := Prod.mk.inj h
  obtain ⟨h2, h3⟩ := Prod.mk.inj h2
  exact ⟨h1.symm, h2.symm, h3.symm⟩
/-- the stem of the j-th word of the first n signs -/
noncomputable def wdT (P : Nat → Nat) (n j : Nat) : Nat := stW (wdW P n j)
theorem wdT_63 (P : Nat → Nat) (n j : Nat) : wdT P n j < 2 ^ 63 := Nat.lt_of_le_of_lt (stW_le _) (wdW_63 P n j)
set_option maxHeartbeats 4000000 in
set_option maxRecDepth 100000 in
theorem c_stop (l : Launch) (v : Nat → Int32) (f : Nat → Nat → Int32) (g : Nat → Nat → Int64)  (P : Nat → Nat) (n : Nat) (hp : mPow g) (hn : n ≤ 40) (hv : v 2 = nI n) (hP : ∀ j, j < n → f 2 j = nI (P j) ∧ P j < 65536) (k : Nat) (hk : v 6 = nI k) (hk10 : k ≤ 10) (ad : Bool) (had : v 10 = bI ad) : mMi l yX12_stop cX12_stop 3 (some .int) 4 90 false [] v f g (fun r_ u_ => ∃ r, (∀ j, j < wdC P n → r j = lN (wdW P n j)) ∧ (decide (wdC P n = 1 ∧ k < 10 ∧ ad = false) = true → anyB (fun q => g 4 q == lN (wdT P n 0)) k = true → r_ = nI k ∧ u_ = (upd (upd (upd v 4 (nI (wdC P n))) 99 (goX (decide (wdC P n = 1 ∧ k < 10 ∧ ad = false)) true true)) 2 (nI 0), f, sR g 3 r)) ∧ (decide (wdC P n = 1 ∧ k < 10 ∧ ad = false) = true → anyB (fun q => g 4 q == lN (wdT P n 0)) k = false → r_ = nI (k + 1) ∧ u_ = (upd (upd (upd (upd v 4 (nI (wdC P n))) 99 (goX (decide (wdC P n = 1 ∧ k < 10 ∧ ad = false)) true true)) 6 (nI (k + 1))) 2 (nI 0), f, sR (sR g 3 r) 4 (upR (g 4) k (lN (wdT P n 0))))) ∧ (decide (wdC P n = 1 ∧ k < 10 ∧ ad = false) = false → r_ = nI 0 ∧ u_ = (upd (upd v 4 (nI (wdC P n))) 99 (goX (decide (wdC P n = 1 ∧ k < 10 ∧ ad = false)) true true), f, sR g 3 r))) := by
  intro D cI cJ cZ a sz
  refine mg_body (by decide +kernel) rfl (Nat.le_of_ble_eq_true rfl) ?_
  intro p e s m args below meth c hsz C
  clear hsz
  generalize va_A (mW cI cJ cZ a v f g) sz = A at C ⊢
  refine mg_lv (lv' := [(0, .ref (a 0))]) rfl ?_
  have hwc := wdC_le P n
  refine mg_aload_n C (i := 0) rfl 0 rfl dX12_stop_0 ?_
  refine mg_callv C (c_reads l v f g P n hp hn hv hP) mCal_reads rfl ⟨by decide, by decide⟩ rfl (Nat.le_of_ble_eq_true rfl) dX12_stop_1 (fun v_1 f_1 g_1 h_1 => ?_)
  obtain ⟨r_1, hr_1, hu_1⟩ := h_1
  obtain ⟨rfl, rfl, rfl⟩ := mS_inj hu_1
  refine mg_aload_n C (i := 0) rfl 0 rfl dX12_stop_4 ?_
  refine mg_aload_n C (i := 0) rfl 0 rfl dX12_stop_5 ?_
  refine mg_getI C (k := 4) (by decide) rfl mL_worded rfl dX12_stop_6 ?_
  refine mg_cast (nI (wdC P n)) rfl ?_
  refine mg_iconst C (x := nI 1) rfl dX12_stop_9 ?_
  refine mg_icmp_neN C (by omega) (by omega) 33 (by decide) dX12_stop_10 (fun c_10 => ?_) (fun c_10 => ?_)
  · refine mg_iconst C (x := nI 0) rfl dX12_stop_33 ?_
    refine mg_cast (bI (decide (wdC P n = 1 ∧ k < 10 ∧ ad = false))) (by first | exact (congrArg bI (decide_eq_true ⟨c_10, c_19, c_26⟩)).symm | exact (congrArg bI (decide_eq_false (by rintro ⟨a1, a2, a3⟩; first | omega | exact absurd a3 (by rw [c_26]; decide)))).symm) ?_
    refine mg_iconst C (x := nI 1) rfl dX12_stop_34 ?_
    refine mg_iconst C (x := nI 1) rfl dX12_stop_35 ?_
    refine mg_doi C (c_goes l (upd v 4 (nI (wdC P n))) f (sR g 3 r_1) (decide (wdC P n = 1 ∧ k < 10 ∧ ad = false)) true true) mCal_goes rfl ⟨by decide, by decide⟩ rfl (Nat.le_of_ble_eq_true rfl) dX12_stop_36 ?_
    refine mg_if_neB C 44 (by decide) dX12_stop_39 (fun c_39 => ?_) (fun c_39 => ?_)
    · have h_39 : wdC P n = 1 ∧ k < 10 ∧ ad = false := by simpa using c_39
      obtain ⟨h39a, h39b, h39c⟩ := h_39
      have hw0 := wdW_63 P n 0
      refine mg_aload_n C (i := 0) rfl 0 rfl dX12_stop_44 ?_
      refine mg_aload_n C (i := 0) rfl 0 rfl dX12_stop_45 ?_
      refine mg_arr C 3 (by decide) (by decide) rfl mL_words rfl dX12_stop_46 ?_
      refine mg_iconst C (x := nI 0) rfl dX12_stop_49 ?_
      refine mg_laload C (n := 20) 3 0 (by decide) (by decide) rfl rfl (by omega) (by decide) dX12_stop_50 ?_
      refine mg_castL (r_1 0) rfl ?_
      refine mg_castL (lN (wdW P n 0)) (hr_1 0 (by omega)) ?_
      refine mg_dol C (c_stem l (upd (upd v 4 (nI (wdC P n))) 99 (goX (decide (wdC P n = 1 ∧ k < 10 ∧ ad = false)) true true)) f (sR g 3 r_1) ((wdW P n 0)) (by omega) hp) mCal_stem rfl ⟨by decide, by decide⟩ rfl (Nat.le_of_ble_eq_true rfl) dX12_stop_51 ?_
      refine mg_castL (lN (wdT P n 0)) rfl ?_
      refine mg_lstore_n C (i := 1) (lv' := [(1, .long (lN (wdT P n 0))), (0, .ref (a 0))]) rfl (Nat.le_of_ble_eq_true rfl) rfl dX12_stop_54 ?_
      refine mg_aload_n C (i := 0) rfl 1 rfl dX12_stop_55 ?_
      refine mg_lload_n C (i := 1) rfl 0 rfl dX12_stop_56 ?_
      refine mg_doi C (c_isStop l (upd (upd v 4 (nI (wdC P n))) 99 (goX (decide (wdC P n = 1 ∧ k < 10 ∧ ad = false)) true true)) f (sR g 3 r_1) (lN (wdT P n 0)) k (by omega) hk) mCal_isStop rfl ⟨by decide, by decide⟩ rfl (Nat.le_of_ble_eq_true rfl) dX12_stop_57 ?_
      refine mg_cast (bI (anyB (fun q => g 4 q == (lN (wdT P n 0))) k)) rfl ?_
      refine mg_if_neB C 83 (by decide) dX12_stop_60 (fun c_60 => ?_) (fun c_60 => ?_)
      · refine mg_aload_n C (i := 0) rfl 1 rfl dX12_stop_83 ?_
        refine mg_iconst C (x := nI 0) rfl dX12_stop_84 ?_
        refine mg_put C (k := 2) (by decide) rfl mL_padded rfl (by decide +kernel) mT_padded rfl rfl dX12_stop_85 ?_
        refine mg_aload_n C (i := 0) rfl 1 rfl dX12_stop_88 ?_
        refine mg_getI C (k := 6) (by decide) rfl mL_stopped rfl dX12_stop_89 ?_
        refine mg_cast (nI k) hk ?_
        exact mg_iret C (by
              have e1 : decide (wdC P n = 1 ∧ k < 10 ∧ ad = false) = true := decide_eq_true ⟨h39a, h39b, h39c⟩
              first
                | exact ⟨r_1, hr_1, fun _ _ => ⟨rfl, rfl⟩, fun _ h => absurd (c_60.symm.trans h) (by decide), fun h => absurd (e1.symm.trans h) (by decide)⟩
                | exact ⟨r_1, hr_1, fun _ h => absurd (h.symm.trans c_60) (by decide), fun _ _ => ⟨rfl, rfl⟩, fun h => absurd (e1.symm.trans h) (by decide)⟩) dX12_stop_92
      · refine mg_aload_n C (i := 0) rfl 1 rfl dX12_stop_63 ?_
        refine mg_arr C 4 (by decide) (by decide) rfl mL_stops rfl dX12_stop_64 ?_
        refine mg_aload_n C (i := 0) rfl 1 rfl dX12_stop_67 ?_
        refine mg_getI C (k := 6) (by decide) rfl mL_stopped rfl dX12_stop_68 ?_
        refine mg_cast (nI k) hk ?_
        refine mg_lload_n C (i := 1) rfl 0 rfl dX12_stop_71 ?_
        refine mg_lastore C (n := 10) 4 k (by decide) (by decide) rfl rfl (by omega) (by decide) dX12_stop_72 ?_
        refine mg_world (g' := (sR (sR g 3 r_1) 4 (upR (g 4) k (lN (wdT P n 0))))) rfl rfl mU_new ?_
        refine mg_aload_n C (i := 0) rfl 1 rfl dX12_stop_73 ?_
        refine mg_dup C rfl dX12_stop_74 ?_
        refine mg_getI C (k := 6) (by decide) rfl mL_stopped rfl dX12_stop_75 ?_
        refine mg_cast (nI k) hk ?_
        refine mg_iconst C (x := nI 1) rfl dX12_stop_78 ?_
        refine mg_iaddN C dX12_stop_79 ?_
        refine mg_put C (k := 6) (by decide) rfl mL_stopped rfl (by decide +kernel) mT_stopped rfl rfl dX12_stop_80 ?_
        refine mg_aload_n C (i := 0) rfl 1 rfl dX12_stop_83 ?_
        refine mg_iconst C (x := nI 0) rfl dX12_stop_84 ?_
        refine mg_put C (k := 2) (by decide) rfl mL_padded rfl (by decide +kernel) mT_padded rfl rfl dX12_stop_85 ?_
        refine mg_aload_n C (i := 0) rfl 1 rfl dX12_stop_88 ?_
        refine mg_getI C (k := 6) (by decide) rfl mL_stopped rfl dX12_stop_89 ?_
        refine mg_cast (nI (k + 1)) rfl ?_
        exact mg_iret C (by
              have e1 : decide (wdC P n = 1 ∧ k < 10 ∧ ad = false) = true := decide_eq_true ⟨h39a, h39b, h39c⟩
              first
                | exact ⟨r_1, hr_1, fun _ _ => ⟨rfl, rfl⟩, fun _ h => absurd (c_60.symm.trans h) (by decide), fun h => absurd (e1.symm.trans h) (by decide)⟩
                | exact ⟨r_1, hr_1, fun _ h => absurd (h.symm.trans c_60) (by decide), fun _ _ => ⟨rfl, rfl⟩, fun h => absurd (e1.symm.trans h) (by decide)⟩) dX12_stop_92
    · have h_39 : decide (wdC P n = 1 ∧ k < 10 ∧ ad = false) = false := by simpa using c_39
      refine mg_iconst C (x := nI 0) rfl dX12_stop_42 ?_
      exact mg_iret C ⟨r_1, hr_1, fun h => absurd (h_39.symm.trans h) (by decide), fun h => absurd (h_39.symm.trans h) (by decide), fun _ => ⟨rfl, rfl⟩⟩ dX12_stop_43
  · refine mg_aload_n C (i := 0) rfl 0 rfl dX12_stop_13 ?_
    refine mg_getI C (k := 6) (by decide) rfl mL_stopped rfl dX12_stop_14 ?_
    refine mg_cast (nI k) hk ?_
    refine mg_bipush C (x := nI 10) rfl dX12_stop_17 ?_
    refine mg_icmp_geN C (by omega) (by omega) 33 (by decide) dX12_stop_19 (fun c_19 => ?_) (fun c_19 => ?_)
    · refine mg_iconst C (x := nI 0) rfl dX12_stop_33 ?_
      refine mg_cast (bI (decide (wdC P n = 1 ∧ k < 10 ∧ ad = false))) (by first | exact (congrArg bI (decide_eq_true ⟨c_10, c_19, c_26⟩)).symm | exact (congrArg bI (decide_eq_false (by rintro ⟨a1, a2, a3⟩; first | omega | exact absurd a3 (by rw [c_26]; decide)))).symm) ?_
      refine mg_iconst C (x := nI 1) rfl dX12_stop_34 ?_
      refine mg_iconst C (x := nI 1) rfl dX12_stop_35 ?_
      refine mg_doi C (c_goes l (upd v 4 (nI (wdC P n))) f (sR g 3 r_1) (decide (wdC P n = 1 ∧ k < 10 ∧ ad = false)) true true) mCal_goes rfl ⟨by decide, by decide⟩ rfl (Nat.le_of_ble_eq_true rfl) dX12_stop_36 ?_
      refine mg_if_neB C 44 (by decide) dX12_stop_39 (fun c_39 => ?_) (fun c_39 => ?_)
      · have h_39 : wdC P n = 1 ∧ k < 10 ∧ ad = false := by simpa using c_39
        obtain ⟨h39a, h39b, h39c⟩ := h_39
        have hw0 := wdW_63 P n 0
        refine mg_aload_n C (i := 0) rfl 0 rfl dX12_stop_44 ?_
        refine mg_aload_n C (i := 0) rfl 0 rfl dX12_stop_45 ?_
        refine mg_arr C 3 (by decide) (by decide) rfl mL_words rfl dX12_stop_46 ?_
        refine mg_iconst C (x := nI 0) rfl dX12_stop_49 ?_
        refine mg_laload C (n := 20) 3 0 (by decide) (by decide) rfl rfl (by omega) (by decide) dX12_stop_50 ?_
        refine mg_castL (r_1 0) rfl ?_
        refine mg_castL (lN (wdW P n 0)) (hr_1 0 (by omega)) ?_
        refine mg_dol C (c_stem l (upd (upd v 4 (nI (wdC P n))) 99 (goX (decide (wdC P n = 1 ∧ k < 10 ∧ ad = false)) true true)) f (sR g 3 r_1) ((wdW P n 0)) (by omega) hp) mCal_stem rfl ⟨by decide, by decide⟩ rfl (Nat.le_of_ble_eq_true rfl) dX12_stop_51 ?_
        refine mg_castL (lN (wdT P n 0)) rfl ?_
        refine mg_lstore_n C (i := 1) (lv' := [(1, .long (lN (wdT P n 0))), (0, .ref (a 0))]) rfl (Nat.le_of_ble_eq_true rfl) rfl dX12_stop_54 ?_
        refine mg_aload_n C (i := 0) rfl 1 rfl dX12_stop_55 ?_
        refine mg_lload_n C (i := 1) rfl 0 rfl dX12_stop_56 ?_
        refine mg_doi C (c_isStop l (upd (upd v 4 (nI (wdC P n))) 99 (goX (decide (wdC P n = 1 ∧ k < 10 ∧ ad = false)) true true)) f (sR g 3 r_1) (lN (wdT P n 0)) k (by omega) hk) mCal_isStop rfl ⟨by decide, by decide⟩ rfl (Nat.le_of_ble_eq_true rfl) dX12_stop_57 ?_
        refine mg_cast (bI (anyB (fun q => g 4 q == (lN (wdT P n 0))) k)) rfl ?_
        refine mg_if_neB C 83 (by decide) dX12_stop_60 (fun c_60 => ?_) (fun c_60 => ?_)
        · refine mg_aload_n C (i := 0) rfl 1 rfl dX12_stop_83 ?_
          refine mg_iconst C (x := nI 0) rfl dX12_stop_84 ?_
          refine mg_put C (k := 2) (by decide) rfl mL_padded rfl (by decide +kernel) mT_padded rfl rfl dX12_stop_85 ?_
          refine mg_aload_n C (i := 0) rfl 1 rfl dX12_stop_88 ?_
          refine mg_getI C (k := 6) (by decide) rfl mL_stopped rfl dX12_stop_89 ?_
          refine mg_cast (nI k) hk ?_
          exact mg_iret C (by
                have e1 : decide (wdC P n = 1 ∧ k < 10 ∧ ad = false) = true := decide_eq_true ⟨h39a, h39b, h39c⟩
                first
                  | exact ⟨r_1, hr_1, fun _ _ => ⟨rfl, rfl⟩, fun _ h => absurd (c_60.symm.trans h) (by decide), fun h => absurd (e1.symm.trans h) (by decide)⟩
                  | exact ⟨r_1, hr_1, fun _ h => absurd (h.symm.trans c_60) (by decide), fun _ _ => ⟨rfl, rfl⟩, fun h => absurd (e1.symm.trans h) (by decide)⟩) dX12_stop_92
        · refine mg_aload_n C (i := 0) rfl 1 rfl dX12_stop_63 ?_
          refine mg_arr C 4 (by decide) (by decide) rfl mL_stops rfl dX12_stop_64 ?_
          refine mg_aload_n C (i := 0) rfl 1 rfl dX12_stop_67 ?_
          refine mg_getI C (k := 6) (by decide) rfl mL_stopped rfl dX12_stop_68 ?_
          refine mg_cast (nI k) hk ?_
          refine mg_lload_n C (i := 1) rfl 0 rfl dX12_stop_71 ?_
          refine mg_lastore C (n := 10) 4 k (by decide) (by decide) rfl rfl (by omega) (by decide) dX12_stop_72 ?_
          refine mg_world (g' := (sR (sR g 3 r_1) 4 (upR (g 4) k (lN (wdT P n 0))))) rfl rfl mU_new ?_
          refine mg_aload_n C (i := 0) rfl 1 rfl dX12_stop_73 ?_
          refine mg_dup C rfl dX12_stop_74 ?_
          refine mg_getI C (k := 6) (by decide) rfl mL_stopped rfl dX12_stop_75 ?_
          refine mg_cast (nI k) hk ?_
          refine mg_iconst C (x := nI 1) rfl dX12_stop_78 ?_
          refine mg_iaddN C dX12_stop_79 ?_
          refine mg_put C (k := 6) (by decide) rfl mL_stopped rfl (by decide +kernel) mT_stopped rfl rfl dX12_stop_80 ?_
          refine mg_aload_n C (i := 0) rfl 1 rfl dX12_stop_83 ?_
          refine mg_iconst C (x := nI 0) rfl dX12_stop_84 ?_
          refine mg_put C (k := 2) (by decide) rfl mL_padded rfl (by decide +kernel) mT_padded rfl rfl dX12_stop_85 ?_
          refine mg_aload_n C (i := 0) rfl 1 rfl dX12_stop_88 ?_
          refine mg_getI C (k := 6) (by decide) rfl mL_stopped rfl dX12_stop_89 ?_
          refine mg_cast (nI (k + 1)) rfl ?_
          exact mg_iret C (by
                have e1 : decide (wdC P n = 1 ∧ k < 10 ∧ ad = false) = true := decide_eq_true ⟨h39a, h39b, h39c⟩
                first
                  | exact ⟨r_1, hr_1, fun _ _ => ⟨rfl, rfl⟩, fun _ h => absurd (c_60.symm.trans h) (by decide), fun h => absurd (e1.symm.trans h) (by decide)⟩
                  | exact ⟨r_1, hr_1, fun _ h => absurd (h.symm.trans c_60) (by decide), fun _ _ => ⟨rfl, rfl⟩, fun h => absurd (e1.symm.trans h) (by decide)⟩) dX12_stop_92
      · have h_39 : decide (wdC P n = 1 ∧ k < 10 ∧ ad = false) = false := by simpa using c_39
        refine mg_iconst C (x := nI 0) rfl dX12_stop_42 ?_
        exact mg_iret C ⟨r_1, hr_1, fun h => absurd (h_39.symm.trans h) (by decide), fun h => absurd (h_39.symm.trans h) (by decide), fun _ => ⟨rfl, rfl⟩⟩ dX12_stop_43
    · refine mg_aload_n C (i := 0) rfl 0 rfl dX12_stop_22 ?_
      refine mg_getI C (k := 10) (by decide) rfl mL_added rfl dX12_stop_23 ?_
      refine mg_cast (bI ad) had ?_
      refine mg_if_neB C 33 (by decide) dX12_stop_26 (fun c_26 => ?_) (fun c_26 => ?_)
      · refine mg_iconst C (x := nI 0) rfl dX12_stop_33 ?_
        refine mg_cast (bI (decide (wdC P n = 1 ∧ k < 10 ∧ ad = false))) (by first | exact (congrArg bI (decide_eq_true ⟨c_10, c_19, c_26⟩)).symm | exact (congrArg bI (decide_eq_false (by rintro ⟨a1, a2, a3⟩; first | omega | exact absurd a3 (by rw [c_26]; decide)))).symm) ?_
        refine mg_iconst C (x := nI 1) rfl dX12_stop_34 ?_
        refine mg_iconst C (x := nI 1) rfl dX12_stop_35 ?_
        refine mg_doi C (c_goes l (upd v 4 (nI (wdC P n))) f (sR g 3 r_1) (decide (wdC P n = 1 ∧ k < 10 ∧ ad = false)) true true) mCal_goes rfl ⟨by decide, by decide⟩ rfl (Nat.le_of_ble_eq_true rfl) dX12_stop_36 ?_
        refine mg_if_neB C 44 (by decide) dX12_stop_39 (fun c_39 => ?_) (fun c_39 => ?_)
        · have h_39 : wdC P n = 1 ∧ k < 10 ∧ ad = false := by simpa using c_39
          obtain ⟨h39a, h39b, h39c⟩ := h_39
          have hw0 := wdW_63 P n 0
          refine mg_aload_n C (i := 0) rfl 0 rfl dX12_stop_44 ?_
          refine mg_aload_n C (i := 0) rfl 0 rfl dX12_stop_45 ?_
          refine mg_arr C 3 (by decide) (by decide) rfl mL_words rfl dX12_stop_46 ?_
          refine mg_iconst C (x := nI 0) rfl dX12_stop_49 ?_
          refine mg_laload C (n := 20) 3 0 (by decide) (by decide) rfl rfl (by omega) (by decide) dX12_stop_50 ?_
          refine mg_castL (r_1 0) rfl ?_
          refine mg_castL (lN (wdW P n 0)) (hr_1 0 (by omega)) ?_
          refine mg_dol C (c_stem l (upd (upd v 4 (nI (wdC P n))) 99 (goX (decide (wdC P n = 1 ∧ k < 10 ∧ ad = false)) true true)) f (sR g 3 r_1) ((wdW P n 0)) (by omega) hp) mCal_stem rfl ⟨by decide, by decide⟩ rfl (Nat.le_of_ble_eq_true rfl) dX12_stop_51 ?_
          refine mg_castL (lN (wdT P n 0)) rfl ?_
          refine mg_lstore_n C (i := 1) (lv' := [(1, .long (lN (wdT P n 0))), (0, .ref (a 0))]) rfl (Nat.le_of_ble_eq_true rfl) rfl dX12_stop_54 ?_
          refine mg_aload_n C (i := 0) rfl 1 rfl dX12_stop_55 ?_
          refine mg_lload_n C (i := 1) rfl 0 rfl dX12_stop_56 ?_
          refine mg_doi C (c_isStop l (upd (upd v 4 (nI (wdC P n))) 99 (goX (decide (wdC P n = 1 ∧ k < 10 ∧ ad = false)) true true)) f (sR g 3 r_1) (lN (wdT P n 0)) k (by omega) hk) mCal_isStop rfl ⟨by decide, by decide⟩ rfl (Nat.le_of_ble_eq_true rfl) dX12_stop_57 ?_
          refine mg_cast (bI (anyB (fun q => g 4 q == (lN (wdT P n 0))) k)) rfl ?_
          refine mg_if_neB C 83 (by decide) dX12_stop_60 (fun c_60 => ?_) (fun c_60 => ?_)
          · refine mg_aload_n C (i := 0) rfl 1 rfl dX12_stop_83 ?_
            refine mg_iconst C (x := nI 0) rfl dX12_stop_84 ?_
            refine mg_put C (k := 2) (by decide) rfl mL_padded rfl (by decide +kernel) mT_padded rfl rfl dX12_stop_85 ?_
            refine mg_aload_n C (i := 0) rfl 1 rfl dX12_stop_88 ?_
            refine mg_getI C (k := 6) (by decide) rfl mL_stopped rfl dX12_stop_89 ?_
            refine mg_cast (nI k) hk ?_
            exact mg_iret C (by
                  have e1 : decide (wdC P n = 1 ∧ k < 10 ∧ ad = false) = true := decide_eq_true ⟨h39a, h39b, h39c⟩
                  first
                    | exact ⟨r_1, hr_1, fun _ _ => ⟨rfl, rfl⟩, fun _ h => absurd (c_60.symm.trans h) (by decide), fun h => absurd (e1.symm.trans h) (by decide)⟩
                    | exact ⟨r_1, hr_1, fun _ h => absurd (h.symm.trans c_60) (by decide), fun _ _ => ⟨rfl, rfl⟩, fun h => absurd (e1.symm.trans h) (by decide)⟩) dX12_stop_92
          · refine mg_aload_n C (i := 0) rfl 1 rfl dX12_stop_63 ?_
            refine mg_arr C 4 (by decide) (by decide) rfl mL_stops rfl dX12_stop_64 ?_
            refine mg_aload_n C (i := 0) rfl 1 rfl dX12_stop_67 ?_
            refine mg_getI C (k := 6) (by decide) rfl mL_stopped rfl dX12_stop_68 ?_
            refine mg_cast (nI k) hk ?_
            refine mg_lload_n C (i := 1) rfl 0 rfl dX12_stop_71 ?_
            refine mg_lastore C (n := 10) 4 k (by decide) (by decide) rfl rfl (by omega) (by decide) dX12_stop_72 ?_
            refine mg_world (g' := (sR (sR g 3 r_1) 4 (upR (g 4) k (lN (wdT P n 0))))) rfl rfl mU_new ?_
            refine mg_aload_n C (i := 0) rfl 1 rfl dX12_stop_73 ?_
            refine mg_dup C rfl dX12_stop_74 ?_
            refine mg_getI C (k := 6) (by decide) rfl mL_stopped rfl dX12_stop_75 ?_
            refine mg_cast (nI k) hk ?_
            refine mg_iconst C (x := nI 1) rfl dX12_stop_78 ?_
            refine mg_iaddN C dX12_stop_79 ?_
            refine mg_put C (k := 6) (by decide) rfl mL_stopped rfl (by decide +kernel) mT_stopped rfl rfl dX12_stop_80 ?_
            refine mg_aload_n C (i := 0) rfl 1 rfl dX12_stop_83 ?_
            refine mg_iconst C (x := nI 0) rfl dX12_stop_84 ?_
            refine mg_put C (k := 2) (by decide) rfl mL_padded rfl (by decide +kernel) mT_padded rfl rfl dX12_stop_85 ?_
            refine mg_aload_n C (i := 0) rfl 1 rfl dX12_stop_88 ?_
            refine mg_getI C (k := 6) (by decide) rfl mL_stopped rfl dX12_stop_89 ?_
            refine mg_cast (nI (k + 1)) rfl ?_
            exact mg_iret C (by
                  have e1 : decide (wdC P n = 1 ∧ k < 10 ∧ ad = false) = true := decide_eq_true ⟨h39a, h39b, h39c⟩
                  first
                    | exact ⟨r_1, hr_1, fun _ _ => ⟨rfl, rfl⟩, fun _ h => absurd (c_60.symm.trans h) (by decide), fun h => absurd (e1.symm.trans h) (by decide)⟩
                    | exact ⟨r_1, hr_1, fun _ h => absurd (h.symm.trans c_60) (by decide), fun _ _ => ⟨rfl, rfl⟩, fun h => absurd (e1.symm.trans h) (by decide)⟩) dX12_stop_92
        · have h_39 : decide (wdC P n = 1 ∧ k < 10 ∧ ad = false) = false := by simpa using c_39
          refine mg_iconst C (x := nI 0) rfl dX12_stop_42 ?_
          exact mg_iret C ⟨r_1, hr_1, fun h => absurd (h_39.symm.trans h) (by decide), fun h => absurd (h_39.symm.trans h) (by decide), fun _ => ⟨rfl, rfl⟩⟩ dX12_stop_43
      · refine mg_iconst C (x := nI 1) rfl dX12_stop_29 ?_
        refine mg_goto C 34 (by decide) dX12_stop_30 ?_
        refine mg_cast (bI (decide (wdC P n = 1 ∧ k < 10 ∧ ad = false))) (by first | exact (congrArg bI (decide_eq_true ⟨c_10, c_19, c_26⟩)).symm | exact (congrArg bI (decide_eq_false (by rintro ⟨a1, a2, a3⟩; first | omega | exact absurd a3 (by rw [c_26]; decide)))).symm) ?_
        refine mg_iconst C (x := nI 1) rfl dX12_stop_34 ?_
        refine mg_iconst C (x := nI 1) rfl dX12_stop_35 ?_
        refine mg_doi C (c_goes l (upd v 4 (nI (wdC P n))) f (sR g 3 r_1) (decide (wdC P n = 1 ∧ k < 10 ∧ ad = false)) true true) mCal_goes rfl ⟨by decide, by decide⟩ rfl (Nat.le_of_ble_eq_true rfl) dX12_stop_36 ?_
        refine mg_if_neB C 44 (by decide) dX12_stop_39 (fun c_39 => ?_) (fun c_39 => ?_)
        · have h_39 : wdC P n = 1 ∧ k < 10 ∧ ad = false := by simpa using c_39
          obtain ⟨h39a, h39b, h39c⟩ := h_39
          have hw0 := wdW_63 P n 0
          refine mg_aload_n C (i := 0) rfl 0 rfl dX12_stop_44 ?_
          refine mg_aload_n C (i := 0) rfl 0 rfl dX12_stop_45 ?_
          refine mg_arr C 3 (by decide) (by decide) rfl mL_words rfl dX12_stop_46 ?_
          refine mg_iconst C (x := nI 0) rfl dX12_stop_49 ?_
          refine mg_laload C (n := 20) 3 0 (by decide) (by decide) rfl rfl (by omega) (by decide) dX12_stop_50 ?_
          refine mg_castL (r_1 0) rfl ?_
          refine mg_castL (lN (wdW P n 0)) (hr_1 0 (by omega)) ?_
          refine mg_dol C (c_stem l (upd (upd v 4 (nI (wdC P n))) 99 (goX (decide (wdC P n = 1 ∧ k < 10 ∧ ad = false)) true true)) f (sR g 3 r_1) ((wdW P n 0)) (by omega) hp) mCal_stem rfl ⟨by decide, by decide⟩ rfl (Nat.le_of_ble_eq_true rfl) dX12_stop_51 ?_
          refine mg_castL (lN (wdT P n 0)) rfl ?_
          refine mg_lstore_n C (i := 1) (lv' := [(1, .long (lN (wdT P n 0))), (0, .ref (a 0))]) rfl (Nat.le_of_ble_eq_true rfl) rfl dX12_stop_54 ?_
          refine mg_aload_n C (i := 0) rfl 1 rfl dX12_stop_55 ?_
          refine mg_lload_n C (i := 1) rfl 0 rfl dX12_stop_56 ?_
          refine mg_doi C (c_isStop l (upd (upd v 4 (nI (wdC P n))) 99 (goX (decide (wdC P n = 1 ∧ k < 10 ∧ ad = false)) true true)) f (sR g 3 r_1) (lN (wdT P n 0)) k (by omega) hk) mCal_isStop rfl ⟨by decide, by decide⟩ rfl (Nat.le_of_ble_eq_true rfl) dX12_stop_57 ?_
          refine mg_cast (bI (anyB (fun q => g 4 q == (lN (wdT P n 0))) k)) rfl ?_
          refine mg_if_neB C 83 (by decide) dX12_stop_60 (fun c_60 => ?_) (fun c_60 => ?_)
          · refine mg_aload_n C (i := 0) rfl 1 rfl dX12_stop_83 ?_
            refine mg_iconst C (x := nI 0) rfl dX12_stop_84 ?_
            refine mg_put C (k := 2) (by decide) rfl mL_padded rfl (by decide +kernel) mT_padded rfl rfl dX12_stop_85 ?_
            refine mg_aload_n C (i := 0) rfl 1 rfl dX12_stop_88 ?_
            refine mg_getI C (k := 6) (by decide) rfl mL_stopped rfl dX12_stop_89 ?_
            refine mg_cast (nI k) hk ?_
            exact mg_iret C (by
                  have e1 : decide (wdC P n = 1 ∧ k < 10 ∧ ad = false) = true := decide_eq_true ⟨h39a, h39b, h39c⟩
                  first
                    | exact ⟨r_1, hr_1, fun _ _ => ⟨rfl, rfl⟩, fun _ h => absurd (c_60.symm.trans h) (by decide), fun h => absurd (e1.symm.trans h) (by decide)⟩
                    | exact ⟨r_1, hr_1, fun _ h => absurd (h.symm.trans c_60) (by decide), fun _ _ => ⟨rfl, rfl⟩, fun h => absurd (e1.symm.trans h) (by decide)⟩) dX12_stop_92
          · refine mg_aload_n C (i := 0) rfl 1 rfl dX12_stop_63 ?_
            refine mg_arr C 4 (by decide) (by decide) rfl mL_stops rfl dX12_stop_64 ?_
            refine mg_aload_n C (i := 0) rfl 1 rfl dX12_stop_67 ?_
            refine mg_getI C (k := 6) (by decide) rfl mL_stopped rfl dX12_stop_68 ?_
            refine mg_cast (nI k) hk ?_
            refine mg_lload_n C (i := 1) rfl 0 rfl dX12_stop_71 ?_
            refine mg_lastore C (n := 10) 4 k (by decide) (by decide) rfl rfl (by omega) (by decide) dX12_stop_72 ?_
            refine mg_world (g' := (sR (sR g 3 r_1) 4 (upR (g 4) k (lN (wdT P n 0))))) rfl rfl mU_new ?_
            refine mg_aload_n C (i := 0) rfl 1 rfl dX12_stop_73 ?_
            refine mg_dup C rfl dX12_stop_74 ?_
            refine mg_getI C (k := 6) (by decide) rfl mL_stopped rfl dX12_stop_75 ?_
            refine mg_cast (nI k) hk ?_
            refine mg_iconst C (x := nI 1) rfl dX12_stop_78 ?_
            refine mg_iaddN C dX12_stop_79 ?_
            refine mg_put C (k := 6) (by decide) rfl mL_stopped rfl (by decide +kernel) mT_stopped rfl rfl dX12_stop_80 ?_
            refine mg_aload_n C (i := 0) rfl 1 rfl dX12_stop_83 ?_
            refine mg_iconst C (x := nI 0) rfl dX12_stop_84 ?_
            refine mg_put C (k := 2) (by decide) rfl mL_padded rfl (by decide +kernel) mT_padded rfl rfl dX12_stop_85 ?_
            refine mg_aload_n C (i := 0) rfl 1 rfl dX12_stop_88 ?_
            refine mg_getI C (k := 6) (by decide) rfl mL_stopped rfl dX12_stop_89 ?_
            refine mg_cast (nI (k + 1)) rfl ?_
            exact mg_iret C (by
                  have e1 : decide (wdC P n = 1 ∧ k < 10 ∧ ad = false) = true := decide_eq_true ⟨h39a, h39b, h39c⟩
                  first
                    | exact ⟨r_1, hr_1, fun _ _ => ⟨rfl, rfl⟩, fun _ h => absurd (c_60.symm.trans h) (by decide), fun h => absurd (e1.symm.trans h) (by decide)⟩
                    | exact ⟨r_1, hr_1, fun _ h => absurd (h.symm.trans c_60) (by decide), fun _ _ => ⟨rfl, rfl⟩, fun h => absurd (e1.symm.trans h) (by decide)⟩) dX12_stop_92
        · have h_39 : decide (wdC P n = 1 ∧ k < 10 ∧ ad = false) = false := by simpa using c_39
          refine mg_iconst C (x := nI 0) rfl dX12_stop_42 ?_
          exact mg_iret C ⟨r_1, hr_1, fun h => absurd (h_39.symm.trans h) (by decide), fun h => absurd (h_39.symm.trans h) (by decide), fun _ => ⟨rfl, rfl⟩⟩ dX12_stop_43
set_option maxHeartbeats 4000000 in
set_option maxRecDepth 100000 in
theorem c_synonym (l : Launch) (v : Nat → Int32) (f : Nat → Nat → Int32) (g : Nat → Nat → Int64)  (P : Nat → Nat) (n : Nat) (hp : mPow g) (hn : n ≤ 40) (hv : v 2 = nI n) (hP : ∀ j, j < n → f 2 j = nI (P j) ∧ P j < 65536) (k : Nat) (hk : v 9 = nI k) (hk10 : k ≤ 10) (ad : Bool) (had : v 10 = bI ad) : mMi l yX12_synonym cX12_synonym 1 (some .int) 4 90 false [] v f g (fun r_ u_ => ∃ r, (∀ j, j < wdC P n → r j = lN (wdW P n j)) ∧ (decide (wdC P n = 2 ∧ k < 10 ∧ ad = false) = true → r_ = nI (k + 1) ∧ u_ = (upd (upd (upd (upd v 4 (nI (wdC P n))) 99 (goX (decide (wdC P n = 2 ∧ k < 10 ∧ ad = false)) true true)) 9 (nI (k + 1))) 2 (nI 0), f, sR (sR (sR g 3 r) 5 (upR (g 5) k (lN (wdT P n 0)))) 6 (upR (g 6) k (lN (wdT P n 1))))) ∧ (decide (wdC P n = 2 ∧ k < 10 ∧ ad = false) = false → r_ = nI 0 ∧ u_ = (upd (upd v 4 (nI (wdC P n))) 99 (goX (decide (wdC P n = 2 ∧ k < 10 ∧ ad = false)) true true), f, sR g 3 r))) := by
  intro D cI cJ cZ a sz
  refine mg_body (by decide +kernel) rfl (Nat.le_of_ble_eq_true rfl) ?_
  intro p e s m args below meth c hsz C
  clear hsz
  generalize va_A (mW cI cJ cZ a v f g) sz = A at C ⊢
  refine mg_lv (lv' := [(0, .ref (a 0))]) rfl ?_
  have hwc := wdC_le P n
  refine mg_aload_n C (i := 0) rfl 0 rfl dX12_synonym_0 ?_
  refine mg_callv C (c_reads l v f g P n hp hn hv hP) mCal_reads rfl ⟨by decide, by decide⟩ rfl (Nat.le_of_ble_eq_true rfl) dX12_synonym_1 (fun v_1 f_1 g_1 h_1 => ?_)
  obtain ⟨r_1, hr_1, hu_1⟩ := h_1
  obtain ⟨rfl, rfl, rfl⟩ := mS_inj hu_1
  refine mg_aload_n C (i := 0) rfl 0 rfl dX12_synonym_4 ?_
  refine mg_aload_n C (i := 0) rfl 0 rfl dX12_synonym_5 ?_
  refine mg_getI C (k := 4) (by decide) rfl mL_worded rfl dX12_synonym_6 ?_
  refine mg_cast (nI (wdC P n)) rfl ?_
  refine mg_iconst C (x := nI 2) rfl dX12_synonym_9 ?_
  refine mg_icmp_neN C (by omega) (by omega) 33 (by decide) dX12_synonym_10 (fun c_10 => ?_) (fun c_10 => ?_)
  · refine mg_iconst C (x := nI 0) rfl dX12_synonym_33 ?_
    refine mg_cast (bI (decide (wdC P n = 2 ∧ k < 10 ∧ ad = false))) (by first | exact (congrArg bI (decide_eq_true ⟨c_10, c_19, c_26⟩)).symm | exact (congrArg bI (decide_eq_false (by rintro ⟨a1, a2, a3⟩; first | omega | exact absurd a3 (by rw [c_26]; decide)))).symm) ?_
    refine mg_iconst C (x := nI 1) rfl dX12_synonym_34 ?_
    refine mg_iconst C (x := nI 1) rfl dX12_synonym_35 ?_
    refine mg_doi C (c_goes l (upd v 4 (nI (wdC P n))) f (sR g 3 r_1) (decide (wdC P n = 2 ∧ k < 10 ∧ ad = false)) true true) mCal_goes rfl ⟨by decide, by decide⟩ rfl (Nat.le_of_ble_eq_true rfl) dX12_synonym_36 ?_
    refine mg_if_neB C 44 (by decide) dX12_synonym_39 (fun c_39 => ?_) (fun c_39 => ?_)
    · have h_39 : wdC P n = 2 ∧ k < 10 ∧ ad = false := by simpa using c_39
      obtain ⟨h39a, h39b, h39c⟩ := h_39
      have hw0 := wdW_63 P n 0
      have hw1 := wdW_63 P n 1
      refine mg_aload_n C (i := 0) rfl 0 rfl dX12_synonym_44 ?_
      refine mg_arr C 5 (by decide) (by decide) rfl mL_firsts rfl dX12_synonym_45 ?_
      refine mg_aload_n C (i := 0) rfl 0 rfl dX12_synonym_48 ?_
      refine mg_getI C (k := 9) (by decide) rfl mL_synonyms rfl dX12_synonym_49 ?_
      refine mg_cast (nI k) hk ?_
      refine mg_aload_n C (i := 0) rfl 0 rfl dX12_synonym_52 ?_
      refine mg_aload_n C (i := 0) rfl 0 rfl dX12_synonym_53 ?_
      refine mg_arr C 3 (by decide) (by decide) rfl mL_words rfl dX12_synonym_54 ?_
      refine mg_iconst C (x := nI 0) rfl dX12_synonym_57 ?_
      refine mg_laload C (n := 20) 3 0 (by decide) (by decide) rfl rfl (by omega) (by decide) dX12_synonym_58 ?_
      refine mg_castL (r_1 0) rfl ?_
      refine mg_castL (lN (wdW P n 0)) (hr_1 0 (by omega)) ?_
      refine mg_dol C (c_stem l (upd (upd v 4 (nI (wdC P n))) 99 (goX (decide (wdC P n = 2 ∧ k < 10 ∧ ad = false)) true true)) f (sR g 3 r_1) ((wdW P n 0)) (by omega) hp) mCal_stem rfl ⟨by decide, by decide⟩ rfl (Nat.le_of_ble_eq_true rfl) dX12_synonym_59 ?_
      refine mg_castL (lN (wdT P n 0)) rfl ?_
      refine mg_lastore C (n := 10) 5 k (by decide) (by decide) rfl rfl (by omega) (by decide) dX12_synonym_62 ?_
      refine mg_world (g' := (sR (sR g 3 r_1) 5 (upR (g 5) k (lN (wdT P n 0))))) rfl rfl mU_new ?_
      refine mg_aload_n C (i := 0) rfl 0 rfl dX12_synonym_63 ?_
      refine mg_arr C 6 (by decide) (by decide) rfl mL_seconds rfl dX12_synonym_64 ?_
      refine mg_aload_n C (i := 0) rfl 0 rfl dX12_synonym_67 ?_
      refine mg_getI C (k := 9) (by decide) rfl mL_synonyms rfl dX12_synonym_68 ?_
      refine mg_cast (nI k) hk ?_
      refine mg_aload_n C (i := 0) rfl 0 rfl dX12_synonym_71 ?_
      refine mg_aload_n C (i := 0) rfl 0 rfl dX12_synonym_72 ?_
      refine mg_arr C 3 (by decide) (by decide) rfl mL_words rfl dX12_synonym_73 ?_
      refine mg_iconst C (x := nI 1) rfl dX12_synonym_76 ?_
      refine mg_laload C (n := 20) 3 1 (by decide) (by decide) rfl rfl (by omega) (by decide) dX12_synonym_77 ?_
      refine mg_castL (r_1 1) rfl ?_
      refine mg_castL (lN (wdW P n 1)) (hr_1 1 (by omega)) ?_
      refine mg_dol C (c_stem l (upd (upd v 4 (nI (wdC P n))) 99 (goX (decide (wdC P n = 2 ∧ k < 10 ∧ ad = false)) true true)) f (sR (sR g 3 r_1) 5 (upR (g 5) k (lN (wdT P n 0)))) ((wdW P n 1)) (by omega) hp) mCal_stem rfl ⟨by decide, by decide⟩ rfl (Nat.le_of_ble_eq_true rfl) dX12_synonym_78 ?_
      refine mg_castL (lN (wdT P n 1)) rfl ?_
      refine mg_lastore C (n := 10) 6 k (by decide) (by decide) rfl rfl (by omega) (by decide) dX12_synonym_81 ?_
      refine mg_world (g' := (sR (sR (sR g 3 r_1) 5 (upR (g 5) k (lN (wdT P n 0)))) 6 (upR (g 6) k (lN (wdT P n 1))))) rfl rfl mU_new ?_
      refine mg_aload_n C (i := 0) rfl 0 rfl dX12_synonym_82 ?_
      refine mg_dup C rfl dX12_synonym_83 ?_
      refine mg_getI C (k := 9) (by decide) rfl mL_synonyms rfl dX12_synonym_84 ?_
      refine mg_cast (nI k) hk ?_
      refine mg_iconst C (x := nI 1) rfl dX12_synonym_87 ?_
      refine mg_iaddN C dX12_synonym_88 ?_
      refine mg_put C (k := 9) (by decide) rfl mL_synonyms rfl (by decide +kernel) mT_synonyms rfl rfl dX12_synonym_89 ?_
      refine mg_aload_n C (i := 0) rfl 0 rfl dX12_synonym_92 ?_
      refine mg_iconst C (x := nI 0) rfl dX12_synonym_93 ?_
      refine mg_put C (k := 2) (by decide) rfl mL_padded rfl (by decide +kernel) mT_padded rfl rfl dX12_synonym_94 ?_
      refine mg_aload_n C (i := 0) rfl 0 rfl dX12_synonym_97 ?_
      refine mg_getI C (k := 9) (by decide) rfl mL_synonyms rfl dX12_synonym_98 ?_
      refine mg_cast (nI (k + 1)) rfl ?_
      exact mg_iret C ⟨r_1, hr_1, fun _ => ⟨rfl, rfl⟩, fun h => absurd ((show decide (wdC P n = 2 ∧ k < 10 ∧ ad = false) = true from decide_eq_true ⟨h39a, h39b, h39c⟩).symm.trans h) (by decide)⟩ dX12_synonym_101
    · have h_39 : decide (wdC P n = 2 ∧ k < 10 ∧ ad = false) = false := by simpa using c_39
      refine mg_iconst C (x := nI 0) rfl dX12_synonym_42 ?_
      exact mg_iret C ⟨r_1, hr_1, fun h => absurd (h_39.symm.trans h) (by decide), fun _ => ⟨rfl, rfl⟩⟩ dX12_synonym_43
  · refine mg_aload_n C (i := 0) rfl 0 rfl dX12_synonym_13 ?_
    refine mg_getI C (k := 9) (by decide) rfl mL_synonyms rfl dX12_synonym_14 ?_
    refine mg_cast (nI k) hk ?_
    refine mg_bipush C (x := nI 10) rfl dX12_synonym_17 ?_
    refine mg_icmp_geN C (by omega) (by omega) 33 (by decide) dX12_synonym_19 (fun c_19 => ?_) (fun c_19 => ?_)
    · refine mg_iconst C (x := nI 0) rfl dX12_synonym_33 ?_
      refine mg_cast (bI (decide (wdC P n = 2 ∧ k < 10 ∧ ad = false))) (by first | exact (congrArg bI (decide_eq_true ⟨c_10, c_19, c_26⟩)).symm | exact (congrArg bI (decide_eq_false (by rintro ⟨a1, a2, a3⟩; first | omega | exact absurd a3 (by rw [c_26]; decide)))).symm) ?_
      refine mg_iconst C (x := nI 1) rfl dX12_synonym_34 ?_
      refine mg_iconst C (x := nI 1) rfl dX12_synonym_35 ?_
      refine mg_doi C (c_goes l (upd v 4 (nI (wdC P n))) f (sR g 3 r_1) (decide (wdC P n = 2 ∧ k < 10 ∧ ad = false)) true true) mCal_goes rfl ⟨by decide, by decide⟩ rfl (Nat.le_of_ble_eq_true rfl) dX12_synonym_36 ?_
      refine mg_if_neB C 44 (by decide) dX12_synonym_39 (fun c_39 => ?_) (fun c_39 => ?_)
      · have h_39 : wdC P n = 2 ∧ k < 10 ∧ ad = false := by simpa using c_39
        obtain ⟨h39a, h39b, h39c⟩ := h_39
        have hw0 := wdW_63 P n 0
        have hw1 := wdW_63 P n 1
        refine mg_aload_n C (i := 0) rfl 0 rfl dX12_synonym_44 ?_
        refine mg_arr C 5 (by decide) (by decide) rfl mL_firsts rfl dX12_synonym_45 ?_
        refine mg_aload_n C (i := 0) rfl 0 rfl dX12_synonym_48 ?_
        refine mg_getI C (k := 9) (by decide) rfl mL_synonyms rfl dX12_synonym_49 ?_
        refine mg_cast (nI k) hk ?_
        refine mg_aload_n C (i := 0) rfl 0 rfl dX12_synonym_52 ?_
        refine mg_aload_n C (i := 0) rfl 0 rfl dX12_synonym_53 ?_
        refine mg_arr C 3 (by decide) (by decide) rfl mL_words rfl dX12_synonym_54 ?_
        refine mg_iconst C (x := nI 0) rfl dX12_synonym_57 ?_
        refine mg_laload C (n := 20) 3 0 (by decide) (by decide) rfl rfl (by omega) (by decide) dX12_synonym_58 ?_
        refine mg_castL (r_1 0) rfl ?_
        refine mg_castL (lN (wdW P n 0)) (hr_1 0 (by omega)) ?_
        refine mg_dol C (c_stem l (upd (upd v 4 (nI (wdC P n))) 99 (goX (decide (wdC P n = 2 ∧ k < 10 ∧ ad = false)) true true)) f (sR g 3 r_1) ((wdW P n 0)) (by omega) hp) mCal_stem rfl ⟨by decide, by decide⟩ rfl (Nat.le_of_ble_eq_true rfl) dX12_synonym_59 ?_
        refine mg_castL (lN (wdT P n 0)) rfl ?_
        refine mg_lastore C (n := 10) 5 k (by decide) (by decide) rfl rfl (by omega) (by decide) dX12_synonym_62 ?_
        refine mg_world (g' := (sR (sR g 3 r_1) 5 (upR (g 5) k (lN (wdT P n 0))))) rfl rfl mU_new ?_
        refine mg_aload_n C (i := 0) rfl 0 rfl dX12_synonym_63 ?_
        refine mg_arr C 6 (by decide) (by decide) rfl mL_seconds rfl dX12_synonym_64 ?_
        refine mg_aload_n C (i := 0) rfl 0 rfl dX12_synonym_67 ?_
        refine mg_getI C (k := 9) (by decide) rfl mL_synonyms rfl dX12_synonym_68 ?_
        refine mg_cast (nI k) hk ?_
        refine mg_aload_n C (i := 0) rfl 0 rfl dX12_synonym_71 ?_
        refine mg_aload_n C (i := 0) rfl 0 rfl dX12_synonym_72 ?_
        refine mg_arr C 3 (by decide) (by decide) rfl mL_words rfl dX12_synonym_73 ?_
        refine mg_iconst C (x := nI 1) rfl dX12_synonym_76 ?_
        refine mg_laload C (n := 20) 3 1 (by decide) (by decide) rfl rfl (by omega) (by decide) dX12_synonym_77 ?_
        refine mg_castL (r_1 1) rfl ?_
        refine mg_castL (lN (wdW P n 1)) (hr_1 1 (by omega)) ?_
        refine mg_dol C (c_stem l (upd (upd v 4 (nI (wdC P n))) 99 (goX (decide (wdC P n = 2 ∧ k < 10 ∧ ad = false)) true true)) f (sR (sR g 3 r_1) 5 (upR (g 5) k (lN (wdT P n 0)))) ((wdW P n 1)) (by omega) hp) mCal_stem rfl ⟨by decide, by decide⟩ rfl (Nat.le_of_ble_eq_true rfl) dX12_synonym_78 ?_
        refine mg_castL (lN (wdT P n 1)) rfl ?_
        refine mg_lastore C (n := 10) 6 k (by decide) (by decide) rfl rfl (by omega) (by decide) dX12_synonym_81 ?_
        refine mg_world (g' := (sR (sR (sR g 3 r_1) 5 (upR (g 5) k (lN (wdT P n 0)))) 6 (upR (g 6) k (lN (wdT P n 1))))) rfl rfl mU_new ?_
        refine mg_aload_n C (i := 0) rfl 0 rfl dX12_synonym_82 ?_
        refine mg_dup C rfl dX12_synonym_83 ?_
        refine mg_getI C (k := 9) (by decide) rfl mL_synonyms rfl dX12_synonym_84 ?_
        refine mg_cast (nI k) hk ?_
        refine mg_iconst C (x := nI 1) rfl dX12_synonym_87 ?_
        refine mg_iaddN C dX12_synonym_88 ?_
        refine mg_put C (k := 9) (by decide) rfl mL_synonyms rfl (by decide +kernel) mT_synonyms rfl rfl dX12_synonym_89 ?_
        refine mg_aload_n C (i := 0) rfl 0 rfl dX12_synonym_92 ?_
        refine mg_iconst C (x := nI 0) rfl dX12_synonym_93 ?_
        refine mg_put C (k := 2) (by decide) rfl mL_padded rfl (by decide +kernel) mT_padded rfl rfl dX12_synonym_94 ?_
        refine mg_aload_n C (i := 0) rfl 0 rfl dX12_synonym_97 ?_
        refine mg_getI C (k := 9) (by decide) rfl mL_synonyms rfl dX12_synonym_98 ?_
        refine mg_cast (nI (k + 1)) rfl ?_
        exact mg_iret C ⟨r_1, hr_1, fun _ => ⟨rfl, rfl⟩, fun h => absurd ((show decide (wdC P n = 2 ∧ k < 10 ∧ ad = false) = true from decide_eq_true ⟨h39a, h39b, h39c⟩).symm.trans h) (by decide)⟩ dX12_synonym_101
      · have h_39 : decide (wdC P n = 2 ∧ k < 10 ∧ ad = false) = false := by simpa using c_39
        refine mg_iconst C (x := nI 0) rfl dX12_synonym_42 ?_
        exact mg_iret C ⟨r_1, hr_1, fun h => absurd (h_39.symm.trans h) (by decide), fun _ => ⟨rfl, rfl⟩⟩ dX12_synonym_43
    · refine mg_aload_n C (i := 0) rfl 0 rfl dX12_synonym_22 ?_
      refine mg_getI C (k := 10) (by decide) rfl mL_added rfl dX12_synonym_23 ?_
      refine mg_cast (bI ad) had ?_
      refine mg_if_neB C 33 (by decide) dX12_synonym_26 (fun c_26 => ?_) (fun c_26 => ?_)
      · refine mg_iconst C (x := nI 0) rfl dX12_synonym_33 ?_
        refine mg_cast (bI (decide (wdC P n = 2 ∧ k < 10 ∧ ad = false))) (by first | exact (congrArg bI (decide_eq_true ⟨c_10, c_19, c_26⟩)).symm | exact (congrArg bI (decide_eq_false (by rintro ⟨a1, a2, a3⟩; first | omega | exact absurd a3 (by rw [c_26]; decide)))).symm) ?_
        refine mg_iconst C (x := nI 1) rfl dX12_synonym_34 ?_
        refine mg_iconst C (x := nI 1) rfl dX12_synonym_35 ?_
        refine mg_doi C (c_goes l (upd v 4 (nI (wdC P n))) f (sR g 3 r_1) (decide (wdC P n = 2 ∧ k < 10 ∧ ad = false)) true true) mCal_goes rfl ⟨by decide, by decide⟩ rfl (Nat.le_of_ble_eq_true rfl) dX12_synonym_36 ?_
        refine mg_if_neB C 44 (by decide) dX12_synonym_39 (fun c_39 => ?_) (fun c_39 => ?_)
        · have h_39 : wdC P n = 2 ∧ k < 10 ∧ ad = false := by simpa using c_39
          obtain ⟨h39a, h39b, h39c⟩ := h_39
          have hw0 := wdW_63 P n 0
          have hw1 := wdW_63 P n 1
          refine mg_aload_n C (i := 0) rfl 0 rfl dX12_synonym_44 ?_
          refine mg_arr C 5 (by decide) (by decide) rfl mL_firsts rfl dX12_synonym_45 ?_
          refine mg_aload_n C (i := 0) rfl 0 rfl dX12_synonym_48 ?_
          refine mg_getI C (k := 9) (by decide) rfl mL_synonyms rfl dX12_synonym_49 ?_
          refine mg_cast (nI k) hk ?_
          refine mg_aload_n C (i := 0) rfl 0 rfl dX12_synonym_52 ?_
          refine mg_aload_n C (i := 0) rfl 0 rfl dX12_synonym_53 ?_
          refine mg_arr C 3 (by decide) (by decide) rfl mL_words rfl dX12_synonym_54 ?_
          refine mg_iconst C (x := nI 0) rfl dX12_synonym_57 ?_
          refine mg_laload C (n := 20) 3 0 (by decide) (by decide) rfl rfl (by omega) (by decide) dX12_synonym_58 ?_
          refine mg_castL (r_1 0) rfl ?_
          refine mg_castL (lN (wdW P n 0)) (hr_1 0 (by omega)) ?_
          refine mg_dol C (c_stem l (upd (upd v 4 (nI (wdC P n))) 99 (goX (decide (wdC P n = 2 ∧ k < 10 ∧ ad = false)) true true)) f (sR g 3 r_1) ((wdW P n 0)) (by omega) hp) mCal_stem rfl ⟨by decide, by decide⟩ rfl (Nat.le_of_ble_eq_true rfl) dX12_synonym_59 ?_
          refine mg_castL (lN (wdT P n 0)) rfl ?_
          refine mg_lastore C (n := 10) 5 k (by decide) (by decide) rfl rfl (by omega) (by decide) dX12_synonym_62 ?_
          refine mg_world (g' := (sR (sR g 3 r_1) 5 (upR (g 5) k (lN (wdT P n 0))))) rfl rfl mU_new ?_
          refine mg_aload_n C (i := 0) rfl 0 rfl dX12_synonym_63 ?_
          refine mg_arr C 6 (by decide) (by decide) rfl mL_seconds rfl dX12_synonym_64 ?_
          refine mg_aload_n C (i := 0) rfl 0 rfl dX12_synonym_67 ?_
          refine mg_getI C (k := 9) (by decide) rfl mL_synonyms rfl dX12_synonym_68 ?_
          refine mg_cast (nI k) hk ?_
          refine mg_aload_n C (i := 0) rfl 0 rfl dX12_synonym_71 ?_
          refine mg_aload_n C (i := 0) rfl 0 rfl dX12_synonym_72 ?_
          refine mg_arr C 3 (by decide) (by decide) rfl mL_words rfl dX12_synonym_73 ?_
          refine mg_iconst C (x := nI 1) rfl dX12_synonym_76 ?_
          refine mg_laload C (n := 20) 3 1 (by decide) (by decide) rfl rfl (by omega) (by decide) dX12_synonym_77 ?_
          refine mg_castL (r_1 1) rfl ?_
          refine mg_castL (lN (wdW P n 1)) (hr_1 1 (by omega)) ?_
          refine mg_dol C (c_stem l (upd (upd v 4 (nI (wdC P n))) 99 (goX (decide (wdC P n = 2 ∧ k < 10 ∧ ad = false)) true true)) f (sR (sR g 3 r_1) 5 (upR (g 5) k (lN (wdT P n 0)))) ((wdW P n 1)) (by omega) hp) mCal_stem rfl ⟨by decide, by decide⟩ rfl (Nat.le_of_ble_eq_true rfl) dX12_synonym_78 ?_
          refine mg_castL (lN (wdT P n 1)) rfl ?_
          refine mg_lastore C (n := 10) 6 k (by decide) (by decide) rfl rfl (by omega) (by decide) dX12_synonym_81 ?_
          refine mg_world (g' := (sR (sR (sR g 3 r_1) 5 (upR (g 5) k (lN (wdT P n 0)))) 6 (upR (g 6) k (lN (wdT P n 1))))) rfl rfl mU_new ?_
          refine mg_aload_n C (i := 0) rfl 0 rfl dX12_synonym_82 ?_
          refine mg_dup C rfl dX12_synonym_83 ?_
          refine mg_getI C (k := 9) (by decide) rfl mL_synonyms rfl dX12_synonym_84 ?_
          refine mg_cast (nI k) hk ?_
          refine mg_iconst C (x := nI 1) rfl dX12_synonym_87 ?_
          refine mg_iaddN C dX12_synonym_88 ?_
          refine mg_put C (k := 9) (by decide) rfl mL_synonyms rfl (by decide +kernel) mT_synonyms rfl rfl dX12_synonym_89 ?_
          refine mg_aload_n C (i := 0) rfl 0 rfl dX12_synonym_92 ?_
          refine mg_iconst C (x := nI 0) rfl dX12_synonym_93 ?_
          refine mg_put C (k := 2) (by decide) rfl mL_padded rfl (by decide +kernel) mT_padded rfl rfl dX12_synonym_94 ?_
          refine mg_aload_n C (i := 0) rfl 0 rfl dX12_synonym_97 ?_
          refine mg_getI C (k := 9) (by decide) rfl mL_synonyms rfl dX12_synonym_98 ?_
          refine mg_cast (nI (k + 1)) rfl ?_
          exact mg_iret C ⟨r_1, hr_1, fun _ => ⟨rfl, rfl⟩, fun h => absurd ((show decide (wdC P n = 2 ∧ k < 10 ∧ ad = false) = true from decide_eq_true ⟨h39a, h39b, h39c⟩).symm.trans h) (by decide)⟩ dX12_synonym_101
        · have h_39 : decide (wdC P n = 2 ∧ k < 10 ∧ ad = false) = false := by simpa using c_39
          refine mg_iconst C (x := nI 0) rfl dX12_synonym_42 ?_
          exact mg_iret C ⟨r_1, hr_1, fun h => absurd (h_39.symm.trans h) (by decide), fun _ => ⟨rfl, rfl⟩⟩ dX12_synonym_43
      · refine mg_iconst C (x := nI 1) rfl dX12_synonym_29 ?_
        refine mg_goto C 34 (by decide) dX12_synonym_30 ?_
        refine mg_cast (bI (decide (wdC P n = 2 ∧ k < 10 ∧ ad = false))) (by first | exact (congrArg bI (decide_eq_true ⟨c_10, c_19, c_26⟩)).symm | exact (congrArg bI (decide_eq_false (by rintro ⟨a1, a2, a3⟩; first | omega | exact absurd a3 (by rw [c_26]; decide)))).symm) ?_
        refine mg_iconst C (x := nI 1) rfl dX12_synonym_34 ?_
        refine mg_iconst C (x := nI 1) rfl dX12_synonym_35 ?_
        refine mg_doi C (c_goes l (upd v 4 (nI (wdC P n))) f (sR g 3 r_1) (decide (wdC P n = 2 ∧ k < 10 ∧ ad = false)) true true) mCal_goes rfl ⟨by decide, by decide⟩ rfl (Nat.le_of_ble_eq_true rfl) dX12_synonym_36 ?_
        refine mg_if_neB C 44 (by decide) dX12_synonym_39 (fun c_39 => ?_) (fun c_39 => ?_)
        · have h_39 : wdC P n = 2 ∧ k < 10 ∧ ad = false := by simpa using c_39
          obtain ⟨h39a, h39b, h39c⟩ := h_39
          have hw0 := wdW_63 P n 0
          have hw1 := wdW_63 P n 1
          refine mg_aload_n C (i := 0) rfl 0 rfl dX12_synonym_44 ?_
          refine mg_arr C 5 (by decide) (by decide) rfl mL_firsts rfl dX12_synonym_45 ?_
          refine mg_aload_n C (i := 0) rfl 0 rfl dX12_synonym_48 ?_
          refine mg_getI C (k := 9) (by decide) rfl mL_synonyms rfl dX12_synonym_49 ?_
          refine mg_cast (nI k) hk ?_
          refine mg_aload_n C (i := 0) rfl 0 rfl dX12_synonym_52 ?_
          refine mg_aload_n C (i := 0) rfl 0 rfl dX12_synonym_53 ?_
          refine mg_arr C 3 (by decide) (by decide) rfl mL_words rfl dX12_synonym_54 ?_
          refine mg_iconst C (x := nI 0) rfl dX12_synonym_57 ?_
          refine mg_laload C (n := 20) 3 0 (by decide) (by decide) rfl rfl (by omega) (by decide) dX12_synonym_58 ?_
          refine mg_castL (r_1 0) rfl ?_
          refine mg_castL (lN (wdW P n 0)) (hr_1 0 (by omega)) ?_
          refine mg_dol C (c_stem l (upd (upd v 4 (nI (wdC P n))) 99 (goX (decide (wdC P n = 2 ∧ k < 10 ∧ ad = false)) true true)) f (sR g 3 r_1) ((wdW P n 0)) (by omega) hp) mCal_stem rfl ⟨by decide, by decide⟩ rfl (Nat.le_of_ble_eq_true rfl) dX12_synonym_59 ?_
          refine mg_castL (lN (wdT P n 0)) rfl ?_
          refine mg_lastore C (n := 10) 5 k (by decide) (by decide) rfl rfl (by omega) (by decide) dX12_synonym_62 ?_
          refine mg_world (g' := (sR (sR g 3 r_1) 5 (upR (g 5) k (lN (wdT P n 0))))) rfl rfl mU_new ?_
          refine mg_aload_n C (i := 0) rfl 0 rfl dX12_synonym_63 ?_
          refine mg_arr C 6 (by decide) (by decide) rfl mL_seconds rfl dX12_synonym_64 ?_
          refine mg_aload_n C (i := 0) rfl 0 rfl dX12_synonym_67 ?_
          refine mg_getI C (k := 9) (by decide) rfl mL_synonyms rfl dX12_synonym_68 ?_
          refine mg_cast (nI k) hk ?_
          refine mg_aload_n C (i := 0) rfl 0 rfl dX12_synonym_71 ?_
          refine mg_aload_n C (i := 0) rfl 0 rfl dX12_synonym_72 ?_
          refine mg_arr C 3 (by decide) (by decide) rfl mL_words rfl dX12_synonym_73 ?_
          refine mg_iconst C (x := nI 1) rfl dX12_synonym_76 ?_
          refine mg_laload C (n := 20) 3 1 (by decide) (by decide) rfl rfl (by omega) (by decide) dX12_synonym_77 ?_
          refine mg_castL (r_1 1) rfl ?_
          refine mg_castL (lN (wdW P n 1)) (hr_1 1 (by omega)) ?_
          refine mg_dol C (c_stem l (upd (upd v 4 (nI (wdC P n))) 99 (goX (decide (wdC P n = 2 ∧ k < 10 ∧ ad = false)) true true)) f (sR (sR g 3 r_1) 5 (upR (g 5) k (lN (wdT P n 0)))) ((wdW P n 1)) (by omega) hp) mCal_stem rfl ⟨by decide, by decide⟩ rfl (Nat.le_of_ble_eq_true rfl) dX12_synonym_78 ?_
          refine mg_castL (lN (wdT P n 1)) rfl ?_
          refine mg_lastore C (n := 10) 6 k (by decide) (by decide) rfl rfl (by omega) (by decide) dX12_synonym_81 ?_
          refine mg_world (g' := (sR (sR (sR g 3 r_1) 5 (upR (g 5) k (lN (wdT P n 0)))) 6 (upR (g 6) k (lN (wdT P n 1))))) rfl rfl mU_new ?_
          refine mg_aload_n C (i := 0) rfl 0 rfl dX12_synonym_82 ?_
          refine mg_dup C rfl dX12_synonym_83 ?_
          refine mg_getI C (k := 9) (by decide) rfl mL_synonyms rfl dX12_synonym_84 ?_
          refine mg_cast (nI k) hk ?_
          refine mg_iconst C (x := nI 1) rfl dX12_synonym_87 ?_
          refine mg_iaddN C dX12_synonym_88 ?_
          refine mg_put C (k := 9) (by decide) rfl mL_synonyms rfl (by decide +kernel) mT_synonyms rfl rfl dX12_synonym_89 ?_
          refine mg_aload_n C (i := 0) rfl 0 rfl dX12_synonym_92 ?_
          refine mg_iconst C (x := nI 0) rfl dX12_synonym_93 ?_
          refine mg_put C (k := 2) (by decide) rfl mL_padded rfl (by decide +kernel) mT_padded rfl rfl dX12_synonym_94 ?_
          refine mg_aload_n C (i := 0) rfl 0 rfl dX12_synonym_97 ?_
          refine mg_getI C (k := 9) (by decide) rfl mL_synonyms rfl dX12_synonym_98 ?_
          refine mg_cast (nI (k + 1)) rfl ?_
          exact mg_iret C ⟨r_1, hr_1, fun _ => ⟨rfl, rfl⟩, fun h => absurd ((show decide (wdC P n = 2 ∧ k < 10 ∧ ad = false) = true from decide_eq_true ⟨h39a, h39b, h39c⟩).symm.trans h) (by decide)⟩ dX12_synonym_101
        · have h_39 : decide (wdC P n = 2 ∧ k < 10 ∧ ad = false) = false := by simpa using c_39
          refine mg_iconst C (x := nI 0) rfl dX12_synonym_42 ?_
          exact mg_iret C ⟨r_1, hr_1, fun h => absurd (h_39.symm.trans h) (by decide), fun _ => ⟨rfl, rfl⟩⟩ dX12_synonym_43
set_option maxHeartbeats 4000000 in
set_option maxRecDepth 100000 in
theorem c_columns (l : Launch) (v : Nat → Int32) (f : Nat → Nat → Int32) (g : Nat → Nat → Int64) (x : Int32) (y : Int32)  : mMv l yX12_columns cX12_columns 3 none 1 23 false [.int x, .int y] v f g (fun u_ => ((inB x (nI 0) (nI 9) && inB y (nI 0) (nI 999)) = true → u_ = (upd (upd (upd v 99 (goX (inB x (nI 0) (nI 9) && inB y (nI 0) (nI 999)) true true)) 13 x) 14 y, f, g)) ∧ ((inB x (nI 0) (nI 9) && inB y (nI 0) (nI 999)) = false → u_ = (upd v 99 (goX (inB x (nI 0) (nI 9) && inB y (nI 0) (nI 999)) true true), f, g))) := by
  intro D cI cJ cZ a sz
  refine mg_body (by decide +kernel) rfl (Nat.le_of_ble_eq_true rfl) ?_
  intro p e s m args below meth c hsz C
  clear hsz
  generalize va_A (mW cI cJ cZ a v f g) sz = A at C ⊢
  refine mg_lv (lv' := [(0, .ref (a 0)), (1, .int x), (2, .int y)]) rfl ?_
  refine mg_aload_n C (i := 0) rfl 0 rfl dX12_columns_0 ?_
  refine mg_iload_n C (i := 1) rfl 1 rfl dX12_columns_1 ?_
  refine mg_iconst C (x := nI 0) rfl dX12_columns_2 ?_
  refine mg_bipush C (x := nI 9) rfl dX12_columns_3 ?_
  refine mg_dosi C (c_in l v f g x (nI 0) (nI 9)) mCal_in rfl ⟨by decide, by decide⟩ rfl (Nat.le_of_ble_eq_true rfl) dX12_columns_5 ?_
  refine mg_if_eqB C 26 (by decide) dX12_columns_8 (fun c_8 => ?_) (fun c_8 => ?_)
  · refine mg_iconst C (x := nI 0) rfl dX12_columns_26 ?_
    refine mg_cast (bI (inB x (nI 0) (nI 9) && inB y (nI 0) (nI 999))) (by first | (rw [c_8, c_19]; rfl) | (rw [c_8]; rfl)) ?_
    refine mg_iconst C (x := nI 1) rfl dX12_columns_27 ?_
    refine mg_iconst C (x := nI 1) rfl dX12_columns_28 ?_
    refine mg_doi C (c_goes l v f g (inB x (nI 0) (nI 9) && inB y (nI 0) (nI 999)) true true) mCal_goes rfl ⟨by decide, by decide⟩ rfl (Nat.le_of_ble_eq_true rfl) dX12_columns_29 ?_
    refine mg_if_eqB C 45 (by decide) dX12_columns_32 (fun c_32 => ?_) (fun c_32 => ?_)
    · have h_32 : (inB x (nI 0) (nI 9) && inB y (nI 0) (nI 999)) = false := by simpa using c_32
      exact mg_vret C (by first | exact ⟨fun _ => rfl, fun h => absurd (h_32.symm.trans h) (by decide)⟩ | exact ⟨fun h => absurd (h_32.symm.trans h) (by decide), fun _ => rfl⟩) dX12_columns_45
    · have h_32 : (inB x (nI 0) (nI 9) && inB y (nI 0) (nI 999)) = true := by simpa using c_32
      refine mg_aload_n C (i := 0) rfl 0 rfl dX12_columns_35 ?_
      refine mg_iload_n C (i := 1) rfl 1 rfl dX12_columns_36 ?_
      refine mg_put C (k := 13) (by decide) rfl mL_draftCategory rfl (by decide +kernel) mT_draftCategory rfl rfl dX12_columns_37 ?_
      refine mg_aload_n C (i := 0) rfl 0 rfl dX12_columns_40 ?_
      refine mg_iload_n C (i := 2) rfl 2 rfl dX12_columns_41 ?_
      refine mg_put C (k := 14) (by decide) rfl mL_draftNumber rfl (by decide +kernel) mT_draftNumber rfl rfl dX12_columns_42 ?_
      exact mg_vret C (by first | exact ⟨fun _ => rfl, fun h => absurd (h_32.symm.trans h) (by decide)⟩ | exact ⟨fun h => absurd (h_32.symm.trans h) (by decide), fun _ => rfl⟩) dX12_columns_45
  · refine mg_iload_n C (i := 2) rfl 2 rfl dX12_columns_11 ?_
    refine mg_iconst C (x := nI 0) rfl dX12_columns_12 ?_
    refine mg_sipush C (x := nI 999) rfl dX12_columns_13 ?_
    refine mg_dosi C (c_in l v f g y (nI 0) (nI 999)) mCal_in rfl ⟨by decide, by decide⟩ rfl (Nat.le_of_ble_eq_true rfl) dX12_columns_16 ?_
    refine mg_if_eqB C 26 (by decide) dX12_columns_19 (fun c_19 => ?_) (fun c_19 => ?_)
    · refine mg_iconst C (x := nI 0) rfl dX12_columns_26 ?_
      refine mg_cast (bI (inB x (nI 0) (nI 9) && inB y (nI 0) (nI 999))) (by first | (rw [c_8, c_19]; rfl) | (rw [c_8]; rfl)) ?_
      refine mg_iconst C (x := nI 1) rfl dX12_columns_27 ?_
      refine mg_iconst C (x := nI 1) rfl dX12_columns_28 ?_
      refine mg_doi C (c_goes l v f g (inB x (nI 0) (nI 9) && inB y (nI 0) (nI 999)) true true) mCal_goes rfl ⟨by decide, by decide⟩ rfl (Nat.le_of_ble_eq_true rfl) dX12_columns_29 ?_
      refine mg_if_eqB C 45 (by decide) dX12_columns_32 (fun c_32 => ?_) (fun c_32 => ?_)
      · have h_32 : (inB x (nI 0) (nI 9) && inB y (nI 0) (nI 999)) = false := by simpa using c_32
        exact mg_vret C (by first | exact ⟨fun _ => rfl, fun h => absurd (h_32.symm.trans h) (by decide)⟩ | exact ⟨fun h => absurd (h_32.symm.trans h) (by decide), fun _ => rfl⟩) dX12_columns_45
      · have h_32 : (inB x (nI 0) (nI 9) && inB y (nI 0) (nI 999)) = true := by simpa using c_32
        refine mg_aload_n C (i := 0) rfl 0 rfl dX12_columns_35 ?_
        refine mg_iload_n C (i := 1) rfl 1 rfl dX12_columns_36 ?_
        refine mg_put C (k := 13) (by decide) rfl mL_draftCategory rfl (by decide +kernel) mT_draftCategory rfl rfl dX12_columns_37 ?_
        refine mg_aload_n C (i := 0) rfl 0 rfl dX12_columns_40 ?_
        refine mg_iload_n C (i := 2) rfl 2 rfl dX12_columns_41 ?_
        refine mg_put C (k := 14) (by decide) rfl mL_draftNumber rfl (by decide +kernel) mT_draftNumber rfl rfl dX12_columns_42 ?_
        exact mg_vret C (by first | exact ⟨fun _ => rfl, fun h => absurd (h_32.symm.trans h) (by decide)⟩ | exact ⟨fun h => absurd (h_32.symm.trans h) (by decide), fun _ => rfl⟩) dX12_columns_45
    · refine mg_iconst C (x := nI 1) rfl dX12_columns_22 ?_
      refine mg_goto C 27 (by decide) dX12_columns_23 ?_
      refine mg_cast (bI (inB x (nI 0) (nI 9) && inB y (nI 0) (nI 999))) (by first | (rw [c_8, c_19]; rfl) | (rw [c_8]; rfl)) ?_
      refine mg_iconst C (x := nI 1) rfl dX12_columns_27 ?_
      refine mg_iconst C (x := nI 1) rfl dX12_columns_28 ?_
      refine mg_doi C (c_goes l v f g (inB x (nI 0) (nI 9) && inB y (nI 0) (nI 999)) true true) mCal_goes rfl ⟨by decide, by decide⟩ rfl (Nat.le_of_ble_eq_true rfl) dX12_columns_29 ?_
      refine mg_if_eqB C 45 (by decide) dX12_columns_32 (fun c_32 => ?_) (fun c_32 => ?_)
      · have h_32 : (inB x (nI 0) (nI 9) && inB y (nI 0) (nI 999)) = false := by simpa using c_32
        exact mg_vret C (by first | exact ⟨fun _ => rfl, fun h => absurd (h_32.symm.trans h) (by decide)⟩ | exact ⟨fun h => absurd (h_32.symm.trans h) (by decide), fun _ => rfl⟩) dX12_columns_45
      · have h_32 : (inB x (nI 0) (nI 9) && inB y (nI 0) (nI 999)) = true := by simpa using c_32
        refine mg_aload_n C (i := 0) rfl 0 rfl dX12_columns_35 ?_
        refine mg_iload_n C (i := 1) rfl 1 rfl dX12_columns_36 ?_
        refine mg_put C (k := 13) (by decide) rfl mL_draftCategory rfl (by decide +kernel) mT_draftCategory rfl rfl dX12_columns_37 ?_
        refine mg_aload_n C (i := 0) rfl 0 rfl dX12_columns_40 ?_
        refine mg_iload_n C (i := 2) rfl 2 rfl dX12_columns_41 ?_
        refine mg_put C (k := 14) (by decide) rfl mL_draftNumber rfl (by decide +kernel) mT_draftNumber rfl rfl dX12_columns_42 ?_
        exact mg_vret C (by first | exact ⟨fun _ => rfl, fun h => absurd (h_32.symm.trans h) (by decide)⟩ | exact ⟨fun h => absurd (h_32.symm.trans h) (by decide), fun _ => rfl⟩) dX12_columns_45
