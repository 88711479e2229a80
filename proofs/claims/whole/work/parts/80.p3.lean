/-! the reference: the words of the pad -/
/-- after k signs: how many word signs stand behind each other, how many words there are, and the words -/
def rdS (P : Nat → Nat) : Nat → Nat × Nat × (Nat → Nat)
  | 0 => (0, 0, fun _ => 0)
  | k + 1 => if figN (P k) = 0 then (0, (rdS P k).2.1, (rdS P k).2.2) else if (rdS P k).1 = 0 then (1, (rdS P k).2.1 + 1, upR (rdS P k).2.2 (rdS P k).2.1 (figN (P k) * 37 ^ 11)) else ((rdS P k).1 + 1, (rdS P k).2.1, upR (rdS P k).2.2 ((rdS P k).2.1 - 1) ((rdS P k).2.2 ((rdS P k).2.1 - 1) + if (rdS P k).1 < 12 then figN (P k) * 37 ^ (11 - (rdS P k).1) else 0))
theorem rdS_0 {P : Nat → Nat} {k : Nat} (h : figN (P k) = 0) : rdS P (k + 1) = (0, (rdS P k).2.1, (rdS P k).2.2) := by
  rw [rdS, if_pos h]
theorem rdS_N {P : Nat → Nat} {k : Nat} (h : 0 < figN (P k)) (hs : (rdS P k).1 = 0) : rdS P (k + 1) = (1, (rdS P k).2.1 + 1, upR (rdS P k).2.2 (rdS P k).2.1 (figN (P k) * 37 ^ 11)) := by
  rw [rdS, if_neg (by omega), if_pos hs]
theorem rdS_I {P : Nat → Nat} {k : Nat} (h : 0 < figN (P k)) (hs : 0 < (rdS P k).1) : rdS P (k + 1) = ((rdS P k).1 + 1, (rdS P k).2.1, upR (rdS P k).2.2 ((rdS P k).2.1 - 1) ((rdS P k).2.2 ((rdS P k).2.1 - 1) + if (rdS P k).1 < 12 then figN (P k) * 37 ^ (11 - (rdS P k).1) else 0)) := by
  rw [rdS, if_neg (by omega), if_neg (by omega)]
theorem rdS_inv (P : Nat → Nat) : ∀ k, (rdS P k).1 ≤ k ∧ (0 < (rdS P k).1 → 2 * (rdS P k).2.1 ≤ k + 1 ∧ 0 < (rdS P k).2.1) ∧ ((rdS P k).1 = 0 → 2 * (rdS P k).2.1 ≤ k)
  | 0 => by simp [rdS]
  | k + 1 => by
    obtain ⟨h1, h2, h3⟩ := rdS_inv P k
    rcases Nat.eq_zero_or_pos (figN (P k)) with h | h
    · rw [rdS_0 h]
      dsimp only
      refine ⟨by omega, fun q => absurd q (by omega), fun _ => ?_⟩
      rcases Nat.eq_zero_or_pos (rdS P k).1 with q | q
      · have := h3 q; omega
      · have := h2 q; omega
    · rcases Nat.eq_zero_or_pos (rdS P k).1 with q | q
      · rw [rdS_N h q]
        dsimp only
        have := h3 q
        exact ⟨by omega, fun _ => ⟨by omega, by omega⟩, fun z => absurd z (by omega)⟩
      · rw [rdS_I h q]
        dsimp only
        have := h2 q
        exact ⟨by omega, fun _ => ⟨by omega, by omega⟩, fun z => absurd z (by omega)⟩
/-- how many words the first n signs have, and the words -/
def wdC (P : Nat → Nat) (n : Nat) : Nat := (rdS P n).2.1
def wdW (P : Nat → Nat) (n : Nat) : Nat → Nat := (rdS P n).2.2
theorem wdC_le (P : Nat → Nat) (n : Nat) : 2 * wdC P n ≤ n + 1 := by
  obtain ⟨h1, h2, h3⟩ := rdS_inv P n
  unfold wdC
  rcases Nat.eq_zero_or_pos (rdS P n).1 with q | q
  · have := h3 q; omega
  · have := (h2 q).1; omega
theorem rd_rN {W : Nat → Nat} {r : Nat → Int64} {c x : Nat} (h : ∀ j, j < c → r j = lN (W j)) : ∀ j, j < c + 1 → upR (upR r c 0) (c + 1 - 1) (lN (0 + x)) j = lN (upR W c x j) := by
  intro j hj
  rcases Nat.lt_or_ge j c with q | q
  · rw [upR_n (by omega), upR_n (by omega), upR_n (by omega), h j q]
  · rw [upR_e (by omega), upR_e (by omega), Nat.zero_add]
theorem rd_rI {W : Nat → Nat} {r : Nat → Int64} {c x : Nat} (h : ∀ j, j < c → r j = lN (W j)) : ∀ j, j < c → upR r (c - 1) (lN (W (c - 1) + x)) j = lN (upR W (c - 1) (W (c - 1) + x) j) := by
  intro j hj
  by_cases q : j = c - 1
  · rw [upR_e q, upR_e q]
  · rw [upR_n q, upR_n q, h j hj]
set_option maxHeartbeats 4000000 in
set_option maxRecDepth 100000 in
theorem c_reads (l : Launch) (v : Nat → Int32) (f : Nat → Nat → Int32) (g : Nat → Nat → Int64)  (P : Nat → Nat) (n : Nat) (hp : mPow g) (hn : n ≤ 40) (hv : v 2 = nI n) (hP : ∀ j, j < n → f 2 j = nI (P j) ∧ P j < 65536) : mMv l yX12_reads cX12_reads 4 none 2 42 false [] v f g (fun u_ => ∃ r, (∀ j, j < wdC P n → r j = lN (wdW P n j)) ∧ u_ = (upd v 4 (nI (wdC P n)), f, sR g 3 r)) := by
  intro D cI cJ cZ a sz
  refine mg_body (by decide +kernel) rfl (Nat.le_of_ble_eq_true rfl) ?_
  intro p e s m args below meth c hsz C
  clear hsz
  generalize va_A (mW cI cJ cZ a v f g) sz = A at C ⊢
  refine mg_lv (lv' := [(0, .ref (a 0))]) rfl ?_
  refine mg_aload_n C (i := 0) rfl 0 rfl dX12_reads_0 ?_
  refine mg_iconst C (x := nI 0) rfl dX12_reads_1 ?_
  refine mg_put C (k := 4) (by decide) rfl mL_worded rfl (by decide +kernel) mT_worded rfl rfl dX12_reads_2 ?_
  refine mg_iconst C (x := nI 0) rfl dX12_reads_5 ?_
  refine mg_istore_n C (i := 1) (lv' := [(1, .int (nI 0)), (0, .ref (a 0))]) rfl (Nat.le_of_ble_eq_true rfl) rfl dX12_reads_6 ?_
  refine mg_iconst C (x := nI 0) rfl dX12_reads_7 ?_
  refine mg_istore_n C (i := 2) (lv' := [(2, .int (nI 0)), (1, .int (nI 0)), (0, .ref (a 0))]) rfl (Nat.le_of_ble_eq_true rfl) rfl dX12_reads_8 ?_
  refine mg_world (g' := (sR g 3 (g 3))) rfl rfl (sR_id _ 3).symm ?_
  refine mg_loop (X := Nat × Nat × Nat × (Nat → Int64)) (fun y_ => (y_.1 ≤ n) ∧ (y_.2.1 = (rdS P y_.1).1) ∧ (y_.2.2.1 = (rdS P y_.1).2.1) ∧ (∀ q, q < y_.2.2.1 → y_.2.2.2 q = lN ((rdS P y_.1).2.2 q))) (fun y_ => n - y_.1) (fun y_ => [(2, .int (nI y_.1)), (1, .int (nI y_.2.1)), (0, .ref (a 0))]) (fun y_ => (upd v 4 (nI y_.2.2.1), f, sR g 3 y_.2.2.2)) (0, 0, 0, (g 3)) [0, 1, 2] rfl rfl ⟨by omega, rfl, rfl, fun q h => absurd h (Nat.not_lt_zero q)⟩ ?_
  rintro ⟨k, s2, c2, r⟩ hI_ ih_9
  dsimp only at hI_ ih_9 ⊢
  obtain ⟨hk, hs, hc, hr⟩ := hI_
  have hiv := rdS_inv P k
  rw [← hs, ← hc] at hiv
  refine mg_iload_n C (i := 2) rfl 0 rfl dX12_reads_9 ?_
  refine mg_aload_n C (i := 0) rfl 2 rfl dX12_reads_10 ?_
  refine mg_getI C (k := 2) (by decide) rfl mL_padded rfl dX12_reads_11 ?_
  refine mg_cast (nI n) hv ?_
  refine mg_icmp_geN C (by omega) (by omega) 106 (by decide) dX12_reads_14 (fun c_14 => ?_) (fun c_14 => ?_)
  · exact mg_vret C ⟨r, by rw [show n = k by omega]; unfold wdC wdW; rw [← hc]; exact hr, by rw [show n = k by omega]; unfold wdC; rw [← hc]⟩ dX12_reads_106
  · refine mg_aload_n C (i := 0) rfl 2 rfl dX12_reads_17 ?_
    refine mg_arr C 2 (by decide) (by decide) rfl mL_pad rfl dX12_reads_18 ?_
    refine mg_iload_n C (i := 2) rfl 0 rfl dX12_reads_21 ?_
    refine mg_iaload C (n := 40) 2 k (by decide) (by decide) rfl rfl (by omega) (by decide) dX12_reads_22 ?_
    have hPk := (hP k (by omega)).2
    refine mg_cast (nI (P k)) (hP k (by omega)).1 ?_
    refine mg_dosi C (c_figure l (upd v 4 (nI c2)) f (sR g 3 r) (P k) (by omega)) mCal_figure rfl ⟨by decide, by decide⟩ rfl (Nat.le_of_ble_eq_true rfl) dX12_reads_23 ?_
    refine mg_istore_n C (i := 3) (lv' := [(3, .int (nI (figN (P k)))), (2, .int (nI k)), (1, .int (nI s2)), (0, .ref (a 0))]) rfl (Nat.le_of_ble_eq_true rfl) rfl dX12_reads_26 ?_
    refine mg_iload_n C (i := 3) rfl 0 rfl dX12_reads_27 ?_
    refine mg_if_leN C (by have := figN_lt (P k); omega) 88 (by decide) dX12_reads_28 (fun c_28 => ?_) (fun c_28 => ?_)
    · refine mg_iload_n C (i := 3) rfl 0 rfl dX12_reads_88 ?_
      refine mg_if_leN C (by have := figN_lt (P k); omega) 98 (by decide) dX12_reads_89 (fun c_89 => ?_) (fun c_89 => ?_)
      · refine mg_iconst C (x := nI 0) rfl dX12_reads_98 ?_
        refine mg_istore_n C (i := 1) (lv' := [(1, .int (nI 0)), (3, .int (nI (figN (P k)))), (2, .int (nI k)), (0, .ref (a 0))]) rfl (Nat.le_of_ble_eq_true rfl) rfl dX12_reads_99 ?_
        refine mg_iincN C (lv' := [(2, .int (nI (k + 1))), (1, .int (nI 0)), (3, .int (nI (figN (P k)))), (0, .ref (a 0))]) 1 2 rfl rfl (Nat.le_of_ble_eq_true rfl) rfl dX12_reads_100 ?_
        refine mg_goto C 9 (by decide) dX12_reads_103 ?_
        exact mg_sub [0, 1, 3] rfl (ih_9 ((k + 1), 0, c2, r) (by
              dsimp only
              first
                | (rw [rdS_0 c_28]; exact ⟨by omega, rfl, hc, hr⟩)
                | (rw [rdS_0 (by omega)]; exact ⟨by omega, rfl, hc, hr⟩)
                | (rw [rdS_N (by omega) (by omega)]; dsimp only; rw [← hc]; have e0 : s2 = 0 := by omega
                   subst e0; exact ⟨by omega, rfl, rfl, rd_rN hr⟩)
                | (rw [rdS_I (by omega) (by omega)]; dsimp only; rw [← hc, ← hs]; first | (rw [if_pos (by omega)]; exact ⟨by omega, rfl, rfl, rd_rI hr⟩) | (rw [if_neg (by omega)]; exact ⟨by omega, rfl, rfl, rd_rI hr⟩))) (by omega))
      · exact absurd c_89 (by omega)
    · refine mg_iload_n C (i := 1) rfl 2 rfl dX12_reads_31 ?_
      refine mg_if_neN C (by omega) 55 (by decide) dX12_reads_32 (fun c_32 => ?_) (fun c_32 => ?_)
      · refine mg_aload_n C (i := 0) rfl 3 rfl dX12_reads_55 ?_
        refine mg_arr C 3 (by decide) (by decide) rfl mL_words rfl dX12_reads_56 ?_
        refine mg_aload_n C (i := 0) rfl 3 rfl dX12_reads_59 ?_
        refine mg_getI C (k := 4) (by decide) rfl mL_worded rfl dX12_reads_60 ?_
        refine mg_cast (nI c2) rfl ?_
        refine mg_iconst C (x := nI 1) rfl dX12_reads_63 ?_
        refine mg_isubN C (by omega) dX12_reads_64 ?_
        refine mg_dup2 C rfl rfl dX12_reads_65 ?_
        refine mg_laload C (n := 20) 3 (c2 - 1) (by decide) (by decide) rfl rfl (by omega) (by decide) dX12_reads_66 ?_
        refine mg_castL (r (c2 - 1)) rfl ?_
        refine mg_castL (lN ((rdS P k).2.2 (c2 - 1))) (hr _ (by omega)) ?_
        refine mg_iload_n C (i := 1) rfl 2 rfl dX12_reads_67 ?_
        refine mg_bipush C (x := nI 12) rfl dX12_reads_68 ?_
        refine mg_icmp_geN C (by omega) (by omega) 85 (by decide) dX12_reads_70 (fun c_70 => ?_) (fun c_70 => ?_)
        · refine mg_lconst C (x := 0) rfl dX12_reads_85 ?_
          refine mg_castL (lN 0) rfl ?_
          refine mg_ladd C dX12_reads_86 ?_
          refine mg_castL (lN (((rdS P k).2.2 (c2 - 1)) + 0)) (lN_add _ _) ?_
          refine mg_lastore C (n := 20) 3 (c2 - 1) (by decide) (by decide) rfl rfl (by omega) (by decide) dX12_reads_87 ?_
          refine mg_world (g' := (sR g 3 (upR r (c2 - 1) (lN (((rdS P k).2.2 (c2 - 1)) + 0))))) rfl rfl (by rw [mU_sR]) ?_
          refine mg_iload_n C (i := 3) rfl 0 rfl dX12_reads_88 ?_
          refine mg_if_leN C (by have := figN_lt (P k); omega) 98 (by decide) dX12_reads_89 (fun c_89 => ?_) (fun c_89 => ?_)
          · exact absurd c_89 (by omega)
          · refine mg_iload_n C (i := 1) rfl 2 rfl dX12_reads_92 ?_
            refine mg_iconst C (x := nI 1) rfl dX12_reads_93 ?_
            refine mg_iaddN C dX12_reads_94 ?_
            refine mg_goto C 99 (by decide) dX12_reads_95 ?_
            refine mg_istore_n C (i := 1) (lv' := [(1, .int (nI (s2 + 1))), (3, .int (nI (figN (P k)))), (2, .int (nI k)), (0, .ref (a 0))]) rfl (Nat.le_of_ble_eq_true rfl) rfl dX12_reads_99 ?_
            refine mg_iincN C (lv' := [(2, .int (nI (k + 1))), (1, .int (nI (s2 + 1))), (3, .int (nI (figN (P k)))), (0, .ref (a 0))]) 1 2 rfl rfl (Nat.le_of_ble_eq_true rfl) rfl dX12_reads_100 ?_
            refine mg_goto C 9 (by decide) dX12_reads_103 ?_
            exact mg_sub [0, 1, 3] rfl (ih_9 ((k + 1), (s2 + 1), c2, (upR r (c2 - 1) (lN (((rdS P k).2.2 (c2 - 1)) + 0)))) (by
                  dsimp only
                  first
                    | (rw [rdS_0 c_28]; exact ⟨by omega, rfl, hc, hr⟩)
                    | (rw [rdS_0 (by omega)]; exact ⟨by omega, rfl, hc, hr⟩)
                    | (rw [rdS_N (by omega) (by omega)]; dsimp only; rw [← hc]; have e0 : s2 = 0 := by omega
                       subst e0; exact ⟨by omega, rfl, rfl, rd_rN hr⟩)
                    | (rw [rdS_I (by omega) (by omega)]; dsimp only; rw [← hc, ← hs]; first | (rw [if_pos (by omega)]; exact ⟨by omega, rfl, rfl, rd_rI hr⟩) | (rw [if_neg (by omega)]; exact ⟨by omega, rfl, rfl, rd_rI hr⟩))) (by omega))
        · refine mg_iload_n C (i := 3) rfl 0 rfl dX12_reads_73 ?_
          refine mg_i2l C dX12_reads_74 ?_
          refine mg_aload_n C (i := 0) rfl 3 rfl dX12_reads_75 ?_
          refine mg_arr C 1 (by decide) (by decide) rfl mL_powers rfl dX12_reads_76 ?_
          refine mg_iload_n C (i := 1) rfl 2 rfl dX12_reads_79 ?_
          refine mg_laload C (n := 12) 1 s2 (by decide) (by decide) rfl rfl (by omega) (by decide) dX12_reads_80 ?_
          refine mg_castL (g 1 s2) rfl ?_
          refine mg_lmul C dX12_reads_81 ?_
          refine mg_castL (lN (figN (P k) * 37 ^ (11 - s2))) (by rw [hp s2 (by omega), nI_l (by have := figN_lt (P k); omega), lN_mul]) ?_
          refine mg_goto C 86 (by decide) dX12_reads_82 ?_
          refine mg_castL (lN (figN (P k) * 37 ^ (11 - s2))) rfl ?_
          refine mg_ladd C dX12_reads_86 ?_
          refine mg_castL (lN (((rdS P k).2.2 (c2 - 1)) + (figN (P k) * 37 ^ (11 - s2)))) (lN_add _ _) ?_
          refine mg_lastore C (n := 20) 3 (c2 - 1) (by decide) (by decide) rfl rfl (by omega) (by decide) dX12_reads_87 ?_
          refine mg_world (g' := (sR g 3 (upR r (c2 - 1) (lN (((rdS P k).2.2 (c2 - 1)) + (figN (P k) * 37 ^ (11 - s2))))))) rfl rfl (by rw [mU_sR]) ?_
          refine mg_iload_n C (i := 3) rfl 0 rfl dX12_reads_88 ?_
          refine mg_if_leN C (by have := figN_lt (P k); omega) 98 (by decide) dX12_reads_89 (fun c_89 => ?_) (fun c_89 => ?_)
          · exact absurd c_89 (by omega)
          · refine mg_iload_n C (i := 1) rfl 2 rfl dX12_reads_92 ?_
            refine mg_iconst C (x := nI 1) rfl dX12_reads_93 ?_
            refine mg_iaddN C dX12_reads_94 ?_
            refine mg_goto C 99 (by decide) dX12_reads_95 ?_
            refine mg_istore_n C (i := 1) (lv' := [(1, .int (nI (s2 + 1))), (3, .int (nI (figN (P k)))), (2, .int (nI k)), (0, .ref (a 0))]) rfl (Nat.le_of_ble_eq_true rfl) rfl dX12_reads_99 ?_
            refine mg_iincN C (lv' := [(2, .int (nI (k + 1))), (1, .int (nI (s2 + 1))), (3, .int (nI (figN (P k)))), (0, .ref (a 0))]) 1 2 rfl rfl (Nat.le_of_ble_eq_true rfl) rfl dX12_reads_100 ?_
            refine mg_goto C 9 (by decide) dX12_reads_103 ?_
            exact mg_sub [0, 1, 3] rfl (ih_9 ((k + 1), (s2 + 1), c2, (upR r (c2 - 1) (lN (((rdS P k).2.2 (c2 - 1)) + (figN (P k) * 37 ^ (11 - s2)))))) (by
                  dsimp only
                  first
                    | (rw [rdS_0 c_28]; exact ⟨by omega, rfl, hc, hr⟩)
                    | (rw [rdS_0 (by omega)]; exact ⟨by omega, rfl, hc, hr⟩)
                    | (rw [rdS_N (by omega) (by omega)]; dsimp only; rw [← hc]; have e0 : s2 = 0 := by omega
                       subst e0; exact ⟨by omega, rfl, rfl, rd_rN hr⟩)
                    | (rw [rdS_I (by omega) (by omega)]; dsimp only; rw [← hc, ← hs]; first | (rw [if_pos (by omega)]; exact ⟨by omega, rfl, rfl, rd_rI hr⟩) | (rw [if_neg (by omega)]; exact ⟨by omega, rfl, rfl, rd_rI hr⟩))) (by omega))
      · refine mg_aload_n C (i := 0) rfl 3 rfl dX12_reads_35 ?_
        refine mg_arr C 3 (by decide) (by decide) rfl mL_words rfl dX12_reads_36 ?_
        refine mg_aload_n C (i := 0) rfl 3 rfl dX12_reads_39 ?_
        refine mg_getI C (k := 4) (by decide) rfl mL_worded rfl dX12_reads_40 ?_
        refine mg_cast (nI c2) rfl ?_
        refine mg_lconst C (x := 0) rfl dX12_reads_43 ?_
        refine mg_lastore C (n := 20) 3 c2 (by decide) (by decide) rfl rfl (by omega) (by decide) dX12_reads_44 ?_
        refine mg_world (g' := (sR g 3 (upR r c2 0))) rfl rfl (by rw [mU_sR]) ?_
        refine mg_aload_n C (i := 0) rfl 3 rfl dX12_reads_45 ?_
        refine mg_dup C rfl dX12_reads_46 ?_
        refine mg_getI C (k := 4) (by decide) rfl mL_worded rfl dX12_reads_47 ?_
        refine mg_cast (nI c2) rfl ?_
        refine mg_iconst C (x := nI 1) rfl dX12_reads_50 ?_
        refine mg_iaddN C dX12_reads_51 ?_
        refine mg_put C (k := 4) (by decide) rfl mL_worded rfl (by decide +kernel) mT_worded rfl rfl dX12_reads_52 ?_
        refine mg_world (v' := (upd v 4 (nI (c2 + 1)))) (by rw [upd_s]) rfl rfl ?_
        refine mg_aload_n C (i := 0) rfl 3 rfl dX12_reads_55 ?_
        refine mg_arr C 3 (by decide) (by decide) rfl mL_words rfl dX12_reads_56 ?_
        refine mg_aload_n C (i := 0) rfl 3 rfl dX12_reads_59 ?_
        refine mg_getI C (k := 4) (by decide) rfl mL_worded rfl dX12_reads_60 ?_
        refine mg_cast (nI (c2 + 1)) rfl ?_
        refine mg_iconst C (x := nI 1) rfl dX12_reads_63 ?_
        refine mg_isubN C (by omega) dX12_reads_64 ?_
        refine mg_dup2 C rfl rfl dX12_reads_65 ?_
        refine mg_laload C (n := 20) 3 ((c2 + 1) - 1) (by decide) (by decide) rfl rfl (by omega) (by decide) dX12_reads_66 ?_
        refine mg_castL ((upR r c2 0) ((c2 + 1) - 1)) rfl ?_
        refine mg_castL (lN 0) (upR_e (by omega)) ?_
        refine mg_iload_n C (i := 1) rfl 2 rfl dX12_reads_67 ?_
        refine mg_bipush C (x := nI 12) rfl dX12_reads_68 ?_
        refine mg_icmp_geN C (by omega) (by omega) 85 (by decide) dX12_reads_70 (fun c_70 => ?_) (fun c_70 => ?_)
        · exact absurd c_70 (by omega)
        · refine mg_iload_n C (i := 3) rfl 0 rfl dX12_reads_73 ?_
          refine mg_i2l C dX12_reads_74 ?_
          refine mg_aload_n C (i := 0) rfl 3 rfl dX12_reads_75 ?_
          refine mg_arr C 1 (by decide) (by decide) rfl mL_powers rfl dX12_reads_76 ?_
          refine mg_iload_n C (i := 1) rfl 2 rfl dX12_reads_79 ?_
          refine mg_laload C (n := 12) 1 s2 (by decide) (by decide) rfl rfl (by omega) (by decide) dX12_reads_80 ?_
          refine mg_castL (g 1 s2) rfl ?_
          refine mg_lmul C dX12_reads_81 ?_
          refine mg_castL (lN (figN (P k) * 37 ^ (11 - s2))) (by rw [hp s2 (by omega), nI_l (by have := figN_lt (P k); omega), lN_mul]) ?_
          refine mg_goto C 86 (by decide) dX12_reads_82 ?_
          refine mg_castL (lN (figN (P k) * 37 ^ (11 - s2))) rfl ?_
          refine mg_ladd C dX12_reads_86 ?_
          refine mg_castL (lN (0 + (figN (P k) * 37 ^ (11 - s2)))) (lN_add _ _) ?_
          refine mg_lastore C (n := 20) 3 ((c2 + 1) - 1) (by decide) (by decide) rfl rfl (by omega) (by decide) dX12_reads_87 ?_
          refine mg_world (g' := (sR g 3 (upR (upR r c2 0) ((c2 + 1) - 1) (lN (0 + (figN (P k) * 37 ^ (11 - s2))))))) rfl rfl (by rw [mU_sR]) ?_
          refine mg_iload_n C (i := 3) rfl 0 rfl dX12_reads_88 ?_
          refine mg_if_leN C (by have := figN_lt (P k); omega) 98 (by decide) dX12_reads_89 (fun c_89 => ?_) (fun c_89 => ?_)
          · exact absurd c_89 (by omega)
          · refine mg_iload_n C (i := 1) rfl 2 rfl dX12_reads_92 ?_
            refine mg_iconst C (x := nI 1) rfl dX12_reads_93 ?_
            refine mg_iaddN C dX12_reads_94 ?_
            refine mg_goto C 99 (by decide) dX12_reads_95 ?_
            refine mg_istore_n C (i := 1) (lv' := [(1, .int (nI (s2 + 1))), (3, .int (nI (figN (P k)))), (2, .int (nI k)), (0, .ref (a 0))]) rfl (Nat.le_of_ble_eq_true rfl) rfl dX12_reads_99 ?_
            refine mg_iincN C (lv' := [(2, .int (nI (k + 1))), (1, .int (nI (s2 + 1))), (3, .int (nI (figN (P k)))), (0, .ref (a 0))]) 1 2 rfl rfl (Nat.le_of_ble_eq_true rfl) rfl dX12_reads_100 ?_
            refine mg_goto C 9 (by decide) dX12_reads_103 ?_
            exact mg_sub [0, 1, 3] rfl (ih_9 ((k + 1), (s2 + 1), (c2 + 1), (upR (upR r c2 0) ((c2 + 1) - 1) (lN (0 + (figN (P k) * 37 ^ (11 - s2)))))) (by
                  dsimp only
                  first
                    | (rw [rdS_0 c_28]; exact ⟨by omega, rfl, hc, hr⟩)
                    | (rw [rdS_0 (by omega)]; exact ⟨by omega, rfl, hc, hr⟩)
                    | (rw [rdS_N (by omega) (by omega)]; dsimp only; rw [← hc]; have e0 : s2 = 0 := by omega
                       subst e0; exact ⟨by omega, rfl, rfl, rd_rN hr⟩)
                    | (rw [rdS_I (by omega) (by omega)]; dsimp only; rw [← hc, ← hs]; first | (rw [if_pos (by omega)]; exact ⟨by omega, rfl, rfl, rd_rI hr⟩) | (rw [if_neg (by omega)]; exact ⟨by omega, rfl, rfl, rd_rI hr⟩))) (by omega))
