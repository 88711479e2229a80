/-! the reference: small questions and guards -/
/-- whether x is a place below n -/
def plB (x : Int32) (n : Nat) : Bool := inB x (nI 0) (nI n - nI 1)
theorem plB_t {x : Int32} {n : Nat} (hn : n < 2 ^ 30) (h : plB x n = true) : ∃ j, j < n ∧ x = nI j := by
  unfold plB inB at h
  rw [Bool.and_eq_true] at h
  obtain ⟨h1, h2⟩ := h
  have h1 := of_decide_eq_true h1
  have h2 := of_decide_eq_true h2
  rw [Int32.le_iff_toInt_le, nI_toInt (by omega)] at h1
  rw [Int32.le_iff_toInt_le, pk_sub_toInt hn (by omega)] at h2
  refine ⟨x.toInt.toNat, by omega, ?_⟩
  apply Int32.toInt_inj.mp
  rw [nI_toInt (by omega)]
  omega
theorem plB_N {j n : Nat} (hj : j < 2 ^ 30) (hn : n < 2 ^ 30) : plB (nI j) n = decide (j < n) := by
  unfold plB inB
  rw [decide_eq_true (nI_le (Nat.zero_le j) (by omega)), Bool.true_and]
  have e : (nI j ≤ nI n - nI 1) ↔ j < n := by
    rw [Int32.le_iff_toInt_le, pk_sub_toInt hn (by omega), nI_toInt (by omega)]
    omega
  simp [e]
/-- the last place below n with q, else -1 -/
def lsI (q : Nat → Bool) : Nat → Int32
  | 0 => -1
  | n + 1 => if q n then nI n else lsI q n
theorem lsI_t {q : Nat → Bool} {n : Nat} (h : q n = true) : lsI q (n + 1) = nI n := by rw [lsI, if_pos h]
theorem lsI_f {q : Nat → Bool} {n : Nat} (h : q n = false) : lsI q (n + 1) = lsI q n := by rw [lsI, if_neg (by rw [h]; decide)]
set_option maxHeartbeats 4000000 in
set_option maxRecDepth 100000 in
theorem c_isKey (l : Launch) (v : Nat → Int32) (f : Nat → Nat → Int32) (g : Nat → Nat → Int64) (x : Int32)  : mMi l yX12_isKey cX12_isKey 1 (some .boolean) 1 22 true [.int x] v f g (fun r_ u_ => r_ = bI (inB x (nI 0) (nI 99)) ∧ u_ = (v, f, g)) := by
  intro D cI cJ cZ a sz
  refine mg_body (by decide +kernel) rfl (Nat.le_of_ble_eq_true rfl) ?_
  intro p e s m args below meth c hsz C
  clear hsz
  generalize va_A (mW cI cJ cZ a v f g) sz = A at C ⊢
  refine mg_lv (lv' := [(0, .int x)]) rfl ?_
  refine mg_iload_n C (i := 0) rfl 0 rfl dX12_isKey_0 ?_
  refine mg_iconst C (x := nI 0) rfl dX12_isKey_1 ?_
  refine mg_bipush C (x := nI 99) rfl dX12_isKey_2 ?_
  refine mg_dosi C (c_in l v f g x (nI 0) (nI 99)) mCal_in rfl ⟨by decide, by decide⟩ rfl (Nat.le_of_ble_eq_true rfl) dX12_isKey_4 ?_
  exact mg_zret C (bI_nar _) ⟨by first | rfl | simp_all, rfl⟩ dX12_isKey_7
set_option maxHeartbeats 4000000 in
set_option maxRecDepth 100000 in
theorem c_isField (l : Launch) (v : Nat → Int32) (f : Nat → Nat → Int32) (g : Nat → Nat → Int64) (x : Int32)  : mMi l yX12_isField cX12_isField 2 (some .boolean) 1 22 false [.int x] v f g (fun r_ u_ => r_ = bI (inB x (nI 0) (nI 1)) ∧ u_ = (v, f, g)) := by
  intro D cI cJ cZ a sz
  refine mg_body (by decide +kernel) rfl (Nat.le_of_ble_eq_true rfl) ?_
  intro p e s m args below meth c hsz C
  clear hsz
  generalize va_A (mW cI cJ cZ a v f g) sz = A at C ⊢
  refine mg_lv (lv' := [(0, .ref (a 0)), (1, .int x)]) rfl ?_
  refine mg_iload_n C (i := 1) rfl 1 rfl dX12_isField_0 ?_
  refine mg_iconst C (x := nI 0) rfl dX12_isField_1 ?_
  refine mg_iconst C (x := nI 1) rfl dX12_isField_2 ?_
  refine mg_dosi C (c_in l v f g x (nI 0) (nI 1)) mCal_in rfl ⟨by decide, by decide⟩ rfl (Nat.le_of_ble_eq_true rfl) dX12_isField_3 ?_
  exact mg_zret C (bI_nar _) ⟨by first | rfl | simp_all, rfl⟩ dX12_isField_6
set_option maxHeartbeats 4000000 in
set_option maxRecDepth 100000 in
theorem c_isPlace (l : Launch) (v : Nat → Int32) (f : Nat → Nat → Int32) (g : Nat → Nat → Int64) (x : Int32) (d : Bool) (hd : v 98 = bI d) (ix : Nat) (hix : v 34 = nI ix) (hix2 : ix ≤ 202) : mMi l yX12_isPlace cX12_isPlace 2 (some .boolean) 1 22 false [.int x] v f g (fun r_ u_ => r_ = bI (!d && plB x ix) ∧ u_ = (v, f, g)) := by
  intro D cI cJ cZ a sz
  refine mg_body (by decide +kernel) rfl (Nat.le_of_ble_eq_true rfl) ?_
  intro p e s m args below meth c hsz C
  clear hsz
  generalize va_A (mW cI cJ cZ a v f g) sz = A at C ⊢
  refine mg_lv (lv' := [(0, .ref (a 0)), (1, .int x)]) rfl ?_
  refine mg_aload_n C (i := 0) rfl 0 rfl dX12_isPlace_0 ?_
  refine mg_getI C (k := 98) (by decide) rfl mL_down rfl dX12_isPlace_1 ?_
  refine mg_cast (bI d) hd ?_
  refine mg_if_neB C 25 (by decide) dX12_isPlace_4 (fun c_4 => ?_) (fun c_4 => ?_)
  · refine mg_iconst C (x := nI 0) rfl dX12_isPlace_25 ?_
    refine mg_cast (bI false) rfl ?_
    exact mg_zret C (bI_nar _) ⟨by first | (rw [c_4]; rfl) | (unfold plB; rw [c_4, c_18]; rfl), rfl⟩ dX12_isPlace_26
  · refine mg_iload_n C (i := 1) rfl 1 rfl dX12_isPlace_7 ?_
    refine mg_iconst C (x := nI 0) rfl dX12_isPlace_8 ?_
    refine mg_aload_n C (i := 0) rfl 0 rfl dX12_isPlace_9 ?_
    refine mg_getI C (k := 34) (by decide) rfl mL_indexed rfl dX12_isPlace_10 ?_
    refine mg_cast (nI ix) hix ?_
    refine mg_iconst C (x := nI 1) rfl dX12_isPlace_13 ?_
    refine mg_isub C dX12_isPlace_14 ?_
    refine mg_dosi C (c_in l v f g x (nI 0) ((nI ix) - (nI 1))) mCal_in rfl ⟨by decide, by decide⟩ rfl (Nat.le_of_ble_eq_true rfl) dX12_isPlace_15 ?_
    refine mg_if_eqB C 25 (by decide) dX12_isPlace_18 (fun c_18 => ?_) (fun c_18 => ?_)
    · refine mg_iconst C (x := nI 0) rfl dX12_isPlace_25 ?_
      refine mg_cast (bI false) rfl ?_
      exact mg_zret C (bI_nar _) ⟨by first | (rw [c_4]; rfl) | (unfold plB; rw [c_4, c_18]; rfl), rfl⟩ dX12_isPlace_26
    · refine mg_iconst C (x := nI 1) rfl dX12_isPlace_21 ?_
      refine mg_goto C 26 (by decide) dX12_isPlace_22 ?_
      refine mg_cast (bI true) rfl ?_
      exact mg_zret C (bI_nar _) ⟨by first | (rw [c_4]; rfl) | (unfold plB; rw [c_4, c_18]; rfl), rfl⟩ dX12_isPlace_26
set_option maxHeartbeats 4000000 in
set_option maxRecDepth 100000 in
theorem c_inBuffer (l : Launch) (v : Nat → Int32) (f : Nat → Nat → Int32) (g : Nat → Nat → Int64) (x : Int32) (nb : Nat) (hnb : v 20 = nI nb) (hnb2 : nb ≤ 12) : mMi l yX12_inBuffer cX12_inBuffer 4 (some .int) 0 0 false [.int x] v f g (fun r_ u_ => r_ = lsI (fun q => f 9 q == x) nb ∧ u_ = (v, f, g)) := by
  intro D cI cJ cZ a sz
  refine mg_body (by decide +kernel) rfl (Nat.le_of_ble_eq_true rfl) ?_
  intro p e s m args below meth c hsz C
  clear hsz
  generalize va_A (mW cI cJ cZ a v f g) sz = A at C ⊢
  refine mg_lv (lv' := [(0, .ref (a 0)), (1, .int x)]) rfl ?_
  refine mg_iconst C (x := (-1)) rfl dX12_inBuffer_0 ?_
  refine mg_istore_n C (i := 2) (lv' := [(2, .int ((-1))), (0, .ref (a 0)), (1, .int x)]) rfl (Nat.le_of_ble_eq_true rfl) rfl dX12_inBuffer_1 ?_
  refine mg_iconst C (x := nI 0) rfl dX12_inBuffer_2 ?_
  refine mg_istore_n C (i := 3) (lv' := [(3, .int (nI 0)), (2, .int ((-1))), (0, .ref (a 0)), (1, .int x)]) rfl (Nat.le_of_ble_eq_true rfl) rfl dX12_inBuffer_3 ?_
  refine mg_loop (X := Nat × Int32) (fun y_ => (y_.1 ≤ nb) ∧ (y_.2 = lsI (fun q => f 9 q == x) y_.1)) (fun y_ => nb - y_.1) (fun y_ => [(0, .ref (a 0)), (1, .int x), (2, .int y_.2), (3, .int (nI y_.1))]) (fun y_ => (v, f, g)) (0, (-1)) [2, 3, 1, 0] rfl rfl ⟨by omega, rfl⟩ ?_
  rintro ⟨k, t⟩ hI_ ih_4
  dsimp only at hI_ ih_4 ⊢
  obtain ⟨hk, ht⟩ := hI_
  refine mg_iload_n C (i := 3) rfl 3 rfl dX12_inBuffer_4 ?_
  refine mg_aload_n C (i := 0) rfl 0 rfl dX12_inBuffer_5 ?_
  refine mg_getI C (k := 20) (by decide) rfl mL_buffered rfl dX12_inBuffer_6 ?_
  refine mg_cast (nI nb) hnb ?_
  refine mg_icmp_geN C (by omega) (by omega) 34 (by decide) dX12_inBuffer_9 (fun c_9 => ?_) (fun c_9 => ?_)
  · refine mg_iload_n C (i := 2) rfl 2 rfl dX12_inBuffer_34 ?_
    exact mg_iret C ⟨by rw [ht, show k = nb by omega], rfl⟩ dX12_inBuffer_35
  · refine mg_aload_n C (i := 0) rfl 0 rfl dX12_inBuffer_12 ?_
    refine mg_arr C 9 (by decide) (by decide) rfl mL_bufferKeys rfl dX12_inBuffer_13 ?_
    refine mg_iload_n C (i := 3) rfl 3 rfl dX12_inBuffer_16 ?_
    refine mg_iaload C (n := 12) 9 k (by decide) (by decide) rfl rfl (by omega) (by decide) dX12_inBuffer_17 ?_
    refine mg_iload_n C (i := 1) rfl 1 rfl dX12_inBuffer_18 ?_
    refine mg_icmp_ne C 26 (by decide) dX12_inBuffer_19 (fun c_19 => ?_) (fun c_19 => ?_)
    · refine mg_iload_n C (i := 2) rfl 2 rfl dX12_inBuffer_26 ?_
      refine mg_istore_n C (i := 2) (lv' := [(2, .int t), (0, .ref (a 0)), (1, .int x), (3, .int (nI k))]) rfl (Nat.le_of_ble_eq_true rfl) rfl dX12_inBuffer_27 ?_
      refine mg_iincN C (lv' := [(3, .int (nI (k + 1))), (2, .int t), (0, .ref (a 0)), (1, .int x)]) 1 3 rfl rfl (Nat.le_of_ble_eq_true rfl) rfl dX12_inBuffer_28 ?_
      refine mg_goto C 4 (by decide) dX12_inBuffer_31 ?_
      exact mg_sub [2, 3, 1, 0] rfl (ih_4 ((k + 1), t) ⟨by omega, by first | exact Eq.symm (by exact lsI_t (beq_iff_eq.mpr c_19)) | (rw [ht]; exact Eq.symm (by exact lsI_f (beq_eq_false_iff_ne.mpr c_19)))⟩ (by omega))
    · refine mg_iload_n C (i := 3) rfl 3 rfl dX12_inBuffer_22 ?_
      refine mg_goto C 27 (by decide) dX12_inBuffer_23 ?_
      refine mg_istore_n C (i := 2) (lv' := [(2, .int (nI k)), (0, .ref (a 0)), (1, .int x), (3, .int (nI k))]) rfl (Nat.le_of_ble_eq_true rfl) rfl dX12_inBuffer_27 ?_
      refine mg_iincN C (lv' := [(3, .int (nI (k + 1))), (2, .int (nI k)), (0, .ref (a 0)), (1, .int x)]) 1 3 rfl rfl (Nat.le_of_ble_eq_true rfl) rfl dX12_inBuffer_28 ?_
      refine mg_goto C 4 (by decide) dX12_inBuffer_31 ?_
      exact mg_sub [2, 3, 1, 0] rfl (ih_4 ((k + 1), (nI k)) ⟨by omega, by first | exact Eq.symm (by exact lsI_t (beq_iff_eq.mpr c_19)) | (rw [ht]; exact Eq.symm (by exact lsI_f (beq_eq_false_iff_ne.mpr c_19)))⟩ (by omega))
set_option maxHeartbeats 4000000 in
set_option maxRecDepth 100000 in
theorem c_slotOf (l : Launch) (v : Nat → Int32) (f : Nat → Nat → Int32) (g : Nat → Nat → Int64) (x : Int32)  : mMi l yX12_slotOf cX12_slotOf 4 (some .int) 0 0 false [.int x] v f g (fun r_ u_ => r_ = lsI (fun q => decide (¬ x < 0) && (f 29 q == x)) 5 ∧ u_ = (v, f, g)) := by
  intro D cI cJ cZ a sz
  refine mg_body (by decide +kernel) rfl (Nat.le_of_ble_eq_true rfl) ?_
  intro p e s m args below meth c hsz C
  clear hsz
  generalize va_A (mW cI cJ cZ a v f g) sz = A at C ⊢
  refine mg_lv (lv' := [(0, .ref (a 0)), (1, .int x)]) rfl ?_
  refine mg_iconst C (x := (-1)) rfl dX12_slotOf_0 ?_
  refine mg_istore_n C (i := 2) (lv' := [(2, .int ((-1))), (0, .ref (a 0)), (1, .int x)]) rfl (Nat.le_of_ble_eq_true rfl) rfl dX12_slotOf_1 ?_
  refine mg_iconst C (x := nI 0) rfl dX12_slotOf_2 ?_
  refine mg_istore_n C (i := 3) (lv' := [(3, .int (nI 0)), (2, .int ((-1))), (0, .ref (a 0)), (1, .int x)]) rfl (Nat.le_of_ble_eq_true rfl) rfl dX12_slotOf_3 ?_
  refine mg_loop (X := Nat × Int32) (fun y_ => (y_.1 ≤ 5) ∧ (y_.2 = lsI (fun q => decide (¬ x < 0) && (f 29 q == x)) y_.1)) (fun y_ => 5 - y_.1) (fun y_ => [(0, .ref (a 0)), (1, .int x), (2, .int y_.2), (3, .int (nI y_.1))]) (fun y_ => (v, f, g)) (0, (-1)) [2, 3, 1, 0] rfl rfl ⟨by omega, rfl⟩ ?_
  rintro ⟨k, t⟩ hI_ ih_4
  dsimp only at hI_ ih_4 ⊢
  obtain ⟨hk, ht⟩ := hI_
  refine mg_iload_n C (i := 3) rfl 3 rfl dX12_slotOf_4 ?_
  refine mg_iconst C (x := nI 5) rfl dX12_slotOf_5 ?_
  refine mg_icmp_geN C (by omega) (by omega) 35 (by decide) dX12_slotOf_6 (fun c_6 => ?_) (fun c_6 => ?_)
  · refine mg_iload_n C (i := 2) rfl 2 rfl dX12_slotOf_35 ?_
    exact mg_iret C ⟨by rw [ht, show k = 5 by omega], rfl⟩ dX12_slotOf_36
  · refine mg_iload_n C (i := 1) rfl 1 rfl dX12_slotOf_9 ?_
    refine mg_if_lt C 27 (by decide) dX12_slotOf_10 (fun c_10 => ?_) (fun c_10 => ?_)
    · refine mg_iload_n C (i := 2) rfl 2 rfl dX12_slotOf_27 ?_
      refine mg_istore_n C (i := 2) (lv' := [(2, .int t), (0, .ref (a 0)), (1, .int x), (3, .int (nI k))]) rfl (Nat.le_of_ble_eq_true rfl) rfl dX12_slotOf_28 ?_
      refine mg_iincN C (lv' := [(3, .int (nI (k + 1))), (2, .int t), (0, .ref (a 0)), (1, .int x)]) 1 3 rfl rfl (Nat.le_of_ble_eq_true rfl) rfl dX12_slotOf_29 ?_
      refine mg_goto C 4 (by decide) dX12_slotOf_32 ?_
      exact mg_sub [2, 3, 1, 0] rfl (ih_4 ((k + 1), t) ⟨by omega, by first | exact Eq.symm (by exact lsI_t (by rw [decide_eq_true c_10, beq_iff_eq.mpr c_20]; rfl)) | (rw [ht]; exact Eq.symm (by exact lsI_f (by rw [beq_eq_false_iff_ne.mpr c_20, Bool.and_false]))) | (rw [ht]; exact Eq.symm (by exact lsI_f (by rw [decide_eq_false (p := ¬ x < 0) (fun h => h c_10), Bool.false_and])))⟩ (by omega))
    · refine mg_aload_n C (i := 0) rfl 0 rfl dX12_slotOf_13 ?_
      refine mg_arr C 29 (by decide) (by decide) rfl mL_lookNumbers rfl dX12_slotOf_14 ?_
      refine mg_iload_n C (i := 3) rfl 3 rfl dX12_slotOf_17 ?_
      refine mg_iaload C (n := 5) 29 k (by decide) (by decide) rfl rfl (by omega) (by decide) dX12_slotOf_18 ?_
      refine mg_iload_n C (i := 1) rfl 1 rfl dX12_slotOf_19 ?_
      refine mg_icmp_ne C 27 (by decide) dX12_slotOf_20 (fun c_20 => ?_) (fun c_20 => ?_)
      · refine mg_iload_n C (i := 2) rfl 2 rfl dX12_slotOf_27 ?_
        refine mg_istore_n C (i := 2) (lv' := [(2, .int t), (0, .ref (a 0)), (1, .int x), (3, .int (nI k))]) rfl (Nat.le_of_ble_eq_true rfl) rfl dX12_slotOf_28 ?_
        refine mg_iincN C (lv' := [(3, .int (nI (k + 1))), (2, .int t), (0, .ref (a 0)), (1, .int x)]) 1 3 rfl rfl (Nat.le_of_ble_eq_true rfl) rfl dX12_slotOf_29 ?_
        refine mg_goto C 4 (by decide) dX12_slotOf_32 ?_
        exact mg_sub [2, 3, 1, 0] rfl (ih_4 ((k + 1), t) ⟨by omega, by first | exact Eq.symm (by exact lsI_t (by rw [decide_eq_true c_10, beq_iff_eq.mpr c_20]; rfl)) | (rw [ht]; exact Eq.symm (by exact lsI_f (by rw [beq_eq_false_iff_ne.mpr c_20, Bool.and_false]))) | (rw [ht]; exact Eq.symm (by exact lsI_f (by rw [decide_eq_false (p := ¬ x < 0) (fun h => h c_10), Bool.false_and])))⟩ (by omega))
      · refine mg_iload_n C (i := 3) rfl 3 rfl dX12_slotOf_23 ?_
        refine mg_goto C 28 (by decide) dX12_slotOf_24 ?_
        refine mg_istore_n C (i := 2) (lv' := [(2, .int (nI k)), (0, .ref (a 0)), (1, .int x), (3, .int (nI k))]) rfl (Nat.le_of_ble_eq_true rfl) rfl dX12_slotOf_28 ?_
        refine mg_iincN C (lv' := [(3, .int (nI (k + 1))), (2, .int (nI k)), (0, .ref (a 0)), (1, .int x)]) 1 3 rfl rfl (Nat.le_of_ble_eq_true rfl) rfl dX12_slotOf_29 ?_
        refine mg_goto C 4 (by decide) dX12_slotOf_32 ?_
        exact mg_sub [2, 3, 1, 0] rfl (ih_4 ((k + 1), (nI k)) ⟨by omega, by first | exact Eq.symm (by exact lsI_t (by rw [decide_eq_true c_10, beq_iff_eq.mpr c_20]; rfl)) | (rw [ht]; exact Eq.symm (by exact lsI_f (by rw [beq_eq_false_iff_ne.mpr c_20, Bool.and_false]))) | (rw [ht]; exact Eq.symm (by exact lsI_f (by rw [decide_eq_false (p := ¬ x < 0) (fun h => h c_10), Bool.false_and])))⟩ (by omega))
set_option maxHeartbeats 4000000 in
set_option maxRecDepth 100000 in
theorem c_hasRoom (l : Launch) (v : Nat → Int32) (f : Nat → Nat → Int32) (g : Nat → Nat → Int64)  (pm : Nat) (hpm : v 72 = nI pm) (hpm2 : pm ≤ 8) (lf : Nat) (hlf : v 71 = nI lf) (hlf2 : lf ≤ 24) : mMi l yX12_hasRoom cX12_hasRoom 1 (some .boolean) 0 0 false [] v f g (fun r_ u_ => r_ = bI (decide (pm < 8 ∧ lf < 24)) ∧ u_ = (v, f, g)) := by
  intro D cI cJ cZ a sz
  refine mg_body (by decide +kernel) rfl (Nat.le_of_ble_eq_true rfl) ?_
  intro p e s m args below meth c hsz C
  clear hsz
  generalize va_A (mW cI cJ cZ a v f g) sz = A at C ⊢
  refine mg_lv (lv' := [(0, .ref (a 0))]) rfl ?_
  refine mg_aload_n C (i := 0) rfl 0 rfl dX12_hasRoom_0 ?_
  refine mg_getI C (k := 72) (by decide) rfl mL_partsMany rfl dX12_hasRoom_1 ?_
  refine mg_cast (nI pm) hpm ?_
  refine mg_bipush C (x := nI 8) rfl dX12_hasRoom_4 ?_
  refine mg_icmp_geN C (by omega) (by omega) 22 (by decide) dX12_hasRoom_6 (fun c_6 => ?_) (fun c_6 => ?_)
  · refine mg_iconst C (x := nI 0) rfl dX12_hasRoom_22 ?_
    refine mg_cast (bI false) rfl ?_
    exact mg_zret C (bI_nar _) ⟨by first | exact (congrArg bI (decide_eq_true ⟨by omega, by omega⟩)).symm | exact (congrArg bI (decide_eq_false (by omega))).symm, rfl⟩ dX12_hasRoom_23
  · refine mg_aload_n C (i := 0) rfl 0 rfl dX12_hasRoom_9 ?_
    refine mg_getI C (k := 71) (by decide) rfl mL_leaves rfl dX12_hasRoom_10 ?_
    refine mg_cast (nI lf) hlf ?_
    refine mg_bipush C (x := nI 24) rfl dX12_hasRoom_13 ?_
    refine mg_icmp_geN C (by omega) (by omega) 22 (by decide) dX12_hasRoom_15 (fun c_15 => ?_) (fun c_15 => ?_)
    · refine mg_iconst C (x := nI 0) rfl dX12_hasRoom_22 ?_
      refine mg_cast (bI false) rfl ?_
      exact mg_zret C (bI_nar _) ⟨by first | exact (congrArg bI (decide_eq_true ⟨by omega, by omega⟩)).symm | exact (congrArg bI (decide_eq_false (by omega))).symm, rfl⟩ dX12_hasRoom_23
    · refine mg_iconst C (x := nI 1) rfl dX12_hasRoom_18 ?_
      refine mg_goto C 23 (by decide) dX12_hasRoom_19 ?_
      refine mg_cast (bI true) rfl ?_
      exact mg_zret C (bI_nar _) ⟨by first | exact (congrArg bI (decide_eq_true ⟨by omega, by omega⟩)).symm | exact (congrArg bI (decide_eq_false (by omega))).symm, rfl⟩ dX12_hasRoom_23
set_option maxHeartbeats 4000000 in
set_option maxRecDepth 100000 in
theorem c_draftAt (l : Launch) (v : Nat → Int32) (f : Nat → Nat → Int32) (g : Nat → Nat → Int64)   : mMi l yX12_draftAt cX12_draftAt 0 (some .int) 0 0 true [] v f g (fun r_ u_ => r_ = nI 1920 ∧ u_ = (v, f, g)) := by
  intro D cI cJ cZ a sz
  refine mg_body (by decide +kernel) rfl (Nat.le_of_ble_eq_true rfl) ?_
  intro p e s m args below meth c hsz C
  clear hsz
  generalize va_A (mW cI cJ cZ a v f g) sz = A at C ⊢
  refine mg_lv (lv' := []) rfl ?_
  refine mg_sipush C (x := nI 1920) rfl dX12_draftAt_0 ?_
  exact mg_iret C ⟨by first | rfl | simp_all, rfl⟩ dX12_draftAt_3
set_option maxHeartbeats 4000000 in
set_option maxRecDepth 100000 in
theorem c_isInIndex (l : Launch) (v : Nat → Int32) (f : Nat → Nat → Int32) (g : Nat → Nat → Int64) (x : Int32) (ix : Nat) (hix : v 34 = nI ix) (hix2 : ix ≤ 202) : mMi l yX12_isInIndex cX12_isInIndex 4 (some .boolean) 0 0 false [.int x] v f g (fun r_ u_ => r_ = bI (anyB (fun q => f 24 q == x) ix) ∧ u_ = (v, f, g)) := by
  intro D cI cJ cZ a sz
  refine mg_body (by decide +kernel) rfl (Nat.le_of_ble_eq_true rfl) ?_
  intro p e s m args below meth c hsz C
  clear hsz
  generalize va_A (mW cI cJ cZ a v f g) sz = A at C ⊢
  refine mg_lv (lv' := [(0, .ref (a 0)), (1, .int x)]) rfl ?_
  refine mg_iconst C (x := nI 0) rfl dX12_isInIndex_0 ?_
  refine mg_cast (bI false) rfl ?_
  refine mg_istore_n C (i := 2) (lv' := [(2, .int (bI false)), (0, .ref (a 0)), (1, .int x)]) rfl (Nat.le_of_ble_eq_true rfl) rfl dX12_isInIndex_1 ?_
  refine mg_iconst C (x := nI 0) rfl dX12_isInIndex_2 ?_
  refine mg_istore_n C (i := 3) (lv' := [(3, .int (nI 0)), (2, .int (bI false)), (0, .ref (a 0)), (1, .int x)]) rfl (Nat.le_of_ble_eq_true rfl) rfl dX12_isInIndex_3 ?_
  refine mg_loop (X := Nat × Bool) (fun y_ => (y_.1 ≤ ix) ∧ (y_.2 = anyB (fun q => f 24 q == x) y_.1)) (fun y_ => ix - y_.1) (fun y_ => [(0, .ref (a 0)), (1, .int x), (2, .int (bI y_.2)), (3, .int (nI y_.1))]) (fun y_ => (v, f, g)) (0, false) [2, 3, 1, 0] rfl rfl ⟨by omega, rfl⟩ ?_
  rintro ⟨k, is⟩ hI_ ih_4
  dsimp only at hI_ ih_4 ⊢
  obtain ⟨hk, hi⟩ := hI_
  refine mg_iload_n C (i := 3) rfl 3 rfl dX12_isInIndex_4 ?_
  refine mg_aload_n C (i := 0) rfl 0 rfl dX12_isInIndex_5 ?_
  refine mg_getI C (k := 34) (by decide) rfl mL_indexed rfl dX12_isInIndex_6 ?_
  refine mg_cast (nI ix) hix ?_
  refine mg_icmp_geN C (by omega) (by omega) 38 (by decide) dX12_isInIndex_9 (fun c_9 => ?_) (fun c_9 => ?_)
  · refine mg_iload_n C (i := 2) rfl 2 rfl dX12_isInIndex_38 ?_
    exact mg_zret C (bI_nar _) ⟨by rw [hi, show k = ix by omega], rfl⟩ dX12_isInIndex_39
  · refine mg_iload_n C (i := 2) rfl 2 rfl dX12_isInIndex_12 ?_
    refine mg_if_neB C 26 (by decide) dX12_isInIndex_13 (fun c_13 => ?_) (fun c_13 => ?_)
    · refine mg_iconst C (x := nI 1) rfl dX12_isInIndex_26 ?_
      refine mg_goto C 31 (by decide) dX12_isInIndex_27 ?_
      refine mg_cast (bI true) rfl ?_
      refine mg_istore_n C (i := 2) (lv' := [(2, .int (bI true)), (0, .ref (a 0)), (1, .int x), (3, .int (nI k))]) rfl (Nat.le_of_ble_eq_true rfl) rfl dX12_isInIndex_31 ?_
      refine mg_iincN C (lv' := [(3, .int (nI (k + 1))), (2, .int (bI true)), (0, .ref (a 0)), (1, .int x)]) 1 3 rfl rfl (Nat.le_of_ble_eq_true rfl) rfl dX12_isInIndex_32 ?_
      refine mg_goto C 4 (by decide) dX12_isInIndex_35 ?_
      exact mg_sub [2, 3, 1, 0] rfl (ih_4 ((k + 1), true) ⟨by omega, by first | exact (anyB_s1 (hi.symm.trans c_13)).symm | exact Eq.symm (by exact anyB_s2 (beq_iff_eq.mpr c_23)) | exact Eq.symm (by exact anyB_s0 (hi.symm.trans c_13) (beq_eq_false_iff_ne.mpr c_23))⟩ (by omega))
    · refine mg_aload_n C (i := 0) rfl 0 rfl dX12_isInIndex_16 ?_
      refine mg_arr C 24 (by decide) (by decide) rfl mL_index rfl dX12_isInIndex_17 ?_
      refine mg_iload_n C (i := 3) rfl 3 rfl dX12_isInIndex_20 ?_
      refine mg_iaload C (n := 202) 24 k (by decide) (by decide) rfl rfl (by omega) (by decide) dX12_isInIndex_21 ?_
      refine mg_iload_n C (i := 1) rfl 1 rfl dX12_isInIndex_22 ?_
      refine mg_icmp_ne C 30 (by decide) dX12_isInIndex_23 (fun c_23 => ?_) (fun c_23 => ?_)
      · refine mg_iconst C (x := nI 0) rfl dX12_isInIndex_30 ?_
        refine mg_cast (bI false) rfl ?_
        refine mg_istore_n C (i := 2) (lv' := [(2, .int (bI false)), (0, .ref (a 0)), (1, .int x), (3, .int (nI k))]) rfl (Nat.le_of_ble_eq_true rfl) rfl dX12_isInIndex_31 ?_
        refine mg_iincN C (lv' := [(3, .int (nI (k + 1))), (2, .int (bI false)), (0, .ref (a 0)), (1, .int x)]) 1 3 rfl rfl (Nat.le_of_ble_eq_true rfl) rfl dX12_isInIndex_32 ?_
        refine mg_goto C 4 (by decide) dX12_isInIndex_35 ?_
        exact mg_sub [2, 3, 1, 0] rfl (ih_4 ((k + 1), false) ⟨by omega, by first | exact (anyB_s1 (hi.symm.trans c_13)).symm | exact Eq.symm (by exact anyB_s2 (beq_iff_eq.mpr c_23)) | exact Eq.symm (by exact anyB_s0 (hi.symm.trans c_13) (beq_eq_false_iff_ne.mpr c_23))⟩ (by omega))
      · refine mg_iconst C (x := nI 1) rfl dX12_isInIndex_26 ?_
        refine mg_goto C 31 (by decide) dX12_isInIndex_27 ?_
        refine mg_cast (bI true) rfl ?_
        refine mg_istore_n C (i := 2) (lv' := [(2, .int (bI true)), (0, .ref (a 0)), (1, .int x), (3, .int (nI k))]) rfl (Nat.le_of_ble_eq_true rfl) rfl dX12_isInIndex_31 ?_
        refine mg_iincN C (lv' := [(3, .int (nI (k + 1))), (2, .int (bI true)), (0, .ref (a 0)), (1, .int x)]) 1 3 rfl rfl (Nat.le_of_ble_eq_true rfl) rfl dX12_isInIndex_32 ?_
        refine mg_goto C 4 (by decide) dX12_isInIndex_35 ?_
        exact mg_sub [2, 3, 1, 0] rfl (ih_4 ((k + 1), true) ⟨by omega, by first | exact (anyB_s1 (hi.symm.trans c_13)).symm | exact Eq.symm (by exact anyB_s2 (beq_iff_eq.mpr c_23)) | exact Eq.symm (by exact anyB_s0 (hi.symm.trans c_13) (beq_eq_false_iff_ne.mpr c_23))⟩ (by omega))
set_option maxHeartbeats 4000000 in
set_option maxRecDepth 100000 in
theorem c_isInCommit (l : Launch) (v : Nat → Int32) (f : Nat → Nat → Int32) (g : Nat → Nat → Int64) (x : Int32) (ic : Bool) (hic : v 35 = bI ic) (cm : Nat) (hcm : v 37 = nI cm) (hcm2 : cm ≤ 202) : mMi l yX12_isInCommit cX12_isInCommit 4 (some .boolean) 0 0 false [.int x] v f g (fun r_ u_ => r_ = bI (ic && anyB (fun q => f 25 q == x) cm) ∧ u_ = (v, f, g)) := by
  intro D cI cJ cZ a sz
  refine mg_body (by decide +kernel) rfl (Nat.le_of_ble_eq_true rfl) ?_
  intro p e s m args below meth c hsz C
  clear hsz
  generalize va_A (mW cI cJ cZ a v f g) sz = A at C ⊢
  refine mg_lv (lv' := [(0, .ref (a 0)), (1, .int x)]) rfl ?_
  refine mg_iconst C (x := nI 0) rfl dX12_isInCommit_0 ?_
  refine mg_cast (bI false) rfl ?_
  refine mg_istore_n C (i := 2) (lv' := [(2, .int (bI false)), (0, .ref (a 0)), (1, .int x)]) rfl (Nat.le_of_ble_eq_true rfl) rfl dX12_isInCommit_1 ?_
  refine mg_iconst C (x := nI 0) rfl dX12_isInCommit_2 ?_
  refine mg_istore_n C (i := 3) (lv' := [(3, .int (nI 0)), (2, .int (bI false)), (0, .ref (a 0)), (1, .int x)]) rfl (Nat.le_of_ble_eq_true rfl) rfl dX12_isInCommit_3 ?_
  refine mg_loop (X := Nat × Bool) (fun y_ => (y_.1 ≤ cm) ∧ (y_.2 = anyB (fun q => f 25 q == x) y_.1) ∧ (ic = false → y_.1 = 0)) (fun y_ => cm - y_.1) (fun y_ => [(0, .ref (a 0)), (1, .int x), (2, .int (bI y_.2)), (3, .int (nI y_.1))]) (fun y_ => (v, f, g)) (0, false) [2, 3, 1, 0] rfl rfl ⟨by omega, rfl, fun _ => rfl⟩ ?_
  rintro ⟨k, is⟩ hI_ ih_4
  dsimp only at hI_ ih_4 ⊢
  obtain ⟨hk, hi, hz⟩ := hI_
  refine mg_aload_n C (i := 0) rfl 0 rfl dX12_isInCommit_4 ?_
  refine mg_getI C (k := 35) (by decide) rfl mL_isCommitted rfl dX12_isInCommit_5 ?_
  refine mg_cast (bI ic) hic ?_
  refine mg_if_eqB C 45 (by decide) dX12_isInCommit_8 (fun c_8 => ?_) (fun c_8 => ?_)
  · refine mg_iload_n C (i := 2) rfl 2 rfl dX12_isInCommit_45 ?_
    exact mg_zret C (bI_nar _) ⟨by first | (rw [hi, hz c_8, c_8]; rfl) | (rw [hi, show k = cm by omega, c_8]; rfl), rfl⟩ dX12_isInCommit_46
  · refine mg_iload_n C (i := 3) rfl 3 rfl dX12_isInCommit_11 ?_
    refine mg_aload_n C (i := 0) rfl 0 rfl dX12_isInCommit_12 ?_
    refine mg_getI C (k := 37) (by decide) rfl mL_committedMany rfl dX12_isInCommit_13 ?_
    refine mg_cast (nI cm) hcm ?_
    refine mg_icmp_geN C (by omega) (by omega) 45 (by decide) dX12_isInCommit_16 (fun c_16 => ?_) (fun c_16 => ?_)
    · refine mg_iload_n C (i := 2) rfl 2 rfl dX12_isInCommit_45 ?_
      exact mg_zret C (bI_nar _) ⟨by first | (rw [hi, hz c_8, c_8]; rfl) | (rw [hi, show k = cm by omega, c_8]; rfl), rfl⟩ dX12_isInCommit_46
    · refine mg_iload_n C (i := 2) rfl 2 rfl dX12_isInCommit_19 ?_
      refine mg_if_neB C 33 (by decide) dX12_isInCommit_20 (fun c_20 => ?_) (fun c_20 => ?_)
      · refine mg_iconst C (x := nI 1) rfl dX12_isInCommit_33 ?_
        refine mg_goto C 38 (by decide) dX12_isInCommit_34 ?_
        refine mg_cast (bI true) rfl ?_
        refine mg_istore_n C (i := 2) (lv' := [(2, .int (bI true)), (0, .ref (a 0)), (1, .int x), (3, .int (nI k))]) rfl (Nat.le_of_ble_eq_true rfl) rfl dX12_isInCommit_38 ?_
        refine mg_iincN C (lv' := [(3, .int (nI (k + 1))), (2, .int (bI true)), (0, .ref (a 0)), (1, .int x)]) 1 3 rfl rfl (Nat.le_of_ble_eq_true rfl) rfl dX12_isInCommit_39 ?_
        refine mg_goto C 4 (by decide) dX12_isInCommit_42 ?_
        exact mg_sub [2, 3, 1, 0] rfl (ih_4 ((k + 1), true) ⟨by omega, by first | exact (anyB_s1 (hi.symm.trans c_20)).symm | exact Eq.symm (by exact anyB_s2 (beq_iff_eq.mpr c_30)) | exact Eq.symm (by exact anyB_s0 (hi.symm.trans c_20) (beq_eq_false_iff_ne.mpr c_30)), fun h => absurd (c_8.symm.trans h) (by decide)⟩ (by omega))
      · refine mg_aload_n C (i := 0) rfl 0 rfl dX12_isInCommit_23 ?_
        refine mg_arr C 25 (by decide) (by decide) rfl mL_committed rfl dX12_isInCommit_24 ?_
        refine mg_iload_n C (i := 3) rfl 3 rfl dX12_isInCommit_27 ?_
        refine mg_iaload C (n := 202) 25 k (by decide) (by decide) rfl rfl (by omega) (by decide) dX12_isInCommit_28 ?_
        refine mg_iload_n C (i := 1) rfl 1 rfl dX12_isInCommit_29 ?_
        refine mg_icmp_ne C 37 (by decide) dX12_isInCommit_30 (fun c_30 => ?_) (fun c_30 => ?_)
        · refine mg_iconst C (x := nI 0) rfl dX12_isInCommit_37 ?_
          refine mg_cast (bI false) rfl ?_
          refine mg_istore_n C (i := 2) (lv' := [(2, .int (bI false)), (0, .ref (a 0)), (1, .int x), (3, .int (nI k))]) rfl (Nat.le_of_ble_eq_true rfl) rfl dX12_isInCommit_38 ?_
          refine mg_iincN C (lv' := [(3, .int (nI (k + 1))), (2, .int (bI false)), (0, .ref (a 0)), (1, .int x)]) 1 3 rfl rfl (Nat.le_of_ble_eq_true rfl) rfl dX12_isInCommit_39 ?_
          refine mg_goto C 4 (by decide) dX12_isInCommit_42 ?_
          exact mg_sub [2, 3, 1, 0] rfl (ih_4 ((k + 1), false) ⟨by omega, by first | exact (anyB_s1 (hi.symm.trans c_20)).symm | exact Eq.symm (by exact anyB_s2 (beq_iff_eq.mpr c_30)) | exact Eq.symm (by exact anyB_s0 (hi.symm.trans c_20) (beq_eq_false_iff_ne.mpr c_30)), fun h => absurd (c_8.symm.trans h) (by decide)⟩ (by omega))
        · refine mg_iconst C (x := nI 1) rfl dX12_isInCommit_33 ?_
          refine mg_goto C 38 (by decide) dX12_isInCommit_34 ?_
          refine mg_cast (bI true) rfl ?_
          refine mg_istore_n C (i := 2) (lv' := [(2, .int (bI true)), (0, .ref (a 0)), (1, .int x), (3, .int (nI k))]) rfl (Nat.le_of_ble_eq_true rfl) rfl dX12_isInCommit_38 ?_
          refine mg_iincN C (lv' := [(3, .int (nI (k + 1))), (2, .int (bI true)), (0, .ref (a 0)), (1, .int x)]) 1 3 rfl rfl (Nat.le_of_ble_eq_true rfl) rfl dX12_isInCommit_39 ?_
          refine mg_goto C 4 (by decide) dX12_isInCommit_42 ?_
          exact mg_sub [2, 3, 1, 0] rfl (ih_4 ((k + 1), true) ⟨by omega, by first | exact (anyB_s1 (hi.symm.trans c_20)).symm | exact Eq.symm (by exact anyB_s2 (beq_iff_eq.mpr c_30)) | exact Eq.symm (by exact anyB_s0 (hi.symm.trans c_20) (beq_eq_false_iff_ne.mpr c_30)), fun h => absurd (c_8.symm.trans h) (by decide)⟩ (by omega))
set_option maxHeartbeats 4000000 in
set_option maxRecDepth 100000 in
theorem c_isInPrepared (l : Launch) (v : Nat → Int32) (f : Nat → Nat → Int32) (g : Nat → Nat → Int64) (x : Int32) (ic : Bool) (hic : v 40 = bI ic) (cm : Nat) (hcm : v 42 = nI cm) (hcm2 : cm ≤ 202) : mMi l yX12_isInPrepared cX12_isInPrepared 4 (some .boolean) 0 0 false [.int x] v f g (fun r_ u_ => r_ = bI (ic && anyB (fun q => f 27 q == x) cm) ∧ u_ = (v, f, g)) := by
  intro D cI cJ cZ a sz
  refine mg_body (by decide +kernel) rfl (Nat.le_of_ble_eq_true rfl) ?_
  intro p e s m args below meth c hsz C
  clear hsz
  generalize va_A (mW cI cJ cZ a v f g) sz = A at C ⊢
  refine mg_lv (lv' := [(0, .ref (a 0)), (1, .int x)]) rfl ?_
  refine mg_iconst C (x := nI 0) rfl dX12_isInPrepared_0 ?_
  refine mg_cast (bI false) rfl ?_
  refine mg_istore_n C (i := 2) (lv' := [(2, .int (bI false)), (0, .ref (a 0)), (1, .int x)]) rfl (Nat.le_of_ble_eq_true rfl) rfl dX12_isInPrepared_1 ?_
  refine mg_iconst C (x := nI 0) rfl dX12_isInPrepared_2 ?_
  refine mg_istore_n C (i := 3) (lv' := [(3, .int (nI 0)), (2, .int (bI false)), (0, .ref (a 0)), (1, .int x)]) rfl (Nat.le_of_ble_eq_true rfl) rfl dX12_isInPrepared_3 ?_
  refine mg_loop (X := Nat × Bool) (fun y_ => (y_.1 ≤ cm) ∧ (y_.2 = anyB (fun q => f 27 q == x) y_.1) ∧ (ic = false → y_.1 = 0)) (fun y_ => cm - y_.1) (fun y_ => [(0, .ref (a 0)), (1, .int x), (2, .int (bI y_.2)), (3, .int (nI y_.1))]) (fun y_ => (v, f, g)) (0, false) [2, 3, 1, 0] rfl rfl ⟨by omega, rfl, fun _ => rfl⟩ ?_
  rintro ⟨k, is⟩ hI_ ih_4
  dsimp only at hI_ ih_4 ⊢
  obtain ⟨hk, hi, hz⟩ := hI_
  refine mg_aload_n C (i := 0) rfl 0 rfl dX12_isInPrepared_4 ?_
  refine mg_getI C (k := 40) (by decide) rfl mL_isPrepared rfl dX12_isInPrepared_5 ?_
  refine mg_cast (bI ic) hic ?_
  refine mg_if_eqB C 45 (by decide) dX12_isInPrepared_8 (fun c_8 => ?_) (fun c_8 => ?_)
  · refine mg_iload_n C (i := 2) rfl 2 rfl dX12_isInPrepared_45 ?_
    exact mg_zret C (bI_nar _) ⟨by first | (rw [hi, hz c_8, c_8]; rfl) | (rw [hi, show k = cm by omega, c_8]; rfl), rfl⟩ dX12_isInPrepared_46
  · refine mg_iload_n C (i := 3) rfl 3 rfl dX12_isInPrepared_11 ?_
    refine mg_aload_n C (i := 0) rfl 0 rfl dX12_isInPrepared_12 ?_
    refine mg_getI C (k := 42) (by decide) rfl mL_preparedMany rfl dX12_isInPrepared_13 ?_
    refine mg_cast (nI cm) hcm ?_
    refine mg_icmp_geN C (by omega) (by omega) 45 (by decide) dX12_isInPrepared_16 (fun c_16 => ?_) (fun c_16 => ?_)
    · refine mg_iload_n C (i := 2) rfl 2 rfl dX12_isInPrepared_45 ?_
      exact mg_zret C (bI_nar _) ⟨by first | (rw [hi, hz c_8, c_8]; rfl) | (rw [hi, show k = cm by omega, c_8]; rfl), rfl⟩ dX12_isInPrepared_46
    · refine mg_iload_n C (i := 2) rfl 2 rfl dX12_isInPrepared_19 ?_
      refine mg_if_neB C 33 (by decide) dX12_isInPrepared_20 (fun c_20 => ?_) (fun c_20 => ?_)
      · refine mg_iconst C (x := nI 1) rfl dX12_isInPrepared_33 ?_
        refine mg_goto C 38 (by decide) dX12_isInPrepared_34 ?_
        refine mg_cast (bI true) rfl ?_
        refine mg_istore_n C (i := 2) (lv' := [(2, .int (bI true)), (0, .ref (a 0)), (1, .int x), (3, .int (nI k))]) rfl (Nat.le_of_ble_eq_true rfl) rfl dX12_isInPrepared_38 ?_
        refine mg_iincN C (lv' := [(3, .int (nI (k + 1))), (2, .int (bI true)), (0, .ref (a 0)), (1, .int x)]) 1 3 rfl rfl (Nat.le_of_ble_eq_true rfl) rfl dX12_isInPrepared_39 ?_
        refine mg_goto C 4 (by decide) dX12_isInPrepared_42 ?_
        exact mg_sub [2, 3, 1, 0] rfl (ih_4 ((k + 1), true) ⟨by omega, by first | exact (anyB_s1 (hi.symm.trans c_20)).symm | exact Eq.symm (by exact anyB_s2 (beq_iff_eq.mpr c_30)) | exact Eq.symm (by exact anyB_s0 (hi.symm.trans c_20) (beq_eq_false_iff_ne.mpr c_30)), fun h => absurd (c_8.symm.trans h) (by decide)⟩ (by omega))
      · refine mg_aload_n C (i := 0) rfl 0 rfl dX12_isInPrepared_23 ?_
        refine mg_arr C 27 (by decide) (by decide) rfl mL_prepared rfl dX12_isInPrepared_24 ?_
        refine mg_iload_n C (i := 3) rfl 3 rfl dX12_isInPrepared_27 ?_
        refine mg_iaload C (n := 202) 27 k (by decide) (by decide) rfl rfl (by omega) (by decide) dX12_isInPrepared_28 ?_
        refine mg_iload_n C (i := 1) rfl 1 rfl dX12_isInPrepared_29 ?_
        refine mg_icmp_ne C 37 (by decide) dX12_isInPrepared_30 (fun c_30 => ?_) (fun c_30 => ?_)
        · refine mg_iconst C (x := nI 0) rfl dX12_isInPrepared_37 ?_
          refine mg_cast (bI false) rfl ?_
          refine mg_istore_n C (i := 2) (lv' := [(2, .int (bI false)), (0, .ref (a 0)), (1, .int x), (3, .int (nI k))]) rfl (Nat.le_of_ble_eq_true rfl) rfl dX12_isInPrepared_38 ?_
          refine mg_iincN C (lv' := [(3, .int (nI (k + 1))), (2, .int (bI false)), (0, .ref (a 0)), (1, .int x)]) 1 3 rfl rfl (Nat.le_of_ble_eq_true rfl) rfl dX12_isInPrepared_39 ?_
          refine mg_goto C 4 (by decide) dX12_isInPrepared_42 ?_
          exact mg_sub [2, 3, 1, 0] rfl (ih_4 ((k + 1), false) ⟨by omega, by first | exact (anyB_s1 (hi.symm.trans c_20)).symm | exact Eq.symm (by exact anyB_s2 (beq_iff_eq.mpr c_30)) | exact Eq.symm (by exact anyB_s0 (hi.symm.trans c_20) (beq_eq_false_iff_ne.mpr c_30)), fun h => absurd (c_8.symm.trans h) (by decide)⟩ (by omega))
        · refine mg_iconst C (x := nI 1) rfl dX12_isInPrepared_33 ?_
          refine mg_goto C 38 (by decide) dX12_isInPrepared_34 ?_
          refine mg_cast (bI true) rfl ?_
          refine mg_istore_n C (i := 2) (lv' := [(2, .int (bI true)), (0, .ref (a 0)), (1, .int x), (3, .int (nI k))]) rfl (Nat.le_of_ble_eq_true rfl) rfl dX12_isInPrepared_38 ?_
          refine mg_iincN C (lv' := [(3, .int (nI (k + 1))), (2, .int (bI true)), (0, .ref (a 0)), (1, .int x)]) 1 3 rfl rfl (Nat.le_of_ble_eq_true rfl) rfl dX12_isInPrepared_39 ?_
          refine mg_goto C 4 (by decide) dX12_isInPrepared_42 ?_
          exact mg_sub [2, 3, 1, 0] rfl (ih_4 ((k + 1), true) ⟨by omega, by first | exact (anyB_s1 (hi.symm.trans c_20)).symm | exact Eq.symm (by exact anyB_s2 (beq_iff_eq.mpr c_30)) | exact Eq.symm (by exact anyB_s0 (hi.symm.trans c_20) (beq_eq_false_iff_ne.mpr c_30)), fun h => absurd (c_8.symm.trans h) (by decide)⟩ (by omega))
set_option maxHeartbeats 4000000 in
set_option maxRecDepth 100000 in
theorem c_segments (l : Launch) (v : Nat → Int32) (f : Nat → Nat → Int32) (g : Nat → Nat → Int64)  (d : Bool) (hd : v 98 = bI d) (ix : Nat) (hix : v 34 = nI ix) (hix2 : ix ≤ 202) : mMi l yX12_segments cX12_segments 1 (some .int) 1 23 false [] v f g (fun r_ u_ => (d = false → r_ = nI ix) ∧ (d = true → r_ = nI 0) ∧ u_ = (upd v 99 (goX (!d) true true), f, g)) := by
  intro D cI cJ cZ a sz
  refine mg_body (by decide +kernel) rfl (Nat.le_of_ble_eq_true rfl) ?_
  intro p e s m args below meth c hsz C
  clear hsz
  generalize va_A (mW cI cJ cZ a v f g) sz = A at C ⊢
  refine mg_lv (lv' := [(0, .ref (a 0))]) rfl ?_
  refine mg_aload_n C (i := 0) rfl 0 rfl dX12_segments_0 ?_
  refine mg_aload_n C (i := 0) rfl 0 rfl dX12_segments_1 ?_
  refine mg_getI C (k := 98) (by decide) rfl mL_down rfl dX12_segments_2 ?_
  refine mg_cast (bI d) hd ?_
  refine mg_if_neB C 12 (by decide) dX12_segments_5 (fun c_5 => ?_) (fun c_5 => ?_)
  · refine mg_iconst C (x := nI 0) rfl dX12_segments_12 ?_
    refine mg_cast (bI (!d)) (by rw [c_5]; rfl) ?_
    refine mg_iconst C (x := nI 1) rfl dX12_segments_13 ?_
    refine mg_iconst C (x := nI 1) rfl dX12_segments_14 ?_
    refine mg_doi C (c_goes l v f g (!d) true true) mCal_goes rfl ⟨by decide, by decide⟩ rfl (Nat.le_of_ble_eq_true rfl) dX12_segments_15 ?_
    refine mg_if_eqB C 28 (by decide) dX12_segments_18 (fun c_18 => ?_) (fun c_18 => ?_)
    · have h_18 : d = true := by simpa using c_18
      refine mg_iconst C (x := nI 0) rfl dX12_segments_28 ?_
      exact mg_iret C (by first | exact ⟨fun _ => rfl, fun h => absurd (h_18.symm.trans h) (by decide), rfl⟩ | exact ⟨fun h => absurd (h_18.symm.trans h) (by decide), fun _ => rfl, rfl⟩) dX12_segments_29
    · have h_18 : d = false := by simpa using c_18
      refine mg_aload_n C (i := 0) rfl 0 rfl dX12_segments_21 ?_
      refine mg_getI C (k := 34) (by decide) rfl mL_indexed rfl dX12_segments_22 ?_
      refine mg_cast (nI ix) hix ?_
      refine mg_goto C 29 (by decide) dX12_segments_25 ?_
      exact mg_iret C (by first | exact ⟨fun _ => rfl, fun h => absurd (h_18.symm.trans h) (by decide), rfl⟩ | exact ⟨fun h => absurd (h_18.symm.trans h) (by decide), fun _ => rfl, rfl⟩) dX12_segments_29
  · refine mg_iconst C (x := nI 1) rfl dX12_segments_8 ?_
    refine mg_goto C 13 (by decide) dX12_segments_9 ?_
    refine mg_cast (bI (!d)) (by rw [c_5]; rfl) ?_
    refine mg_iconst C (x := nI 1) rfl dX12_segments_13 ?_
    refine mg_iconst C (x := nI 1) rfl dX12_segments_14 ?_
    refine mg_doi C (c_goes l v f g (!d) true true) mCal_goes rfl ⟨by decide, by decide⟩ rfl (Nat.le_of_ble_eq_true rfl) dX12_segments_15 ?_
    refine mg_if_eqB C 28 (by decide) dX12_segments_18 (fun c_18 => ?_) (fun c_18 => ?_)
    · have h_18 : d = true := by simpa using c_18
      refine mg_iconst C (x := nI 0) rfl dX12_segments_28 ?_
      exact mg_iret C (by first | exact ⟨fun _ => rfl, fun h => absurd (h_18.symm.trans h) (by decide), rfl⟩ | exact ⟨fun h => absurd (h_18.symm.trans h) (by decide), fun _ => rfl, rfl⟩) dX12_segments_29
    · have h_18 : d = false := by simpa using c_18
      refine mg_aload_n C (i := 0) rfl 0 rfl dX12_segments_21 ?_
      refine mg_getI C (k := 34) (by decide) rfl mL_indexed rfl dX12_segments_22 ?_
      refine mg_cast (nI ix) hix ?_
      refine mg_goto C 29 (by decide) dX12_segments_25 ?_
      exact mg_iret C (by first | exact ⟨fun _ => rfl, fun h => absurd (h_18.symm.trans h) (by decide), rfl⟩ | exact ⟨fun h => absurd (h_18.symm.trans h) (by decide), fun _ => rfl, rfl⟩) dX12_segments_29
set_option maxHeartbeats 4000000 in
set_option maxRecDepth 100000 in
theorem c_segmentAt (l : Launch) (v : Nat → Int32) (f : Nat → Nat → Int32) (g : Nat → Nat → Int64) (x : Int32) (d : Bool) (hd : v 98 = bI d) (ix : Nat) (hix : v 34 = nI ix) (hix2 : ix ≤ 202) : mMi l yX12_segmentAt cX12_segmentAt 2 (some .int) 2 43 false [.int x] v f g (fun r_ u_ => (∀ j, j < ix → x = nI j → d = false → r_ = f 24 j) ∧ ((!d && plB x ix) = false → r_ = nI 0) ∧ u_ = (upd v 99 (goX (!d && plB x ix) true true), f, g)) := by
  intro D cI cJ cZ a sz
  refine mg_body (by decide +kernel) rfl (Nat.le_of_ble_eq_true rfl) ?_
  intro p e s m args below meth c hsz C
  clear hsz
  generalize va_A (mW cI cJ cZ a v f g) sz = A at C ⊢
  refine mg_lv (lv' := [(0, .ref (a 0)), (1, .int x)]) rfl ?_
  refine mg_aload_n C (i := 0) rfl 0 rfl dX12_segmentAt_0 ?_
  refine mg_aload_n C (i := 0) rfl 0 rfl dX12_segmentAt_1 ?_
  refine mg_iload_n C (i := 1) rfl 1 rfl dX12_segmentAt_2 ?_
  refine mg_doi C (c_isPlace l v f g x d hd ix hix hix2) mCal_isPlace rfl ⟨by decide, by decide⟩ rfl (Nat.le_of_ble_eq_true rfl) dX12_segmentAt_3 ?_
  refine mg_iconst C (x := nI 1) rfl dX12_segmentAt_6 ?_
  refine mg_iconst C (x := nI 1) rfl dX12_segmentAt_7 ?_
  refine mg_doi C (c_goes l v f g (!d && plB x ix) true true) mCal_goes rfl ⟨by decide, by decide⟩ rfl (Nat.le_of_ble_eq_true rfl) dX12_segmentAt_8 ?_
  refine mg_if_eqB C 23 (by decide) dX12_segmentAt_11 (fun c_11 => ?_) (fun c_11 => ?_)
  · have h_11 : (!d && plB x ix) = false := by simpa using c_11
    refine mg_iconst C (x := nI 0) rfl dX12_segmentAt_23 ?_
    exact mg_iret C (by first | exact ⟨fun i hi h _ => by rw [(nI_eq (by omega) (by omega)).mp h], fun h => absurd (h_11.symm.trans h) (by decide), rfl⟩ | exact ⟨fun i hi h h2 => absurd h_11 (by rw [h, h2, plB_N (by omega) (by omega), decide_eq_true hi]; decide), fun _ => rfl, rfl⟩) dX12_segmentAt_24
  · have h_11 : (!d && plB x ix) = true := by simpa using c_11
    obtain ⟨h11a, h11b⟩ := (Bool.and_eq_true _ _).mp h_11
    obtain ⟨j, hj, hxj⟩ := plB_t (by omega) h11b
    subst hxj
    refine mg_aload_n C (i := 0) rfl 0 rfl dX12_segmentAt_14 ?_
    refine mg_arr C 24 (by decide) (by decide) rfl mL_index rfl dX12_segmentAt_15 ?_
    refine mg_iload_n C (i := 1) rfl 1 rfl dX12_segmentAt_18 ?_
    refine mg_iaload C (n := 202) 24 j (by decide) (by decide) rfl rfl (by omega) (by decide) dX12_segmentAt_19 ?_
    refine mg_goto C 24 (by decide) dX12_segmentAt_20 ?_
    exact mg_iret C (by first | exact ⟨fun i hi h _ => by rw [(nI_eq (by omega) (by omega)).mp h], fun h => absurd (h_11.symm.trans h) (by decide), rfl⟩ | exact ⟨fun i hi h h2 => absurd h_11 (by rw [h, h2, plB_N (by omega) (by omega), decide_eq_true hi]; decide), fun _ => rfl, rfl⟩) dX12_segmentAt_24
set_option maxHeartbeats 4000000 in
set_option maxRecDepth 100000 in
theorem c_hitAt (l : Launch) (v : Nat → Int32) (f : Nat → Nat → Int32) (g : Nat → Nat → Int64) (x : Int32) (hn : Nat) (hhn : v 88 = nI hn) (hhn2 : hn ≤ 20) : mMi l yX12_hitAt cX12_hitAt 2 (some .int) 1 23 false [.int x] v f g (fun r_ u_ => (∀ j, j < hn → x = nI j → r_ = f 59 j) ∧ (plB x hn = false → r_ = nI 0) ∧ u_ = (upd v 99 (goX (plB x hn) true true), f, g)) := by
  intro D cI cJ cZ a sz
  refine mg_body (by decide +kernel) rfl (Nat.le_of_ble_eq_true rfl) ?_
  intro p e s m args below meth c hsz C
  clear hsz
  generalize va_A (mW cI cJ cZ a v f g) sz = A at C ⊢
  refine mg_lv (lv' := [(0, .ref (a 0)), (1, .int x)]) rfl ?_
  refine mg_aload_n C (i := 0) rfl 0 rfl dX12_hitAt_0 ?_
  refine mg_iload_n C (i := 1) rfl 1 rfl dX12_hitAt_1 ?_
  refine mg_iconst C (x := nI 0) rfl dX12_hitAt_2 ?_
  refine mg_aload_n C (i := 0) rfl 0 rfl dX12_hitAt_3 ?_
  refine mg_getI C (k := 88) (by decide) rfl mL_hits rfl dX12_hitAt_4 ?_
  refine mg_cast (nI hn) hhn ?_
  refine mg_iconst C (x := nI 1) rfl dX12_hitAt_7 ?_
  refine mg_isub C dX12_hitAt_8 ?_
  refine mg_dosi C (c_in l v f g x (nI 0) ((nI hn) - (nI 1))) mCal_in rfl ⟨by decide, by decide⟩ rfl (Nat.le_of_ble_eq_true rfl) dX12_hitAt_9 ?_
  refine mg_cast (bI (plB x hn)) rfl ?_
  refine mg_iconst C (x := nI 1) rfl dX12_hitAt_12 ?_
  refine mg_iconst C (x := nI 1) rfl dX12_hitAt_13 ?_
  refine mg_doi C (c_goes l v f g (plB x hn) true true) mCal_goes rfl ⟨by decide, by decide⟩ rfl (Nat.le_of_ble_eq_true rfl) dX12_hitAt_14 ?_
  refine mg_if_eqB C 29 (by decide) dX12_hitAt_17 (fun c_17 => ?_) (fun c_17 => ?_)
  · have h_17 : plB x hn = false := by simpa using c_17
    refine mg_iconst C (x := nI 0) rfl dX12_hitAt_29 ?_
    exact mg_iret C (by first | exact ⟨fun i hi h => by rw [(nI_eq (by omega) (by omega)).mp h], fun h => absurd (h_17.symm.trans h) (by decide), rfl⟩ | exact ⟨fun i hi h => absurd h_17 (by rw [h, plB_N (by omega) (by omega), decide_eq_true hi]; decide), fun _ => rfl, rfl⟩) dX12_hitAt_30
  · have h_17 : plB x hn = true := by simpa using c_17
    obtain ⟨j, hj, hxj⟩ := plB_t (by omega) h_17
    subst hxj
    refine mg_aload_n C (i := 0) rfl 0 rfl dX12_hitAt_20 ?_
    refine mg_arr C 59 (by decide) (by decide) rfl mL_hitKeys rfl dX12_hitAt_21 ?_
    refine mg_iload_n C (i := 1) rfl 1 rfl dX12_hitAt_24 ?_
    refine mg_iaload C (n := 20) 59 j (by decide) (by decide) rfl rfl (by omega) (by decide) dX12_hitAt_25 ?_
    refine mg_goto C 30 (by decide) dX12_hitAt_26 ?_
    exact mg_iret C (by first | exact ⟨fun i hi h => by rw [(nI_eq (by omega) (by omega)).mp h], fun h => absurd (h_17.symm.trans h) (by decide), rfl⟩ | exact ⟨fun i hi h => absurd h_17 (by rw [h, plB_N (by omega) (by omega), decide_eq_true hi]; decide), fun _ => rfl, rfl⟩) dX12_hitAt_30
set_option maxHeartbeats 4000000 in
set_option maxRecDepth 100000 in
theorem c_rankAt (l : Launch) (v : Nat → Int32) (f : Nat → Nat → Int32) (g : Nat → Nat → Int64) (x : Int32) (hn : Nat) (hhn : v 88 = nI hn) (hhn2 : hn ≤ 20) : mMi l yX12_rankAt cX12_rankAt 2 (some .int) 1 23 false [.int x] v f g (fun r_ u_ => (∀ j, j < hn → x = nI j → r_ = f 60 j) ∧ (plB x hn = false → r_ = nI 0) ∧ u_ = (upd v 99 (goX (plB x hn) true true), f, g)) := by
  intro D cI cJ cZ a sz
  refine mg_body (by decide +kernel) rfl (Nat.le_of_ble_eq_true rfl) ?_
  intro p e s m args below meth c hsz C
  clear hsz
  generalize va_A (mW cI cJ cZ a v f g) sz = A at C ⊢
  refine mg_lv (lv' := [(0, .ref (a 0)), (1, .int x)]) rfl ?_
  refine mg_aload_n C (i := 0) rfl 0 rfl dX12_rankAt_0 ?_
  refine mg_iload_n C (i := 1) rfl 1 rfl dX12_rankAt_1 ?_
  refine mg_iconst C (x := nI 0) rfl dX12_rankAt_2 ?_
  refine mg_aload_n C (i := 0) rfl 0 rfl dX12_rankAt_3 ?_
  refine mg_getI C (k := 88) (by decide) rfl mL_hits rfl dX12_rankAt_4 ?_
  refine mg_cast (nI hn) hhn ?_
  refine mg_iconst C (x := nI 1) rfl dX12_rankAt_7 ?_
  refine mg_isub C dX12_rankAt_8 ?_
  refine mg_dosi C (c_in l v f g x (nI 0) ((nI hn) - (nI 1))) mCal_in rfl ⟨by decide, by decide⟩ rfl (Nat.le_of_ble_eq_true rfl) dX12_rankAt_9 ?_
  refine mg_cast (bI (plB x hn)) rfl ?_
  refine mg_iconst C (x := nI 1) rfl dX12_rankAt_12 ?_
  refine mg_iconst C (x := nI 1) rfl dX12_rankAt_13 ?_
  refine mg_doi C (c_goes l v f g (plB x hn) true true) mCal_goes rfl ⟨by decide, by decide⟩ rfl (Nat.le_of_ble_eq_true rfl) dX12_rankAt_14 ?_
  refine mg_if_eqB C 29 (by decide) dX12_rankAt_17 (fun c_17 => ?_) (fun c_17 => ?_)
  · have h_17 : plB x hn = false := by simpa using c_17
    refine mg_iconst C (x := nI 0) rfl dX12_rankAt_29 ?_
    exact mg_iret C (by first | exact ⟨fun i hi h => by rw [(nI_eq (by omega) (by omega)).mp h], fun h => absurd (h_17.symm.trans h) (by decide), rfl⟩ | exact ⟨fun i hi h => absurd h_17 (by rw [h, plB_N (by omega) (by omega), decide_eq_true hi]; decide), fun _ => rfl, rfl⟩) dX12_rankAt_30
  · have h_17 : plB x hn = true := by simpa using c_17
    obtain ⟨j, hj, hxj⟩ := plB_t (by omega) h_17
    subst hxj
    refine mg_aload_n C (i := 0) rfl 0 rfl dX12_rankAt_20 ?_
    refine mg_arr C 60 (by decide) (by decide) rfl mL_hitRanks rfl dX12_rankAt_21 ?_
    refine mg_iload_n C (i := 1) rfl 1 rfl dX12_rankAt_24 ?_
    refine mg_iaload C (n := 20) 60 j (by decide) (by decide) rfl rfl (by omega) (by decide) dX12_rankAt_25 ?_
    refine mg_goto C 30 (by decide) dX12_rankAt_26 ?_
    exact mg_iret C (by first | exact ⟨fun i hi h => by rw [(nI_eq (by omega) (by omega)).mp h], fun h => absurd (h_17.symm.trans h) (by decide), rfl⟩ | exact ⟨fun i hi h => absurd h_17 (by rw [h, plB_N (by omega) (by omega), decide_eq_true hi]; decide), fun _ => rfl, rfl⟩) dX12_rankAt_30
set_option maxHeartbeats 4000000 in
set_option maxRecDepth 100000 in
theorem c_isAsked (l : Launch) (v : Nat → Int32) (f : Nat → Nat → Int32) (g : Nat → Nat → Int64) (x : Int32) (y : Int32) (qn : Nat) (hqn : v 73 = nI qn) (hqn2 : qn ≤ 40) : mMi l yX12_isAsked cX12_isAsked 3 (some .boolean) 1 22 false [.int x, .int y] v f g (fun r_ u_ => r_ = bI (decide (¬ x = -1) && plB y qn) ∧ u_ = (v, f, g)) := by
  intro D cI cJ cZ a sz
  refine mg_body (by decide +kernel) rfl (Nat.le_of_ble_eq_true rfl) ?_
  intro p e s m args below meth c hsz C
  clear hsz
  generalize va_A (mW cI cJ cZ a v f g) sz = A at C ⊢
  refine mg_lv (lv' := [(0, .ref (a 0)), (1, .int x), (2, .int y)]) rfl ?_
  refine mg_iload_n C (i := 1) rfl 1 rfl dX12_isAsked_0 ?_
  refine mg_iconst C (x := (-1)) rfl dX12_isAsked_1 ?_
  refine mg_icmp_eq C 23 (by decide) dX12_isAsked_2 (fun c_2 => ?_) (fun c_2 => ?_)
  · refine mg_iconst C (x := nI 0) rfl dX12_isAsked_23 ?_
    refine mg_cast (bI false) rfl ?_
    exact mg_zret C (bI_nar _) ⟨by first | (rw [decide_eq_false (p := ¬ x = -1) (fun h => h c_2)]; rfl) | (rw [decide_eq_true c_2]; unfold plB; rw [c_16]; rfl), rfl⟩ dX12_isAsked_24
  · refine mg_iload_n C (i := 2) rfl 2 rfl dX12_isAsked_5 ?_
    refine mg_iconst C (x := nI 0) rfl dX12_isAsked_6 ?_
    refine mg_aload_n C (i := 0) rfl 0 rfl dX12_isAsked_7 ?_
    refine mg_getI C (k := 73) (by decide) rfl mL_queries rfl dX12_isAsked_8 ?_
    refine mg_cast (nI qn) hqn ?_
    refine mg_iconst C (x := nI 1) rfl dX12_isAsked_11 ?_
    refine mg_isub C dX12_isAsked_12 ?_
    refine mg_dosi C (c_in l v f g y (nI 0) ((nI qn) - (nI 1))) mCal_in rfl ⟨by decide, by decide⟩ rfl (Nat.le_of_ble_eq_true rfl) dX12_isAsked_13 ?_
    refine mg_if_eqB C 23 (by decide) dX12_isAsked_16 (fun c_16 => ?_) (fun c_16 => ?_)
    · refine mg_iconst C (x := nI 0) rfl dX12_isAsked_23 ?_
      refine mg_cast (bI false) rfl ?_
      exact mg_zret C (bI_nar _) ⟨by first | (rw [decide_eq_false (p := ¬ x = -1) (fun h => h c_2)]; rfl) | (rw [decide_eq_true c_2]; unfold plB; rw [c_16]; rfl), rfl⟩ dX12_isAsked_24
    · refine mg_iconst C (x := nI 1) rfl dX12_isAsked_19 ?_
      refine mg_goto C 24 (by decide) dX12_isAsked_20 ?_
      refine mg_cast (bI true) rfl ?_
      exact mg_zret C (bI_nar _) ⟨by first | (rw [decide_eq_false (p := ¬ x = -1) (fun h => h c_2)]; rfl) | (rw [decide_eq_true c_2]; unfold plB; rw [c_16]; rfl), rfl⟩ dX12_isAsked_24
set_option maxHeartbeats 4000000 in
set_option maxRecDepth 100000 in
theorem c_strength (l : Launch) (v : Nat → Int32) (f : Nat → Nat → Int32) (g : Nat → Nat → Int64) (x : Nat) (hx : x ≤ 100) : mMi l yX12_strength cX12_strength 1 (some .int) 0 0 true [.int (nI x)] v f g (fun r_ u_ => r_ = nI (64 * x / (x + 1)) ∧ u_ = (v, f, g)) := by
  intro D cI cJ cZ a sz
  refine mg_body (by decide +kernel) rfl (Nat.le_of_ble_eq_true rfl) ?_
  intro p e s m args below meth c hsz C
  clear hsz
  generalize va_A (mW cI cJ cZ a v f g) sz = A at C ⊢
  refine mg_lv (lv' := [(0, .int (nI x))]) rfl ?_
  refine mg_bipush C (x := nI 64) rfl dX12_strength_0 ?_
  refine mg_iload_n C (i := 0) rfl 0 rfl dX12_strength_2 ?_
  refine mg_imulN C dX12_strength_3 ?_
  refine mg_iload_n C (i := 0) rfl 0 rfl dX12_strength_4 ?_
  refine mg_iconst C (x := nI 1) rfl dX12_strength_5 ?_
  refine mg_iaddN C dX12_strength_6 ?_
  refine mg_idivN C (by omega) (by omega) (by omega) dX12_strength_7 ?_
  exact mg_iret C ⟨by first | rfl | simp_all, rfl⟩ dX12_strength_8
set_option maxHeartbeats 4000000 in
set_option maxRecDepth 100000 in
theorem c_crashAt (l : Launch) (v : Nat → Int32) (f : Nat → Nat → Int32) (g : Nat → Nat → Int64) (x : Int32) (d : Bool) (hd : v 98 = bI d) : mMv l yX12_crashAt cX12_crashAt 2 none 1 23 false [.int x] v f g (fun u_ => ((inB x (nI 0) (nI 1000) && !d) = true → u_ = (upd (upd v 99 (goX (inB x (nI 0) (nI 1000)) (!d) true)) 97 x, f, g)) ∧ ((inB x (nI 0) (nI 1000) && !d) = false → u_ = (upd v 99 (goX (inB x (nI 0) (nI 1000)) (!d) true), f, g))) := by
  intro D cI cJ cZ a sz
  refine mg_body (by decide +kernel) rfl (Nat.le_of_ble_eq_true rfl) ?_
  intro p e s m args below meth c hsz C
  clear hsz
  generalize va_A (mW cI cJ cZ a v f g) sz = A at C ⊢
  refine mg_lv (lv' := [(0, .ref (a 0)), (1, .int x)]) rfl ?_
  refine mg_aload_n C (i := 0) rfl 0 rfl dX12_crashAt_0 ?_
  refine mg_iload_n C (i := 1) rfl 1 rfl dX12_crashAt_1 ?_
  refine mg_iconst C (x := nI 0) rfl dX12_crashAt_2 ?_
  refine mg_sipush C (x := nI 1000) rfl dX12_crashAt_3 ?_
  refine mg_dosi C (c_in l v f g x (nI 0) (nI 1000)) mCal_in rfl ⟨by decide, by decide⟩ rfl (Nat.le_of_ble_eq_true rfl) dX12_crashAt_6 ?_
  refine mg_aload_n C (i := 0) rfl 0 rfl dX12_crashAt_9 ?_
  refine mg_getI C (k := 98) (by decide) rfl mL_down rfl dX12_crashAt_10 ?_
  refine mg_cast (bI d) hd ?_
  refine mg_if_neB C 20 (by decide) dX12_crashAt_13 (fun c_13 => ?_) (fun c_13 => ?_)
  · refine mg_iconst C (x := nI 0) rfl dX12_crashAt_20 ?_
    refine mg_cast (bI (!d)) (by rw [c_13]; rfl) ?_
    refine mg_iconst C (x := nI 1) rfl dX12_crashAt_21 ?_
    refine mg_doi C (c_goes l v f g (inB x (nI 0) (nI 1000)) (!d) true) mCal_goes rfl ⟨by decide, by decide⟩ rfl (Nat.le_of_ble_eq_true rfl) dX12_crashAt_22 ?_
    refine mg_if_eqB C 33 (by decide) dX12_crashAt_25 (fun c_25 => ?_) (fun c_25 => ?_)
    · have h_25 : (inB x (nI 0) (nI 1000) && !d) = false := by simpa using c_25
      exact mg_vret C (by first | exact ⟨fun _ => rfl, fun h => absurd (h_25.symm.trans h) (by decide)⟩ | exact ⟨fun h => absurd (h_25.symm.trans h) (by decide), fun _ => rfl⟩) dX12_crashAt_33
    · have h_25 : (inB x (nI 0) (nI 1000) && !d) = true := by simpa using c_25
      refine mg_aload_n C (i := 0) rfl 0 rfl dX12_crashAt_28 ?_
      refine mg_iload_n C (i := 1) rfl 1 rfl dX12_crashAt_29 ?_
      refine mg_put C (k := 97) (by decide) rfl mL_crash rfl (by decide +kernel) mT_crash rfl rfl dX12_crashAt_30 ?_
      exact mg_vret C (by first | exact ⟨fun _ => rfl, fun h => absurd (h_25.symm.trans h) (by decide)⟩ | exact ⟨fun h => absurd (h_25.symm.trans h) (by decide), fun _ => rfl⟩) dX12_crashAt_33
  · refine mg_iconst C (x := nI 1) rfl dX12_crashAt_16 ?_
    refine mg_goto C 21 (by decide) dX12_crashAt_17 ?_
    refine mg_cast (bI (!d)) (by rw [c_13]; rfl) ?_
    refine mg_iconst C (x := nI 1) rfl dX12_crashAt_21 ?_
    refine mg_doi C (c_goes l v f g (inB x (nI 0) (nI 1000)) (!d) true) mCal_goes rfl ⟨by decide, by decide⟩ rfl (Nat.le_of_ble_eq_true rfl) dX12_crashAt_22 ?_
    refine mg_if_eqB C 33 (by decide) dX12_crashAt_25 (fun c_25 => ?_) (fun c_25 => ?_)
    · have h_25 : (inB x (nI 0) (nI 1000) && !d) = false := by simpa using c_25
      exact mg_vret C (by first | exact ⟨fun _ => rfl, fun h => absurd (h_25.symm.trans h) (by decide)⟩ | exact ⟨fun h => absurd (h_25.symm.trans h) (by decide), fun _ => rfl⟩) dX12_crashAt_33
    · have h_25 : (inB x (nI 0) (nI 1000) && !d) = true := by simpa using c_25
      refine mg_aload_n C (i := 0) rfl 0 rfl dX12_crashAt_28 ?_
      refine mg_iload_n C (i := 1) rfl 1 rfl dX12_crashAt_29 ?_
      refine mg_put C (k := 97) (by decide) rfl mL_crash rfl (by decide +kernel) mT_crash rfl rfl dX12_crashAt_30 ?_
      exact mg_vret C (by first | exact ⟨fun _ => rfl, fun h => absurd (h_25.symm.trans h) (by decide)⟩ | exact ⟨fun h => absurd (h_25.symm.trans h) (by decide), fun _ => rfl⟩) dX12_crashAt_33
set_option maxHeartbeats 4000000 in
set_option maxRecDepth 100000 in
theorem c_scraps (l : Launch) (v : Nat → Int32) (f : Nat → Nat → Int32) (g : Nat → Nat → Int64)   : mMv l yX12_scraps cX12_scraps 1 none 0 0 false [] v f g (fun u_ => u_ = (upd (upd v 71 (nI 0)) 72 (nI 0), sR f 48 (upR (f 48) 40 (nI 0)), g)) := by
  intro D cI cJ cZ a sz
  refine mg_body (by decide +kernel) rfl (Nat.le_of_ble_eq_true rfl) ?_
  intro p e s m args below meth c hsz C
  clear hsz
  generalize va_A (mW cI cJ cZ a v f g) sz = A at C ⊢
  refine mg_lv (lv' := [(0, .ref (a 0))]) rfl ?_
  refine mg_aload_n C (i := 0) rfl 0 rfl dX12_scraps_0 ?_
  refine mg_arr C 48 (by decide) (by decide) rfl mL_opsMany rfl dX12_scraps_1 ?_
  refine mg_bipush C (x := nI 40) rfl dX12_scraps_4 ?_
  refine mg_iconst C (x := nI 0) rfl dX12_scraps_6 ?_
  refine mg_iastore C (n := 41) 48 40 (by decide) (by decide) rfl rfl (by omega) (by decide) dX12_scraps_7 ?_
  refine mg_world (f' := (sR f 48 (upR (f 48) 40 (nI 0)))) rfl mU_new rfl ?_
  refine mg_aload_n C (i := 0) rfl 0 rfl dX12_scraps_8 ?_
  refine mg_iconst C (x := nI 0) rfl dX12_scraps_9 ?_
  refine mg_put C (k := 71) (by decide) rfl mL_leaves rfl (by decide +kernel) mT_leaves rfl rfl dX12_scraps_10 ?_
  refine mg_aload_n C (i := 0) rfl 0 rfl dX12_scraps_13 ?_
  refine mg_iconst C (x := nI 0) rfl dX12_scraps_14 ?_
  refine mg_put C (k := 72) (by decide) rfl mL_partsMany rfl (by decide +kernel) mT_partsMany rfl rfl dX12_scraps_15 ?_
  exact mg_vret C rfl dX12_scraps_18
set_option maxHeartbeats 4000000 in
set_option maxRecDepth 100000 in
theorem c_scrap (l : Launch) (v : Nat → Int32) (f : Nat → Nat → Int32) (g : Nat → Nat → Int64)   : mMi l yX12_scrap cX12_scrap 2 (some .int) 1 20 false [] v f g (fun r_ u_ => r_ = v 72 ∧ u_ = (upd (upd (upd v 99 (nI 0)) 71 (nI 0)) 72 (nI 0), sR f 48 (upR (f 48) 40 (nI 0)), g)) := by
  intro D cI cJ cZ a sz
  refine mg_body (by decide +kernel) rfl (Nat.le_of_ble_eq_true rfl) ?_
  intro p e s m args below meth c hsz C
  clear hsz
  generalize va_A (mW cI cJ cZ a v f g) sz = A at C ⊢
  refine mg_lv (lv' := [(0, .ref (a 0))]) rfl ?_
  refine mg_aload_n C (i := 0) rfl 0 rfl dX12_scrap_0 ?_
  refine mg_iconst C (x := nI 0) rfl dX12_scrap_1 ?_
  refine mg_put C (k := 99) (by decide) rfl mL_last rfl (by decide +kernel) mT_last rfl rfl dX12_scrap_2 ?_
  refine mg_aload_n C (i := 0) rfl 0 rfl dX12_scrap_5 ?_
  refine mg_getI C (k := 72) (by decide) rfl mL_partsMany rfl dX12_scrap_6 ?_
  refine mg_cast (v 72) rfl ?_
  refine mg_istore_n C (i := 1) (lv' := [(1, .int (v 72)), (0, .ref (a 0))]) rfl (Nat.le_of_ble_eq_true rfl) rfl dX12_scrap_9 ?_
  refine mg_aload_n C (i := 0) rfl 1 rfl dX12_scrap_10 ?_
  refine mg_dov C (c_scraps l (upd v 99 (nI 0)) f g ) mCal_scraps rfl ⟨by decide, by decide⟩ rfl (Nat.le_of_ble_eq_true rfl) dX12_scrap_11 ?_
  refine mg_iload_n C (i := 1) rfl 0 rfl dX12_scrap_14 ?_
  exact mg_iret C ⟨by first | rfl | simp_all, rfl⟩ dX12_scrap_15
