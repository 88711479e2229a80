/-! the reference: calls on a fresh machine -/
set_option maxHeartbeats 4000000 in
set_option maxRecDepth 100000 in
theorem w1_in (l : Launch) (v : Nat → Int32) (f : Nat → Nat → Int32) (g : Nat → Nat → Int64) (n1 : Nat) (h1 : n1 ≤ 31) : mMi l yX12_in cX12_in 3 (some .boolean) 0 0 true [.int (nI n1), .int (nI 32), .int (nI 126)] v f g (fun r_ u_ => r_ = (bI false) ∧ u_ = (v, f, g)) := by
  intro D cI cJ cZ a sz
  refine mg_body (by decide +kernel) rfl (Nat.le_of_ble_eq_true rfl) ?_
  intro p e s m args below meth c hsz C
  clear hsz
  generalize va_A (mW cI cJ cZ a v f g) sz = A at C ⊢
  refine mg_lv (lv' := [(0, .int (nI n1)), (1, .int (nI 32)), (2, .int (nI 126))]) rfl ?_
  refine mg_iload_n C (i := 0) rfl 0 rfl dX12_in_0 ?_
  refine mg_iload_n C (i := 1) rfl 1 rfl dX12_in_1 ?_
  refine mg_icmp_ltN C (by omega) (by omega) 14 (by decide) dX12_in_2 (fun c_2 => ?_) (fun c_ => absurd c_ (by omega))
  refine mg_iconst C (x := nI 0) rfl dX12_in_14 ?_
  refine mg_cast (bI false) rfl ?_
  exact mg_zret C (bI_nar _) ⟨rfl, rfl⟩ dX12_in_15
set_option maxHeartbeats 4000000 in
set_option maxRecDepth 100000 in
theorem w2_goes (l : Launch) (v : Nat → Int32) (f : Nat → Nat → Int32) (g : Nat → Nat → Int64) : mMi l yX12_goes cX12_goes 4 (some .boolean) 0 0 false [.int (bI false), .int (nI 1), .int (nI 1)] v f g (fun r_ u_ => r_ = (bI false) ∧ u_ = (upd v 99 (nI 1), f, g)) := by
  intro D cI cJ cZ a sz
  refine mg_body (by decide +kernel) rfl (Nat.le_of_ble_eq_true rfl) ?_
  intro p e s m args below meth c hsz C
  clear hsz
  generalize va_A (mW cI cJ cZ a v f g) sz = A at C ⊢
  refine mg_lv (lv' := [(0, .ref (a 0)), (1, .int (bI false)), (2, .int (nI 1)), (3, .int (nI 1))]) rfl ?_
  refine mg_aload_n C (i := 0) rfl 0 rfl dX12_goes_0 ?_
  refine mg_iload_n C (i := 1) rfl 1 rfl dX12_goes_1 ?_
  refine mg_if_neB C 9 (by decide) dX12_goes_2 (fun c_ => absurd c_ (by decide)) (fun c_2 => ?_)
  refine mg_iconst C (x := nI 1) rfl dX12_goes_5 ?_
  refine mg_goto C 26 (by decide) dX12_goes_6 ?_
  refine mg_put C (k := 99) (by decide) rfl mL_last rfl (by decide +kernel) mT_last rfl rfl dX12_goes_26 ?_
  refine mg_aload_n C (i := 0) rfl 0 rfl dX12_goes_29 ?_
  refine mg_getI C (k := 99) (by decide) rfl mL_last rfl dX12_goes_30 ?_
  refine mg_cast (nI 1) rfl ?_
  refine mg_if_neN C (by omega) 40 (by decide) dX12_goes_33 (fun c_33 => ?_) (fun c_ => absurd c_ (by omega))
  refine mg_iconst C (x := nI 0) rfl dX12_goes_40 ?_
  refine mg_cast (bI false) rfl ?_
  exact mg_zret C (bI_nar _) ⟨rfl, rfl⟩ dX12_goes_41
set_option maxHeartbeats 4000000 in
set_option maxRecDepth 100000 in
theorem w3_type (l : Launch) (v : Nat → Int32) (f : Nat → Nat → Int32) (g : Nat → Nat → Int64) (n1 : Nat) (h1 : n1 ≤ 31) (h2 : v 2 = (nI 0)) : mMi l yX12_type cX12_type 2 (some .int) 1 23 false [.int (nI n1)] v f g (fun r_ u_ => r_ = (nI 0) ∧ u_ = (upd v 99 (nI 1), f, g)) := by
  intro D cI cJ cZ a sz
  refine mg_body (by decide +kernel) rfl (Nat.le_of_ble_eq_true rfl) ?_
  intro p e s m args below meth c hsz C
  clear hsz
  generalize va_A (mW cI cJ cZ a v f g) sz = A at C ⊢
  refine mg_lv (lv' := [(0, .ref (a 0)), (1, .int (nI n1))]) rfl ?_
  refine mg_aload_n C (i := 0) rfl 0 rfl dX12_type_0 ?_
  refine mg_iload_n C (i := 1) rfl 1 rfl dX12_type_1 ?_
  refine mg_bipush C (x := nI 32) rfl dX12_type_2 ?_
  refine mg_bipush C (x := nI 126) rfl dX12_type_4 ?_
  refine mg_dosi C (w1_in l v f g n1 (by omega)) mCal_in rfl ⟨by decide, by decide⟩ rfl (Nat.le_of_ble_eq_true rfl) dX12_type_6 ?_
  refine mg_aload_n C (i := 0) rfl 0 rfl dX12_type_9 ?_
  refine mg_getI C (k := 2) (by decide) rfl mL_padded rfl dX12_type_10 ?_
  refine mg_cast (nI 0) h2 ?_
  refine mg_bipush C (x := nI 40) rfl dX12_type_13 ?_
  refine mg_icmp_geN C (by omega) (by omega) 22 (by decide) dX12_type_15 (fun c_ => absurd c_ (by omega)) (fun c_15 => ?_)
  refine mg_iconst C (x := nI 1) rfl dX12_type_18 ?_
  refine mg_goto C 23 (by decide) dX12_type_19 ?_
  refine mg_iconst C (x := nI 1) rfl dX12_type_23 ?_
  refine mg_doi C (w2_goes l v f g ) mCal_goes rfl ⟨by decide, by decide⟩ rfl (Nat.le_of_ble_eq_true rfl) dX12_type_24 ?_
  refine mg_if_neB C 32 (by decide) dX12_type_27 (fun c_ => absurd c_ (by decide)) (fun c_27 => ?_)
  refine mg_iconst C (x := nI 0) rfl dX12_type_30 ?_
  exact mg_iret C ⟨rfl, rfl⟩ dX12_type_31
set_option maxHeartbeats 4000000 in
set_option maxRecDepth 100000 in
theorem w4_thrown (l : Launch) (v : Nat → Int32) (f : Nat → Nat → Int32) (g : Nat → Nat → Int64) (h1 : v 99 = (nI 1)) : mMi l yX12_thrown cX12_thrown 1 (some .int) 0 0 false [] v f g (fun r_ u_ => r_ = (nI 1) ∧ u_ = (v, f, g)) := by
  intro D cI cJ cZ a sz
  refine mg_body (by decide +kernel) rfl (Nat.le_of_ble_eq_true rfl) ?_
  intro p e s m args below meth c hsz C
  clear hsz
  generalize va_A (mW cI cJ cZ a v f g) sz = A at C ⊢
  refine mg_lv (lv' := [(0, .ref (a 0))]) rfl ?_
  refine mg_aload_n C (i := 0) rfl 0 rfl dX12_thrown_0 ?_
  refine mg_getI C (k := 99) (by decide) rfl mL_last rfl dX12_thrown_1 ?_
  refine mg_cast (nI 1) h1 ?_
  exact mg_iret C ⟨rfl, rfl⟩ dX12_thrown_4
set_option maxHeartbeats 4000000 in
set_option maxRecDepth 100000 in
theorem w5_in (l : Launch) (v : Nat → Int32) (f : Nat → Nat → Int32) (g : Nat → Nat → Int64) (n1 : Nat) (h1 : 32 ≤ n1) (h2 : n1 ≤ 126) : mMi l yX12_in cX12_in 3 (some .boolean) 0 0 true [.int (nI n1), .int (nI 32), .int (nI 126)] v f g (fun r_ u_ => r_ = (bI true) ∧ u_ = (v, f, g)) := by
  intro D cI cJ cZ a sz
  refine mg_body (by decide +kernel) rfl (Nat.le_of_ble_eq_true rfl) ?_
  intro p e s m args below meth c hsz C
  clear hsz
  generalize va_A (mW cI cJ cZ a v f g) sz = A at C ⊢
  refine mg_lv (lv' := [(0, .int (nI n1)), (1, .int (nI 32)), (2, .int (nI 126))]) rfl ?_
  refine mg_iload_n C (i := 0) rfl 0 rfl dX12_in_0 ?_
  refine mg_iload_n C (i := 1) rfl 1 rfl dX12_in_1 ?_
  refine mg_icmp_ltN C (by omega) (by omega) 14 (by decide) dX12_in_2 (fun c_ => absurd c_ (by omega)) (fun c_2 => ?_)
  refine mg_iload_n C (i := 0) rfl 0 rfl dX12_in_5 ?_
  refine mg_iload_n C (i := 2) rfl 2 rfl dX12_in_6 ?_
  refine mg_icmp_gtN C (by omega) (by omega) 14 (by decide) dX12_in_7 (fun c_ => absurd c_ (by omega)) (fun c_7 => ?_)
  refine mg_iconst C (x := nI 1) rfl dX12_in_10 ?_
  refine mg_goto C 15 (by decide) dX12_in_11 ?_
  refine mg_cast (bI true) rfl ?_
  exact mg_zret C (bI_nar _) ⟨rfl, rfl⟩ dX12_in_15
set_option maxHeartbeats 4000000 in
set_option maxRecDepth 100000 in
theorem w6_goes (l : Launch) (v : Nat → Int32) (f : Nat → Nat → Int32) (g : Nat → Nat → Int64) : mMi l yX12_goes cX12_goes 4 (some .boolean) 0 0 false [.int (bI true), .int (nI 1), .int (nI 1)] v f g (fun r_ u_ => r_ = (bI true) ∧ u_ = (upd v 99 (nI 0), f, g)) := by
  intro D cI cJ cZ a sz
  refine mg_body (by decide +kernel) rfl (Nat.le_of_ble_eq_true rfl) ?_
  intro p e s m args below meth c hsz C
  clear hsz
  generalize va_A (mW cI cJ cZ a v f g) sz = A at C ⊢
  refine mg_lv (lv' := [(0, .ref (a 0)), (1, .int (bI true)), (2, .int (nI 1)), (3, .int (nI 1))]) rfl ?_
  refine mg_aload_n C (i := 0) rfl 0 rfl dX12_goes_0 ?_
  refine mg_iload_n C (i := 1) rfl 1 rfl dX12_goes_1 ?_
  refine mg_if_neB C 9 (by decide) dX12_goes_2 (fun c_2 => ?_) (fun c_ => absurd c_ (by decide))
  refine mg_iload_n C (i := 2) rfl 2 rfl dX12_goes_9 ?_
  refine mg_if_neN C (by omega) 17 (by decide) dX12_goes_10 (fun c_10 => ?_) (fun c_ => absurd c_ (by omega))
  refine mg_iload_n C (i := 3) rfl 3 rfl dX12_goes_17 ?_
  refine mg_if_eqN C (by omega) 25 (by decide) dX12_goes_18 (fun c_ => absurd c_ (by omega)) (fun c_18 => ?_)
  refine mg_iconst C (x := nI 0) rfl dX12_goes_21 ?_
  refine mg_goto C 26 (by decide) dX12_goes_22 ?_
  refine mg_put C (k := 99) (by decide) rfl mL_last rfl (by decide +kernel) mT_last rfl rfl dX12_goes_26 ?_
  refine mg_aload_n C (i := 0) rfl 0 rfl dX12_goes_29 ?_
  refine mg_getI C (k := 99) (by decide) rfl mL_last rfl dX12_goes_30 ?_
  refine mg_cast (nI 0) rfl ?_
  refine mg_if_neN C (by omega) 40 (by decide) dX12_goes_33 (fun c_ => absurd c_ (by omega)) (fun c_33 => ?_)
  refine mg_iconst C (x := nI 1) rfl dX12_goes_36 ?_
  refine mg_goto C 41 (by decide) dX12_goes_37 ?_
  refine mg_cast (bI true) rfl ?_
  exact mg_zret C (bI_nar _) ⟨rfl, rfl⟩ dX12_goes_41
set_option maxHeartbeats 4000000 in
set_option maxRecDepth 100000 in
theorem w7_type (l : Launch) (v : Nat → Int32) (f : Nat → Nat → Int32) (g : Nat → Nat → Int64) (n1 : Nat) (h1 : 32 ≤ n1) (h2 : n1 ≤ 126) (h3 : v 2 = (nI 0)) : mMi l yX12_type cX12_type 2 (some .int) 1 23 false [.int (nI n1)] v f g (fun r_ u_ => r_ = (nI 1) ∧ u_ = (upd (upd v 99 (nI 0)) 2 (nI 1), mU f 2 0 (nI n1), g)) := by
  intro D cI cJ cZ a sz
  refine mg_body (by decide +kernel) rfl (Nat.le_of_ble_eq_true rfl) ?_
  intro p e s m args below meth c hsz C
  clear hsz
  generalize va_A (mW cI cJ cZ a v f g) sz = A at C ⊢
  refine mg_lv (lv' := [(0, .ref (a 0)), (1, .int (nI n1))]) rfl ?_
  refine mg_aload_n C (i := 0) rfl 0 rfl dX12_type_0 ?_
  refine mg_iload_n C (i := 1) rfl 1 rfl dX12_type_1 ?_
  refine mg_bipush C (x := nI 32) rfl dX12_type_2 ?_
  refine mg_bipush C (x := nI 126) rfl dX12_type_4 ?_
  refine mg_dosi C (w5_in l v f g n1 (by omega) (by omega)) mCal_in rfl ⟨by decide, by decide⟩ rfl (Nat.le_of_ble_eq_true rfl) dX12_type_6 ?_
  refine mg_aload_n C (i := 0) rfl 0 rfl dX12_type_9 ?_
  refine mg_getI C (k := 2) (by decide) rfl mL_padded rfl dX12_type_10 ?_
  refine mg_cast (nI 0) h3 ?_
  refine mg_bipush C (x := nI 40) rfl dX12_type_13 ?_
  refine mg_icmp_geN C (by omega) (by omega) 22 (by decide) dX12_type_15 (fun c_ => absurd c_ (by omega)) (fun c_15 => ?_)
  refine mg_iconst C (x := nI 1) rfl dX12_type_18 ?_
  refine mg_goto C 23 (by decide) dX12_type_19 ?_
  refine mg_iconst C (x := nI 1) rfl dX12_type_23 ?_
  refine mg_doi C (w6_goes l v f g ) mCal_goes rfl ⟨by decide, by decide⟩ rfl (Nat.le_of_ble_eq_true rfl) dX12_type_24 ?_
  refine mg_if_neB C 32 (by decide) dX12_type_27 (fun c_27 => ?_) (fun c_ => absurd c_ (by decide))
  refine mg_aload_n C (i := 0) rfl 0 rfl dX12_type_32 ?_
  refine mg_arr C 2 (by decide) (by decide) rfl mL_pad rfl dX12_type_33 ?_
  refine mg_aload_n C (i := 0) rfl 0 rfl dX12_type_36 ?_
  refine mg_getI C (k := 2) (by decide) rfl mL_padded rfl dX12_type_37 ?_
  refine mg_cast (nI 0) h3 ?_
  refine mg_iload_n C (i := 1) rfl 1 rfl dX12_type_40 ?_
  refine mg_iastore C (n := 40) 2 0 (by decide) (by decide) rfl rfl (by omega) (by decide) dX12_type_41 ?_
  refine mg_aload_n C (i := 0) rfl 0 rfl dX12_type_42 ?_
  refine mg_dup C rfl dX12_type_43 ?_
  refine mg_getI C (k := 2) (by decide) rfl mL_padded rfl dX12_type_44 ?_
  refine mg_cast (nI 0) h3 ?_
  refine mg_iconst C (x := nI 1) rfl dX12_type_47 ?_
  refine mg_iadd C dX12_type_48 ?_
  refine mg_cast (nI 1) (by decide) ?_
  refine mg_put C (k := 2) (by decide) rfl mL_padded rfl (by decide +kernel) mT_padded rfl rfl dX12_type_49 ?_
  refine mg_aload_n C (i := 0) rfl 0 rfl dX12_type_52 ?_
  refine mg_getI C (k := 2) (by decide) rfl mL_padded rfl dX12_type_53 ?_
  refine mg_cast (nI 1) rfl ?_
  exact mg_iret C ⟨rfl, rfl⟩ dX12_type_56
set_option maxHeartbeats 4000000 in
set_option maxRecDepth 100000 in
theorem w8_thrown (l : Launch) (v : Nat → Int32) (f : Nat → Nat → Int32) (g : Nat → Nat → Int64) (h1 : v 99 = (nI 0)) : mMi l yX12_thrown cX12_thrown 1 (some .int) 0 0 false [] v f g (fun r_ u_ => r_ = (nI 0) ∧ u_ = (v, f, g)) := by
  intro D cI cJ cZ a sz
  refine mg_body (by decide +kernel) rfl (Nat.le_of_ble_eq_true rfl) ?_
  intro p e s m args below meth c hsz C
  clear hsz
  generalize va_A (mW cI cJ cZ a v f g) sz = A at C ⊢
  refine mg_lv (lv' := [(0, .ref (a 0))]) rfl ?_
  refine mg_aload_n C (i := 0) rfl 0 rfl dX12_thrown_0 ?_
  refine mg_getI C (k := 99) (by decide) rfl mL_last rfl dX12_thrown_1 ?_
  refine mg_cast (nI 0) h1 ?_
  exact mg_iret C ⟨rfl, rfl⟩ dX12_thrown_4
set_option maxHeartbeats 4000000 in
set_option maxRecDepth 100000 in
theorem w9_in (l : Launch) (v : Nat → Int32) (f : Nat → Nat → Int32) (g : Nat → Nat → Int64) (n1 : Nat) (h1 : 127 ≤ n1) (h2 : n1 ≤ 65535) : mMi l yX12_in cX12_in 3 (some .boolean) 0 0 true [.int (nI n1), .int (nI 32), .int (nI 126)] v f g (fun r_ u_ => r_ = (bI false) ∧ u_ = (v, f, g)) := by
  intro D cI cJ cZ a sz
  refine mg_body (by decide +kernel) rfl (Nat.le_of_ble_eq_true rfl) ?_
  intro p e s m args below meth c hsz C
  clear hsz
  generalize va_A (mW cI cJ cZ a v f g) sz = A at C ⊢
  refine mg_lv (lv' := [(0, .int (nI n1)), (1, .int (nI 32)), (2, .int (nI 126))]) rfl ?_
  refine mg_iload_n C (i := 0) rfl 0 rfl dX12_in_0 ?_
  refine mg_iload_n C (i := 1) rfl 1 rfl dX12_in_1 ?_
  refine mg_icmp_ltN C (by omega) (by omega) 14 (by decide) dX12_in_2 (fun c_ => absurd c_ (by omega)) (fun c_2 => ?_)
  refine mg_iload_n C (i := 0) rfl 0 rfl dX12_in_5 ?_
  refine mg_iload_n C (i := 2) rfl 2 rfl dX12_in_6 ?_
  refine mg_icmp_gtN C (by omega) (by omega) 14 (by decide) dX12_in_7 (fun c_7 => ?_) (fun c_ => absurd c_ (by omega))
  refine mg_iconst C (x := nI 0) rfl dX12_in_14 ?_
  refine mg_cast (bI false) rfl ?_
  exact mg_zret C (bI_nar _) ⟨rfl, rfl⟩ dX12_in_15
set_option maxHeartbeats 4000000 in
set_option maxRecDepth 100000 in
theorem w10_type (l : Launch) (v : Nat → Int32) (f : Nat → Nat → Int32) (g : Nat → Nat → Int64) (n1 : Nat) (h1 : 127 ≤ n1) (h2 : n1 ≤ 65535) (h3 : v 2 = (nI 0)) : mMi l yX12_type cX12_type 2 (some .int) 1 23 false [.int (nI n1)] v f g (fun r_ u_ => r_ = (nI 0) ∧ u_ = (upd v 99 (nI 1), f, g)) := by
  intro D cI cJ cZ a sz
  refine mg_body (by decide +kernel) rfl (Nat.le_of_ble_eq_true rfl) ?_
  intro p e s m args below meth c hsz C
  clear hsz
  generalize va_A (mW cI cJ cZ a v f g) sz = A at C ⊢
  refine mg_lv (lv' := [(0, .ref (a 0)), (1, .int (nI n1))]) rfl ?_
  refine mg_aload_n C (i := 0) rfl 0 rfl dX12_type_0 ?_
  refine mg_iload_n C (i := 1) rfl 1 rfl dX12_type_1 ?_
  refine mg_bipush C (x := nI 32) rfl dX12_type_2 ?_
  refine mg_bipush C (x := nI 126) rfl dX12_type_4 ?_
  refine mg_dosi C (w9_in l v f g n1 (by omega) (by omega)) mCal_in rfl ⟨by decide, by decide⟩ rfl (Nat.le_of_ble_eq_true rfl) dX12_type_6 ?_
  refine mg_aload_n C (i := 0) rfl 0 rfl dX12_type_9 ?_
  refine mg_getI C (k := 2) (by decide) rfl mL_padded rfl dX12_type_10 ?_
  refine mg_cast (nI 0) h3 ?_
  refine mg_bipush C (x := nI 40) rfl dX12_type_13 ?_
  refine mg_icmp_geN C (by omega) (by omega) 22 (by decide) dX12_type_15 (fun c_ => absurd c_ (by omega)) (fun c_15 => ?_)
  refine mg_iconst C (x := nI 1) rfl dX12_type_18 ?_
  refine mg_goto C 23 (by decide) dX12_type_19 ?_
  refine mg_iconst C (x := nI 1) rfl dX12_type_23 ?_
  refine mg_doi C (w2_goes l v f g ) mCal_goes rfl ⟨by decide, by decide⟩ rfl (Nat.le_of_ble_eq_true rfl) dX12_type_24 ?_
  refine mg_if_neB C 32 (by decide) dX12_type_27 (fun c_ => absurd c_ (by decide)) (fun c_27 => ?_)
  refine mg_iconst C (x := nI 0) rfl dX12_type_30 ?_
  exact mg_iret C ⟨rfl, rfl⟩ dX12_type_31
set_option maxHeartbeats 4000000 in
set_option maxRecDepth 100000 in
theorem w11_wipe (l : Launch) (v : Nat → Int32) (f : Nat → Nat → Int32) (g : Nat → Nat → Int64) (h1 : v 2 = (nI 0)) : mMi l yX12_wipe cX12_wipe 2 (some .int) 0 0 false [] v f g (fun r_ u_ => r_ = (nI 0) ∧ u_ = (upd (upd v 99 (nI 0)) 2 (nI 0), f, g)) := by
  intro D cI cJ cZ a sz
  refine mg_body (by decide +kernel) rfl (Nat.le_of_ble_eq_true rfl) ?_
  intro p e s m args below meth c hsz C
  clear hsz
  generalize va_A (mW cI cJ cZ a v f g) sz = A at C ⊢
  refine mg_lv (lv' := [(0, .ref (a 0))]) rfl ?_
  refine mg_aload_n C (i := 0) rfl 0 rfl dX12_wipe_0 ?_
  refine mg_iconst C (x := nI 0) rfl dX12_wipe_1 ?_
  refine mg_put C (k := 99) (by decide) rfl mL_last rfl (by decide +kernel) mT_last rfl rfl dX12_wipe_2 ?_
  refine mg_aload_n C (i := 0) rfl 0 rfl dX12_wipe_5 ?_
  refine mg_getI C (k := 2) (by decide) rfl mL_padded rfl dX12_wipe_6 ?_
  refine mg_cast (nI 0) h1 ?_
  refine mg_istore_n C (i := 1) (lv' := [(1, .int (nI 0)), (0, .ref (a 0))]) rfl (Nat.le_of_ble_eq_true rfl) rfl dX12_wipe_9 ?_
  refine mg_aload_n C (i := 0) rfl 1 rfl dX12_wipe_10 ?_
  refine mg_iconst C (x := nI 0) rfl dX12_wipe_11 ?_
  refine mg_put C (k := 2) (by decide) rfl mL_padded rfl (by decide +kernel) mT_padded rfl rfl dX12_wipe_12 ?_
  refine mg_iload_n C (i := 1) rfl 0 rfl dX12_wipe_15 ?_
  exact mg_iret C ⟨rfl, rfl⟩ dX12_wipe_16
set_option maxHeartbeats 4000000 in
set_option maxRecDepth 100000 in
theorem w12_reads (l : Launch) (v : Nat → Int32) (f : Nat → Nat → Int32) (g : Nat → Nat → Int64) (h1 : v 2 = (nI 0)) : mMv l yX12_reads cX12_reads 4 none 0 0 false [] v f g (fun u_ => u_ = (upd v 4 (nI 0), f, g)) := by
  intro D cI cJ cZ a sz
  refine mg_body (by decide +kernel) rfl (Nat.le_of_ble_eq_true rfl) ?_
  intro p e s m args below meth c hsz C
  clear hsz
  generalize va_A (mW cI cJ cZ a v f g) sz = A at C ⊢
  refine mg_lv (lv' := [(0, .ref (a 0))]) rfl ?_
  refine mg_aload_n C (i := 0) rfl 0 rfl dX12_reads_0 ?_
  refine mg_iconst C (x := nI 0) rfl dX12_reads_1 ?_
  refine mg_put C (k := 4) (by decide) rfl mL_worded rfl (by decide +kernel) mT_worded rfl rfl dX12_reads_2 ?_
  refine mg_iconst C (x := nI 0) rfl dX12_reads_5 ?_
  refine mg_istore_n C (i := 1) (lv' := [(1, .int (nI 0)), (0, .ref (a 0))]) rfl (Nat.le_of_ble_eq_true rfl) rfl dX12_reads_6 ?_
  refine mg_iconst C (x := nI 0) rfl dX12_reads_7 ?_
  refine mg_istore_n C (i := 2) (lv' := [(2, .int (nI 0)), (1, .int (nI 0)), (0, .ref (a 0))]) rfl (Nat.le_of_ble_eq_true rfl) rfl dX12_reads_8 ?_
  refine mg_iload_n C (i := 2) rfl 0 rfl dX12_reads_9 ?_
  refine mg_aload_n C (i := 0) rfl 2 rfl dX12_reads_10 ?_
  refine mg_getI C (k := 2) (by decide) rfl mL_padded rfl dX12_reads_11 ?_
  refine mg_cast (nI 0) h1 ?_
  refine mg_icmp_geN C (by omega) (by omega) 106 (by decide) dX12_reads_14 (fun c_14 => ?_) (fun c_ => absurd c_ (by omega))
  exact mg_vret C rfl dX12_reads_106
set_option maxHeartbeats 4000000 in
set_option maxRecDepth 100000 in
theorem w13_goes (l : Launch) (v : Nat → Int32) (f : Nat → Nat → Int32) (g : Nat → Nat → Int64) : mMi l yX12_goes cX12_goes 4 (some .boolean) 0 0 false [.int (nI 0), .int (nI 1), .int (nI 1)] v f g (fun r_ u_ => r_ = (bI false) ∧ u_ = (upd v 99 (nI 1), f, g)) := by
  intro D cI cJ cZ a sz
  refine mg_body (by decide +kernel) rfl (Nat.le_of_ble_eq_true rfl) ?_
  intro p e s m args below meth c hsz C
  clear hsz
  generalize va_A (mW cI cJ cZ a v f g) sz = A at C ⊢
  refine mg_lv (lv' := [(0, .ref (a 0)), (1, .int (nI 0)), (2, .int (nI 1)), (3, .int (nI 1))]) rfl ?_
  refine mg_aload_n C (i := 0) rfl 0 rfl dX12_goes_0 ?_
  refine mg_iload_n C (i := 1) rfl 1 rfl dX12_goes_1 ?_
  refine mg_if_neN C (by omega) 9 (by decide) dX12_goes_2 (fun c_ => absurd c_ (by omega)) (fun c_2 => ?_)
  refine mg_iconst C (x := nI 1) rfl dX12_goes_5 ?_
  refine mg_goto C 26 (by decide) dX12_goes_6 ?_
  refine mg_put C (k := 99) (by decide) rfl mL_last rfl (by decide +kernel) mT_last rfl rfl dX12_goes_26 ?_
  refine mg_aload_n C (i := 0) rfl 0 rfl dX12_goes_29 ?_
  refine mg_getI C (k := 99) (by decide) rfl mL_last rfl dX12_goes_30 ?_
  refine mg_cast (nI 1) rfl ?_
  refine mg_if_neN C (by omega) 40 (by decide) dX12_goes_33 (fun c_33 => ?_) (fun c_ => absurd c_ (by omega))
  refine mg_iconst C (x := nI 0) rfl dX12_goes_40 ?_
  refine mg_cast (bI false) rfl ?_
  exact mg_zret C (bI_nar _) ⟨rfl, rfl⟩ dX12_goes_41
set_option maxHeartbeats 4000000 in
set_option maxRecDepth 100000 in
theorem w14_stop (l : Launch) (v : Nat → Int32) (f : Nat → Nat → Int32) (g : Nat → Nat → Int64) (h1 : v 2 = (nI 0)) : mMi l yX12_stop cX12_stop 3 (some .int) 1 23 false [] v f g (fun r_ u_ => r_ = (nI 0) ∧ u_ = (upd (upd v 4 (nI 0)) 99 (nI 1), f, g)) := by
  intro D cI cJ cZ a sz
  refine mg_body (by decide +kernel) rfl (Nat.le_of_ble_eq_true rfl) ?_
  intro p e s m args below meth c hsz C
  clear hsz
  generalize va_A (mW cI cJ cZ a v f g) sz = A at C ⊢
  refine mg_lv (lv' := [(0, .ref (a 0))]) rfl ?_
  refine mg_aload_n C (i := 0) rfl 0 rfl dX12_stop_0 ?_
  refine mg_dov C (w12_reads l v f g h1) mCal_reads rfl ⟨by decide, by decide⟩ rfl (Nat.le_of_ble_eq_true rfl) dX12_stop_1 ?_
  refine mg_aload_n C (i := 0) rfl 0 rfl dX12_stop_4 ?_
  refine mg_aload_n C (i := 0) rfl 0 rfl dX12_stop_5 ?_
  refine mg_getI C (k := 4) (by decide) rfl mL_worded rfl dX12_stop_6 ?_
  refine mg_cast (nI 0) rfl ?_
  refine mg_iconst C (x := nI 1) rfl dX12_stop_9 ?_
  refine mg_icmp_neN C (by omega) (by omega) 33 (by decide) dX12_stop_10 (fun c_10 => ?_) (fun c_ => absurd c_ (by omega))
  refine mg_iconst C (x := nI 0) rfl dX12_stop_33 ?_
  refine mg_iconst C (x := nI 1) rfl dX12_stop_34 ?_
  refine mg_iconst C (x := nI 1) rfl dX12_stop_35 ?_
  refine mg_doi C (w13_goes l (upd v 4 (nI 0)) f g ) mCal_goes rfl ⟨by decide, by decide⟩ rfl (Nat.le_of_ble_eq_true rfl) dX12_stop_36 ?_
  refine mg_if_neB C 44 (by decide) dX12_stop_39 (fun c_ => absurd c_ (by decide)) (fun c_39 => ?_)
  refine mg_iconst C (x := nI 0) rfl dX12_stop_42 ?_
  exact mg_iret C ⟨rfl, rfl⟩ dX12_stop_43
set_option maxHeartbeats 4000000 in
set_option maxRecDepth 100000 in
theorem w15_synonym (l : Launch) (v : Nat → Int32) (f : Nat → Nat → Int32) (g : Nat → Nat → Int64) (h1 : v 2 = (nI 0)) : mMi l yX12_synonym cX12_synonym 1 (some .int) 1 23 false [] v f g (fun r_ u_ => r_ = (nI 0) ∧ u_ = (upd (upd v 4 (nI 0)) 99 (nI 1), f, g)) := by
  intro D cI cJ cZ a sz
  refine mg_body (by decide +kernel) rfl (Nat.le_of_ble_eq_true rfl) ?_
  intro p e s m args below meth c hsz C
  clear hsz
  generalize va_A (mW cI cJ cZ a v f g) sz = A at C ⊢
  refine mg_lv (lv' := [(0, .ref (a 0))]) rfl ?_
  refine mg_aload_n C (i := 0) rfl 0 rfl dX12_synonym_0 ?_
  refine mg_dov C (w12_reads l v f g h1) mCal_reads rfl ⟨by decide, by decide⟩ rfl (Nat.le_of_ble_eq_true rfl) dX12_synonym_1 ?_
  refine mg_aload_n C (i := 0) rfl 0 rfl dX12_synonym_4 ?_
  refine mg_aload_n C (i := 0) rfl 0 rfl dX12_synonym_5 ?_
  refine mg_getI C (k := 4) (by decide) rfl mL_worded rfl dX12_synonym_6 ?_
  refine mg_cast (nI 0) rfl ?_
  refine mg_iconst C (x := nI 2) rfl dX12_synonym_9 ?_
  refine mg_icmp_neN C (by omega) (by omega) 33 (by decide) dX12_synonym_10 (fun c_10 => ?_) (fun c_ => absurd c_ (by omega))
  refine mg_iconst C (x := nI 0) rfl dX12_synonym_33 ?_
  refine mg_iconst C (x := nI 1) rfl dX12_synonym_34 ?_
  refine mg_iconst C (x := nI 1) rfl dX12_synonym_35 ?_
  refine mg_doi C (w13_goes l (upd v 4 (nI 0)) f g ) mCal_goes rfl ⟨by decide, by decide⟩ rfl (Nat.le_of_ble_eq_true rfl) dX12_synonym_36 ?_
  refine mg_if_neB C 44 (by decide) dX12_synonym_39 (fun c_ => absurd c_ (by decide)) (fun c_39 => ?_)
  refine mg_iconst C (x := nI 0) rfl dX12_synonym_42 ?_
  exact mg_iret C ⟨rfl, rfl⟩ dX12_synonym_43
set_option maxHeartbeats 4000000 in
set_option maxRecDepth 100000 in
theorem w16_in (l : Launch) (v : Nat → Int32) (f : Nat → Nat → Int32) (g : Nat → Nat → Int64) (x1 : Int32) (h1 : x1 < 0) : mMi l yX12_in cX12_in 3 (some .boolean) 0 0 true [.int x1, .int (nI 0), .int (nI 1)] v f g (fun r_ u_ => r_ = (bI false) ∧ u_ = (v, f, g)) := by
  intro D cI cJ cZ a sz
  refine mg_body (by decide +kernel) rfl (Nat.le_of_ble_eq_true rfl) ?_
  intro p e s m args below meth c hsz C
  clear hsz
  generalize va_A (mW cI cJ cZ a v f g) sz = A at C ⊢
  refine mg_lv (lv' := [(0, .int x1), (1, .int (nI 0)), (2, .int (nI 1))]) rfl ?_
  refine mg_iload_n C (i := 0) rfl 0 rfl dX12_in_0 ?_
  refine mg_iload_n C (i := 1) rfl 1 rfl dX12_in_1 ?_
  refine mg_icmp_lt C 14 (by decide) dX12_in_2 (fun c_2 => ?_) (fun c_ => absurd (cneg_lt h1 (by omega)) c_)
  refine mg_iconst C (x := nI 0) rfl dX12_in_14 ?_
  refine mg_cast (bI false) rfl ?_
  exact mg_zret C (bI_nar _) ⟨rfl, rfl⟩ dX12_in_15
set_option maxHeartbeats 4000000 in
set_option maxRecDepth 100000 in
theorem w17_text (l : Launch) (v : Nat → Int32) (f : Nat → Nat → Int32) (g : Nat → Nat → Int64) (x1 : Int32) (h1 : x1 < 0) : mMi l yX12_text cX12_text 7 (some .int) 1 23 false [.int x1] v f g (fun r_ u_ => r_ = (nI 0) ∧ u_ = (upd v 99 (nI 1), f, g)) := by
  intro D cI cJ cZ a sz
  refine mg_body (by decide +kernel) rfl (Nat.le_of_ble_eq_true rfl) ?_
  intro p e s m args below meth c hsz C
  clear hsz
  generalize va_A (mW cI cJ cZ a v f g) sz = A at C ⊢
  refine mg_lv (lv' := [(0, .ref (a 0)), (1, .int x1)]) rfl ?_
  refine mg_aload_n C (i := 0) rfl 0 rfl dX12_text_0 ?_
  refine mg_iload_n C (i := 1) rfl 1 rfl dX12_text_1 ?_
  refine mg_iconst C (x := nI 0) rfl dX12_text_2 ?_
  refine mg_iconst C (x := nI 1) rfl dX12_text_3 ?_
  refine mg_dosi C (w16_in l v f g x1 h1) mCal_in rfl ⟨by decide, by decide⟩ rfl (Nat.le_of_ble_eq_true rfl) dX12_text_4 ?_
  refine mg_iconst C (x := nI 1) rfl dX12_text_7 ?_
  refine mg_iconst C (x := nI 1) rfl dX12_text_8 ?_
  refine mg_doi C (w2_goes l v f g ) mCal_goes rfl ⟨by decide, by decide⟩ rfl (Nat.le_of_ble_eq_true rfl) dX12_text_9 ?_
  refine mg_if_neB C 17 (by decide) dX12_text_12 (fun c_ => absurd c_ (by decide)) (fun c_12 => ?_)
  refine mg_iconst C (x := nI 0) rfl dX12_text_15 ?_
  exact mg_iret C ⟨rfl, rfl⟩ dX12_text_16
set_option maxHeartbeats 4000000 in
set_option maxRecDepth 100000 in
theorem w18_in (l : Launch) (v : Nat → Int32) (f : Nat → Nat → Int32) (g : Nat → Nat → Int64) : mMi l yX12_in cX12_in 3 (some .boolean) 0 0 true [.int (nI 0), .int (nI 0), .int (nI 1)] v f g (fun r_ u_ => r_ = (bI true) ∧ u_ = (v, f, g)) := by
  intro D cI cJ cZ a sz
  refine mg_body (by decide +kernel) rfl (Nat.le_of_ble_eq_true rfl) ?_
  intro p e s m args below meth c hsz C
  clear hsz
  generalize va_A (mW cI cJ cZ a v f g) sz = A at C ⊢
  refine mg_lv (lv' := [(0, .int (nI 0)), (1, .int (nI 0)), (2, .int (nI 1))]) rfl ?_
  refine mg_iload_n C (i := 0) rfl 0 rfl dX12_in_0 ?_
  refine mg_iload_n C (i := 1) rfl 1 rfl dX12_in_1 ?_
  refine mg_icmp_ltN C (by omega) (by omega) 14 (by decide) dX12_in_2 (fun c_ => absurd c_ (by omega)) (fun c_2 => ?_)
  refine mg_iload_n C (i := 0) rfl 0 rfl dX12_in_5 ?_
  refine mg_iload_n C (i := 2) rfl 2 rfl dX12_in_6 ?_
  refine mg_icmp_gtN C (by omega) (by omega) 14 (by decide) dX12_in_7 (fun c_ => absurd c_ (by omega)) (fun c_7 => ?_)
  refine mg_iconst C (x := nI 1) rfl dX12_in_10 ?_
  refine mg_goto C 15 (by decide) dX12_in_11 ?_
  refine mg_cast (bI true) rfl ?_
  exact mg_zret C (bI_nar _) ⟨rfl, rfl⟩ dX12_in_15
set_option maxHeartbeats 4000000 in
set_option maxRecDepth 100000 in
theorem w19_text (l : Launch) (v : Nat → Int32) (f : Nat → Nat → Int32) (g : Nat → Nat → Int64) (h1 : v 2 = (nI 0)) : mMi l yX12_text cX12_text 7 (some .int) 1 23 false [.int (nI 0)] v f g (fun r_ u_ => r_ = (nI 0) ∧ u_ = (upd (upd (upd v 99 (nI 0)) 4 (nI 0)) 2 (nI 0), mU f 8 0 (nI 0), g)) := by
  intro D cI cJ cZ a sz
  refine mg_body (by decide +kernel) rfl (Nat.le_of_ble_eq_true rfl) ?_
  intro p e s m args below meth c hsz C
  clear hsz
  generalize va_A (mW cI cJ cZ a v f g) sz = A at C ⊢
  refine mg_lv (lv' := [(0, .ref (a 0)), (1, .int (nI 0))]) rfl ?_
  refine mg_aload_n C (i := 0) rfl 0 rfl dX12_text_0 ?_
  refine mg_iload_n C (i := 1) rfl 1 rfl dX12_text_1 ?_
  refine mg_iconst C (x := nI 0) rfl dX12_text_2 ?_
  refine mg_iconst C (x := nI 1) rfl dX12_text_3 ?_
  refine mg_dosi C (w18_in l v f g ) mCal_in rfl ⟨by decide, by decide⟩ rfl (Nat.le_of_ble_eq_true rfl) dX12_text_4 ?_
  refine mg_iconst C (x := nI 1) rfl dX12_text_7 ?_
  refine mg_iconst C (x := nI 1) rfl dX12_text_8 ?_
  refine mg_doi C (w6_goes l v f g ) mCal_goes rfl ⟨by decide, by decide⟩ rfl (Nat.le_of_ble_eq_true rfl) dX12_text_9 ?_
  refine mg_if_neB C 17 (by decide) dX12_text_12 (fun c_12 => ?_) (fun c_ => absurd c_ (by decide))
  refine mg_iconst C (x := nI 0) rfl dX12_text_17 ?_
  refine mg_istore_n C (i := 2) (lv' := [(2, .int (nI 0)), (0, .ref (a 0)), (1, .int (nI 0))]) rfl (Nat.le_of_ble_eq_true rfl) rfl dX12_text_18 ?_
  refine mg_aload_n C (i := 0) rfl 1 rfl dX12_text_19 ?_
  refine mg_dov C (w12_reads l (upd v 99 (nI 0)) f g h1) mCal_reads rfl ⟨by decide, by decide⟩ rfl (Nat.le_of_ble_eq_true rfl) dX12_text_20 ?_
  refine mg_aload_n C (i := 0) rfl 1 rfl dX12_text_23 ?_
  refine mg_arr C 8 (by decide) (by decide) rfl mL_draftPlaces rfl dX12_text_24 ?_
  refine mg_iload_n C (i := 1) rfl 2 rfl dX12_text_27 ?_
  refine mg_aload_n C (i := 0) rfl 1 rfl dX12_text_28 ?_
  refine mg_getI C (k := 4) (by decide) rfl mL_worded rfl dX12_text_29 ?_
  refine mg_cast (nI 0) rfl ?_
  refine mg_iastore C (n := 2) 8 0 (by decide) (by decide) rfl rfl (by omega) (by decide) dX12_text_32 ?_
  refine mg_iconst C (x := nI 0) rfl dX12_text_33 ?_
  refine mg_istore_n C (i := 3) (lv' := [(3, .int (nI 0)), (2, .int (nI 0)), (0, .ref (a 0)), (1, .int (nI 0))]) rfl (Nat.le_of_ble_eq_true rfl) rfl dX12_text_34 ?_
  refine mg_iload_n C (i := 3) rfl 0 rfl dX12_text_35 ?_
  refine mg_aload_n C (i := 0) rfl 2 rfl dX12_text_36 ?_
  refine mg_getI C (k := 4) (by decide) rfl mL_worded rfl dX12_text_37 ?_
  refine mg_cast (nI 0) rfl ?_
  refine mg_icmp_geN C (by omega) (by omega) 137 (by decide) dX12_text_40 (fun c_40 => ?_) (fun c_ => absurd c_ (by omega))
  refine mg_aload_n C (i := 0) rfl 2 rfl dX12_text_137 ?_
  refine mg_iconst C (x := nI 0) rfl dX12_text_138 ?_
  refine mg_put C (k := 2) (by decide) rfl mL_padded rfl (by decide +kernel) mT_padded rfl rfl dX12_text_139 ?_
  refine mg_iload_n C (i := 2) rfl 1 rfl dX12_text_142 ?_
  exact mg_iret C ⟨rfl, rfl⟩ dX12_text_143
set_option maxHeartbeats 4000000 in
set_option maxRecDepth 100000 in
theorem w20_in (l : Launch) (v : Nat → Int32) (f : Nat → Nat → Int32) (g : Nat → Nat → Int64) : mMi l yX12_in cX12_in 3 (some .boolean) 0 0 true [.int (nI 1), .int (nI 0), .int (nI 1)] v f g (fun r_ u_ => r_ = (bI true) ∧ u_ = (v, f, g)) := by
  intro D cI cJ cZ a sz
  refine mg_body (by decide +kernel) rfl (Nat.le_of_ble_eq_true rfl) ?_
  intro p e s m args below meth c hsz C
  clear hsz
  generalize va_A (mW cI cJ cZ a v f g) sz = A at C ⊢
  refine mg_lv (lv' := [(0, .int (nI 1)), (1, .int (nI 0)), (2, .int (nI 1))]) rfl ?_
  refine mg_iload_n C (i := 0) rfl 0 rfl dX12_in_0 ?_
  refine mg_iload_n C (i := 1) rfl 1 rfl dX12_in_1 ?_
  refine mg_icmp_ltN C (by omega) (by omega) 14 (by decide) dX12_in_2 (fun c_ => absurd c_ (by omega)) (fun c_2 => ?_)
  refine mg_iload_n C (i := 0) rfl 0 rfl dX12_in_5 ?_
  refine mg_iload_n C (i := 2) rfl 2 rfl dX12_in_6 ?_
  refine mg_icmp_gtN C (by omega) (by omega) 14 (by decide) dX12_in_7 (fun c_ => absurd c_ (by omega)) (fun c_7 => ?_)
  refine mg_iconst C (x := nI 1) rfl dX12_in_10 ?_
  refine mg_goto C 15 (by decide) dX12_in_11 ?_
  refine mg_cast (bI true) rfl ?_
  exact mg_zret C (bI_nar _) ⟨rfl, rfl⟩ dX12_in_15
set_option maxHeartbeats 4000000 in
set_option maxRecDepth 100000 in
theorem w21_text (l : Launch) (v : Nat → Int32) (f : Nat → Nat → Int32) (g : Nat → Nat → Int64) (h1 : v 2 = (nI 0)) : mMi l yX12_text cX12_text 7 (some .int) 1 23 false [.int (nI 1)] v f g (fun r_ u_ => r_ = (nI 0) ∧ u_ = (upd (upd (upd v 99 (nI 0)) 4 (nI 0)) 2 (nI 0), mU f 8 1 (nI 0), g)) := by
  intro D cI cJ cZ a sz
  refine mg_body (by decide +kernel) rfl (Nat.le_of_ble_eq_true rfl) ?_
  intro p e s m args below meth c hsz C
  clear hsz
  generalize va_A (mW cI cJ cZ a v f g) sz = A at C ⊢
  refine mg_lv (lv' := [(0, .ref (a 0)), (1, .int (nI 1))]) rfl ?_
  refine mg_aload_n C (i := 0) rfl 0 rfl dX12_text_0 ?_
  refine mg_iload_n C (i := 1) rfl 1 rfl dX12_text_1 ?_
  refine mg_iconst C (x := nI 0) rfl dX12_text_2 ?_
  refine mg_iconst C (x := nI 1) rfl dX12_text_3 ?_
  refine mg_dosi C (w20_in l v f g ) mCal_in rfl ⟨by decide, by decide⟩ rfl (Nat.le_of_ble_eq_true rfl) dX12_text_4 ?_
  refine mg_iconst C (x := nI 1) rfl dX12_text_7 ?_
  refine mg_iconst C (x := nI 1) rfl dX12_text_8 ?_
  refine mg_doi C (w6_goes l v f g ) mCal_goes rfl ⟨by decide, by decide⟩ rfl (Nat.le_of_ble_eq_true rfl) dX12_text_9 ?_
  refine mg_if_neB C 17 (by decide) dX12_text_12 (fun c_12 => ?_) (fun c_ => absurd c_ (by decide))
  refine mg_iconst C (x := nI 0) rfl dX12_text_17 ?_
  refine mg_istore_n C (i := 2) (lv' := [(2, .int (nI 0)), (0, .ref (a 0)), (1, .int (nI 1))]) rfl (Nat.le_of_ble_eq_true rfl) rfl dX12_text_18 ?_
  refine mg_aload_n C (i := 0) rfl 1 rfl dX12_text_19 ?_
  refine mg_dov C (w12_reads l (upd v 99 (nI 0)) f g h1) mCal_reads rfl ⟨by decide, by decide⟩ rfl (Nat.le_of_ble_eq_true rfl) dX12_text_20 ?_
  refine mg_aload_n C (i := 0) rfl 1 rfl dX12_text_23 ?_
  refine mg_arr C 8 (by decide) (by decide) rfl mL_draftPlaces rfl dX12_text_24 ?_
  refine mg_iload_n C (i := 1) rfl 2 rfl dX12_text_27 ?_
  refine mg_aload_n C (i := 0) rfl 1 rfl dX12_text_28 ?_
  refine mg_getI C (k := 4) (by decide) rfl mL_worded rfl dX12_text_29 ?_
  refine mg_cast (nI 0) rfl ?_
  refine mg_iastore C (n := 2) 8 1 (by decide) (by decide) rfl rfl (by omega) (by decide) dX12_text_32 ?_
  refine mg_iconst C (x := nI 0) rfl dX12_text_33 ?_
  refine mg_istore_n C (i := 3) (lv' := [(3, .int (nI 0)), (2, .int (nI 0)), (0, .ref (a 0)), (1, .int (nI 1))]) rfl (Nat.le_of_ble_eq_true rfl) rfl dX12_text_34 ?_
  refine mg_iload_n C (i := 3) rfl 0 rfl dX12_text_35 ?_
  refine mg_aload_n C (i := 0) rfl 2 rfl dX12_text_36 ?_
  refine mg_getI C (k := 4) (by decide) rfl mL_worded rfl dX12_text_37 ?_
  refine mg_cast (nI 0) rfl ?_
  refine mg_icmp_geN C (by omega) (by omega) 137 (by decide) dX12_text_40 (fun c_40 => ?_) (fun c_ => absurd c_ (by omega))
  refine mg_aload_n C (i := 0) rfl 2 rfl dX12_text_137 ?_
  refine mg_iconst C (x := nI 0) rfl dX12_text_138 ?_
  refine mg_put C (k := 2) (by decide) rfl mL_padded rfl (by decide +kernel) mT_padded rfl rfl dX12_text_139 ?_
  refine mg_iload_n C (i := 2) rfl 1 rfl dX12_text_142 ?_
  exact mg_iret C ⟨rfl, rfl⟩ dX12_text_143
set_option maxHeartbeats 4000000 in
set_option maxRecDepth 100000 in
theorem w22_in (l : Launch) (v : Nat → Int32) (f : Nat → Nat → Int32) (g : Nat → Nat → Int64) (n1 : Nat) (h1 : 2 ≤ n1) (h2 : n1 ≤ 2147483647) : mMi l yX12_in cX12_in 3 (some .boolean) 0 0 true [.int (nI n1), .int (nI 0), .int (nI 1)] v f g (fun r_ u_ => r_ = (bI false) ∧ u_ = (v, f, g)) := by
  intro D cI cJ cZ a sz
  refine mg_body (by decide +kernel) rfl (Nat.le_of_ble_eq_true rfl) ?_
  intro p e s m args below meth c hsz C
  clear hsz
  generalize va_A (mW cI cJ cZ a v f g) sz = A at C ⊢
  refine mg_lv (lv' := [(0, .int (nI n1)), (1, .int (nI 0)), (2, .int (nI 1))]) rfl ?_
  refine mg_iload_n C (i := 0) rfl 0 rfl dX12_in_0 ?_
  refine mg_iload_n C (i := 1) rfl 1 rfl dX12_in_1 ?_
  refine mg_icmp_ltN C (by omega) (by omega) 14 (by decide) dX12_in_2 (fun c_ => absurd c_ (by omega)) (fun c_2 => ?_)
  refine mg_iload_n C (i := 0) rfl 0 rfl dX12_in_5 ?_
  refine mg_iload_n C (i := 2) rfl 2 rfl dX12_in_6 ?_
  refine mg_icmp_gtN C (by omega) (by omega) 14 (by decide) dX12_in_7 (fun c_7 => ?_) (fun c_ => absurd c_ (by omega))
  refine mg_iconst C (x := nI 0) rfl dX12_in_14 ?_
  refine mg_cast (bI false) rfl ?_
  exact mg_zret C (bI_nar _) ⟨rfl, rfl⟩ dX12_in_15
set_option maxHeartbeats 4000000 in
set_option maxRecDepth 100000 in
theorem w23_text (l : Launch) (v : Nat → Int32) (f : Nat → Nat → Int32) (g : Nat → Nat → Int64) (n1 : Nat) (h1 : 2 ≤ n1) (h2 : n1 ≤ 2147483647) : mMi l yX12_text cX12_text 7 (some .int) 1 23 false [.int (nI n1)] v f g (fun r_ u_ => r_ = (nI 0) ∧ u_ = (upd v 99 (nI 1), f, g)) := by
  intro D cI cJ cZ a sz
  refine mg_body (by decide +kernel) rfl (Nat.le_of_ble_eq_true rfl) ?_
  intro p e s m args below meth c hsz C
  clear hsz
  generalize va_A (mW cI cJ cZ a v f g) sz = A at C ⊢
  refine mg_lv (lv' := [(0, .ref (a 0)), (1, .int (nI n1))]) rfl ?_
  refine mg_aload_n C (i := 0) rfl 0 rfl dX12_text_0 ?_
  refine mg_iload_n C (i := 1) rfl 1 rfl dX12_text_1 ?_
  refine mg_iconst C (x := nI 0) rfl dX12_text_2 ?_
  refine mg_iconst C (x := nI 1) rfl dX12_text_3 ?_
  refine mg_dosi C (w22_in l v f g n1 (by omega) (by omega)) mCal_in rfl ⟨by decide, by decide⟩ rfl (Nat.le_of_ble_eq_true rfl) dX12_text_4 ?_
  refine mg_iconst C (x := nI 1) rfl dX12_text_7 ?_
  refine mg_iconst C (x := nI 1) rfl dX12_text_8 ?_
  refine mg_doi C (w2_goes l v f g ) mCal_goes rfl ⟨by decide, by decide⟩ rfl (Nat.le_of_ble_eq_true rfl) dX12_text_9 ?_
  refine mg_if_neB C 17 (by decide) dX12_text_12 (fun c_ => absurd c_ (by decide)) (fun c_12 => ?_)
  refine mg_iconst C (x := nI 0) rfl dX12_text_15 ?_
  exact mg_iret C ⟨rfl, rfl⟩ dX12_text_16
set_option maxHeartbeats 4000000 in
set_option maxRecDepth 100000 in
theorem w24_in (l : Launch) (v : Nat → Int32) (f : Nat → Nat → Int32) (g : Nat → Nat → Int64) (x1 : Int32) (h1 : x1 < 0) : mMi l yX12_in cX12_in 3 (some .boolean) 0 0 true [.int x1, .int (nI 0), .int (nI 9)] v f g (fun r_ u_ => r_ = (bI false) ∧ u_ = (v, f, g)) := by
  intro D cI cJ cZ a sz
  refine mg_body (by decide +kernel) rfl (Nat.le_of_ble_eq_true rfl) ?_
  intro p e s m args below meth c hsz C
  clear hsz
  generalize va_A (mW cI cJ cZ a v f g) sz = A at C ⊢
  refine mg_lv (lv' := [(0, .int x1), (1, .int (nI 0)), (2, .int (nI 9))]) rfl ?_
  refine mg_iload_n C (i := 0) rfl 0 rfl dX12_in_0 ?_
  refine mg_iload_n C (i := 1) rfl 1 rfl dX12_in_1 ?_
  refine mg_icmp_lt C 14 (by decide) dX12_in_2 (fun c_2 => ?_) (fun c_ => absurd (cneg_lt h1 (by omega)) c_)
  refine mg_iconst C (x := nI 0) rfl dX12_in_14 ?_
  refine mg_cast (bI false) rfl ?_
  exact mg_zret C (bI_nar _) ⟨rfl, rfl⟩ dX12_in_15
set_option maxHeartbeats 4000000 in
set_option maxRecDepth 100000 in
theorem w25_columns (l : Launch) (v : Nat → Int32) (f : Nat → Nat → Int32) (g : Nat → Nat → Int64) (x1 x2 : Int32) (h1 : x1 < 0) : mMv l yX12_columns cX12_columns 3 none 1 23 false [.int x1, .int x2] v f g (fun u_ => u_ = (upd v 99 (nI 1), f, g)) := by
  intro D cI cJ cZ a sz
  refine mg_body (by decide +kernel) rfl (Nat.le_of_ble_eq_true rfl) ?_
  intro p e s m args below meth c hsz C
  clear hsz
  generalize va_A (mW cI cJ cZ a v f g) sz = A at C ⊢
  refine mg_lv (lv' := [(0, .ref (a 0)), (1, .int x1), (2, .int x2)]) rfl ?_
  refine mg_aload_n C (i := 0) rfl 0 rfl dX12_columns_0 ?_
  refine mg_iload_n C (i := 1) rfl 1 rfl dX12_columns_1 ?_
  refine mg_iconst C (x := nI 0) rfl dX12_columns_2 ?_
  refine mg_bipush C (x := nI 9) rfl dX12_columns_3 ?_
  refine mg_dosi C (w24_in l v f g x1 h1) mCal_in rfl ⟨by decide, by decide⟩ rfl (Nat.le_of_ble_eq_true rfl) dX12_columns_5 ?_
  refine mg_if_eqB C 26 (by decide) dX12_columns_8 (fun c_8 => ?_) (fun c_ => absurd c_ (by decide))
  refine mg_iconst C (x := nI 0) rfl dX12_columns_26 ?_
  refine mg_iconst C (x := nI 1) rfl dX12_columns_27 ?_
  refine mg_iconst C (x := nI 1) rfl dX12_columns_28 ?_
  refine mg_doi C (w13_goes l v f g ) mCal_goes rfl ⟨by decide, by decide⟩ rfl (Nat.le_of_ble_eq_true rfl) dX12_columns_29 ?_
  refine mg_if_eqB C 45 (by decide) dX12_columns_32 (fun c_32 => ?_) (fun c_ => absurd c_ (by decide))
  exact mg_vret C rfl dX12_columns_45
set_option maxHeartbeats 4000000 in
set_option maxRecDepth 100000 in
theorem w26_in (l : Launch) (v : Nat → Int32) (f : Nat → Nat → Int32) (g : Nat → Nat → Int64) (n1 : Nat) (h1 : n1 ≤ 9) : mMi l yX12_in cX12_in 3 (some .boolean) 0 0 true [.int (nI n1), .int (nI 0), .int (nI 9)] v f g (fun r_ u_ => r_ = (bI true) ∧ u_ = (v, f, g)) := by
  intro D cI cJ cZ a sz
  refine mg_body (by decide +kernel) rfl (Nat.le_of_ble_eq_true rfl) ?_
  intro p e s m args below meth c hsz C
  clear hsz
  generalize va_A (mW cI cJ cZ a v f g) sz = A at C ⊢
  refine mg_lv (lv' := [(0, .int (nI n1)), (1, .int (nI 0)), (2, .int (nI 9))]) rfl ?_
  refine mg_iload_n C (i := 0) rfl 0 rfl dX12_in_0 ?_
  refine mg_iload_n C (i := 1) rfl 1 rfl dX12_in_1 ?_
  refine mg_icmp_ltN C (by omega) (by omega) 14 (by decide) dX12_in_2 (fun c_ => absurd c_ (by omega)) (fun c_2 => ?_)
  refine mg_iload_n C (i := 0) rfl 0 rfl dX12_in_5 ?_
  refine mg_iload_n C (i := 2) rfl 2 rfl dX12_in_6 ?_
  refine mg_icmp_gtN C (by omega) (by omega) 14 (by decide) dX12_in_7 (fun c_ => absurd c_ (by omega)) (fun c_7 => ?_)
  refine mg_iconst C (x := nI 1) rfl dX12_in_10 ?_
  refine mg_goto C 15 (by decide) dX12_in_11 ?_
  refine mg_cast (bI true) rfl ?_
  exact mg_zret C (bI_nar _) ⟨rfl, rfl⟩ dX12_in_15
set_option maxHeartbeats 4000000 in
set_option maxRecDepth 100000 in
theorem w27_in (l : Launch) (v : Nat → Int32) (f : Nat → Nat → Int32) (g : Nat → Nat → Int64) (x1 : Int32) (h1 : x1 < 0) : mMi l yX12_in cX12_in 3 (some .boolean) 0 0 true [.int x1, .int (nI 0), .int (nI 999)] v f g (fun r_ u_ => r_ = (bI false) ∧ u_ = (v, f, g)) := by
  intro D cI cJ cZ a sz
  refine mg_body (by decide +kernel) rfl (Nat.le_of_ble_eq_true rfl) ?_
  intro p e s m args below meth c hsz C
  clear hsz
  generalize va_A (mW cI cJ cZ a v f g) sz = A at C ⊢
  refine mg_lv (lv' := [(0, .int x1), (1, .int (nI 0)), (2, .int (nI 999))]) rfl ?_
  refine mg_iload_n C (i := 0) rfl 0 rfl dX12_in_0 ?_
  refine mg_iload_n C (i := 1) rfl 1 rfl dX12_in_1 ?_
  refine mg_icmp_lt C 14 (by decide) dX12_in_2 (fun c_2 => ?_) (fun c_ => absurd (cneg_lt h1 (by omega)) c_)
  refine mg_iconst C (x := nI 0) rfl dX12_in_14 ?_
  refine mg_cast (bI false) rfl ?_
  exact mg_zret C (bI_nar _) ⟨rfl, rfl⟩ dX12_in_15
set_option maxHeartbeats 4000000 in
set_option maxRecDepth 100000 in
theorem w28_columns (l : Launch) (v : Nat → Int32) (f : Nat → Nat → Int32) (g : Nat → Nat → Int64) (n1 : Nat) (x1 : Int32) (h1 : n1 ≤ 9) (h2 : x1 < 0) : mMv l yX12_columns cX12_columns 3 none 1 23 false [.int (nI n1), .int x1] v f g (fun u_ => u_ = (upd v 99 (nI 1), f, g)) := by
  intro D cI cJ cZ a sz
  refine mg_body (by decide +kernel) rfl (Nat.le_of_ble_eq_true rfl) ?_
  intro p e s m args below meth c hsz C
  clear hsz
  generalize va_A (mW cI cJ cZ a v f g) sz = A at C ⊢
  refine mg_lv (lv' := [(0, .ref (a 0)), (1, .int (nI n1)), (2, .int x1)]) rfl ?_
  refine mg_aload_n C (i := 0) rfl 0 rfl dX12_columns_0 ?_
  refine mg_iload_n C (i := 1) rfl 1 rfl dX12_columns_1 ?_
  refine mg_iconst C (x := nI 0) rfl dX12_columns_2 ?_
  refine mg_bipush C (x := nI 9) rfl dX12_columns_3 ?_
  refine mg_dosi C (w26_in l v f g n1 (by omega)) mCal_in rfl ⟨by decide, by decide⟩ rfl (Nat.le_of_ble_eq_true rfl) dX12_columns_5 ?_
  refine mg_if_eqB C 26 (by decide) dX12_columns_8 (fun c_ => absurd c_ (by decide)) (fun c_8 => ?_)
  refine mg_iload_n C (i := 2) rfl 2 rfl dX12_columns_11 ?_
  refine mg_iconst C (x := nI 0) rfl dX12_columns_12 ?_
  refine mg_sipush C (x := nI 999) rfl dX12_columns_13 ?_
  refine mg_dosi C (w27_in l v f g x1 h2) mCal_in rfl ⟨by decide, by decide⟩ rfl (Nat.le_of_ble_eq_true rfl) dX12_columns_16 ?_
  refine mg_if_eqB C 26 (by decide) dX12_columns_19 (fun c_19 => ?_) (fun c_ => absurd c_ (by decide))
  refine mg_iconst C (x := nI 0) rfl dX12_columns_26 ?_
  refine mg_iconst C (x := nI 1) rfl dX12_columns_27 ?_
  refine mg_iconst C (x := nI 1) rfl dX12_columns_28 ?_
  refine mg_doi C (w13_goes l v f g ) mCal_goes rfl ⟨by decide, by decide⟩ rfl (Nat.le_of_ble_eq_true rfl) dX12_columns_29 ?_
  refine mg_if_eqB C 45 (by decide) dX12_columns_32 (fun c_32 => ?_) (fun c_ => absurd c_ (by decide))
  exact mg_vret C rfl dX12_columns_45
set_option maxHeartbeats 4000000 in
set_option maxRecDepth 100000 in
theorem w29_in (l : Launch) (v : Nat → Int32) (f : Nat → Nat → Int32) (g : Nat → Nat → Int64) (n1 : Nat) (h1 : n1 ≤ 999) : mMi l yX12_in cX12_in 3 (some .boolean) 0 0 true [.int (nI n1), .int (nI 0), .int (nI 999)] v f g (fun r_ u_ => r_ = (bI true) ∧ u_ = (v, f, g)) := by
  intro D cI cJ cZ a sz
  refine mg_body (by decide +kernel) rfl (Nat.le_of_ble_eq_true rfl) ?_
  intro p e s m args below meth c hsz C
  clear hsz
  generalize va_A (mW cI cJ cZ a v f g) sz = A at C ⊢
  refine mg_lv (lv' := [(0, .int (nI n1)), (1, .int (nI 0)), (2, .int (nI 999))]) rfl ?_
  refine mg_iload_n C (i := 0) rfl 0 rfl dX12_in_0 ?_
  refine mg_iload_n C (i := 1) rfl 1 rfl dX12_in_1 ?_
  refine mg_icmp_ltN C (by omega) (by omega) 14 (by decide) dX12_in_2 (fun c_ => absurd c_ (by omega)) (fun c_2 => ?_)
  refine mg_iload_n C (i := 0) rfl 0 rfl dX12_in_5 ?_
  refine mg_iload_n C (i := 2) rfl 2 rfl dX12_in_6 ?_
  refine mg_icmp_gtN C (by omega) (by omega) 14 (by decide) dX12_in_7 (fun c_ => absurd c_ (by omega)) (fun c_7 => ?_)
  refine mg_iconst C (x := nI 1) rfl dX12_in_10 ?_
  refine mg_goto C 15 (by decide) dX12_in_11 ?_
  refine mg_cast (bI true) rfl ?_
  exact mg_zret C (bI_nar _) ⟨rfl, rfl⟩ dX12_in_15
set_option maxHeartbeats 4000000 in
set_option maxRecDepth 100000 in
theorem w30_goes (l : Launch) (v : Nat → Int32) (f : Nat → Nat → Int32) (g : Nat → Nat → Int64) : mMi l yX12_goes cX12_goes 4 (some .boolean) 0 0 false [.int (nI 1), .int (nI 1), .int (nI 1)] v f g (fun r_ u_ => r_ = (bI true) ∧ u_ = (upd v 99 (nI 0), f, g)) := by
  intro D cI cJ cZ a sz
  refine mg_body (by decide +kernel) rfl (Nat.le_of_ble_eq_true rfl) ?_
  intro p e s m args below meth c hsz C
  clear hsz
  generalize va_A (mW cI cJ cZ a v f g) sz = A at C ⊢
  refine mg_lv (lv' := [(0, .ref (a 0)), (1, .int (nI 1)), (2, .int (nI 1)), (3, .int (nI 1))]) rfl ?_
  refine mg_aload_n C (i := 0) rfl 0 rfl dX12_goes_0 ?_
  refine mg_iload_n C (i := 1) rfl 1 rfl dX12_goes_1 ?_
  refine mg_if_neN C (by omega) 9 (by decide) dX12_goes_2 (fun c_2 => ?_) (fun c_ => absurd c_ (by omega))
  refine mg_iload_n C (i := 2) rfl 2 rfl dX12_goes_9 ?_
  refine mg_if_neN C (by omega) 17 (by decide) dX12_goes_10 (fun c_10 => ?_) (fun c_ => absurd c_ (by omega))
  refine mg_iload_n C (i := 3) rfl 3 rfl dX12_goes_17 ?_
  refine mg_if_eqN C (by omega) 25 (by decide) dX12_goes_18 (fun c_ => absurd c_ (by omega)) (fun c_18 => ?_)
  refine mg_iconst C (x := nI 0) rfl dX12_goes_21 ?_
  refine mg_goto C 26 (by decide) dX12_goes_22 ?_
  refine mg_put C (k := 99) (by decide) rfl mL_last rfl (by decide +kernel) mT_last rfl rfl dX12_goes_26 ?_
  refine mg_aload_n C (i := 0) rfl 0 rfl dX12_goes_29 ?_
  refine mg_getI C (k := 99) (by decide) rfl mL_last rfl dX12_goes_30 ?_
  refine mg_cast (nI 0) rfl ?_
  refine mg_if_neN C (by omega) 40 (by decide) dX12_goes_33 (fun c_ => absurd c_ (by omega)) (fun c_33 => ?_)
  refine mg_iconst C (x := nI 1) rfl dX12_goes_36 ?_
  refine mg_goto C 41 (by decide) dX12_goes_37 ?_
  refine mg_cast (bI true) rfl ?_
  exact mg_zret C (bI_nar _) ⟨rfl, rfl⟩ dX12_goes_41
set_option maxHeartbeats 4000000 in
set_option maxRecDepth 100000 in
theorem w31_columns (l : Launch) (v : Nat → Int32) (f : Nat → Nat → Int32) (g : Nat → Nat → Int64) (n1 n2 : Nat) (h1 : n1 ≤ 9) (h2 : n2 ≤ 999) : mMv l yX12_columns cX12_columns 3 none 1 23 false [.int (nI n1), .int (nI n2)] v f g (fun u_ => u_ = (upd (upd (upd v 99 (nI 0)) 13 (nI n1)) 14 (nI n2), f, g)) := by
  intro D cI cJ cZ a sz
  refine mg_body (by decide +kernel) rfl (Nat.le_of_ble_eq_true rfl) ?_
  intro p e s m args below meth c hsz C
  clear hsz
  generalize va_A (mW cI cJ cZ a v f g) sz = A at C ⊢
  refine mg_lv (lv' := [(0, .ref (a 0)), (1, .int (nI n1)), (2, .int (nI n2))]) rfl ?_
  refine mg_aload_n C (i := 0) rfl 0 rfl dX12_columns_0 ?_
  refine mg_iload_n C (i := 1) rfl 1 rfl dX12_columns_1 ?_
  refine mg_iconst C (x := nI 0) rfl dX12_columns_2 ?_
  refine mg_bipush C (x := nI 9) rfl dX12_columns_3 ?_
  refine mg_dosi C (w26_in l v f g n1 (by omega)) mCal_in rfl ⟨by decide, by decide⟩ rfl (Nat.le_of_ble_eq_true rfl) dX12_columns_5 ?_
  refine mg_if_eqB C 26 (by decide) dX12_columns_8 (fun c_ => absurd c_ (by decide)) (fun c_8 => ?_)
  refine mg_iload_n C (i := 2) rfl 2 rfl dX12_columns_11 ?_
  refine mg_iconst C (x := nI 0) rfl dX12_columns_12 ?_
  refine mg_sipush C (x := nI 999) rfl dX12_columns_13 ?_
  refine mg_dosi C (w29_in l v f g n2 (by omega)) mCal_in rfl ⟨by decide, by decide⟩ rfl (Nat.le_of_ble_eq_true rfl) dX12_columns_16 ?_
  refine mg_if_eqB C 26 (by decide) dX12_columns_19 (fun c_ => absurd c_ (by decide)) (fun c_19 => ?_)
  refine mg_iconst C (x := nI 1) rfl dX12_columns_22 ?_
  refine mg_goto C 27 (by decide) dX12_columns_23 ?_
  refine mg_iconst C (x := nI 1) rfl dX12_columns_27 ?_
  refine mg_iconst C (x := nI 1) rfl dX12_columns_28 ?_
  refine mg_doi C (w30_goes l v f g ) mCal_goes rfl ⟨by decide, by decide⟩ rfl (Nat.le_of_ble_eq_true rfl) dX12_columns_29 ?_
  refine mg_if_eqB C 45 (by decide) dX12_columns_32 (fun c_ => absurd c_ (by decide)) (fun c_32 => ?_)
  refine mg_aload_n C (i := 0) rfl 0 rfl dX12_columns_35 ?_
  refine mg_iload_n C (i := 1) rfl 1 rfl dX12_columns_36 ?_
  refine mg_put C (k := 13) (by decide) rfl mL_draftCategory rfl (by decide +kernel) mT_draftCategory rfl rfl dX12_columns_37 ?_
  refine mg_aload_n C (i := 0) rfl 0 rfl dX12_columns_40 ?_
  refine mg_iload_n C (i := 2) rfl 2 rfl dX12_columns_41 ?_
  refine mg_put C (k := 14) (by decide) rfl mL_draftNumber rfl (by decide +kernel) mT_draftNumber rfl rfl dX12_columns_42 ?_
  exact mg_vret C rfl dX12_columns_45
set_option maxHeartbeats 4000000 in
set_option maxRecDepth 100000 in
theorem w32_in (l : Launch) (v : Nat → Int32) (f : Nat → Nat → Int32) (g : Nat → Nat → Int64) (n1 : Nat) (h1 : 1000 ≤ n1) (h2 : n1 ≤ 2147483647) : mMi l yX12_in cX12_in 3 (some .boolean) 0 0 true [.int (nI n1), .int (nI 0), .int (nI 999)] v f g (fun r_ u_ => r_ = (bI false) ∧ u_ = (v, f, g)) := by
  intro D cI cJ cZ a sz
  refine mg_body (by decide +kernel) rfl (Nat.le_of_ble_eq_true rfl) ?_
  intro p e s m args below meth c hsz C
  clear hsz
  generalize va_A (mW cI cJ cZ a v f g) sz = A at C ⊢
  refine mg_lv (lv' := [(0, .int (nI n1)), (1, .int (nI 0)), (2, .int (nI 999))]) rfl ?_
  refine mg_iload_n C (i := 0) rfl 0 rfl dX12_in_0 ?_
  refine mg_iload_n C (i := 1) rfl 1 rfl dX12_in_1 ?_
  refine mg_icmp_ltN C (by omega) (by omega) 14 (by decide) dX12_in_2 (fun c_ => absurd c_ (by omega)) (fun c_2 => ?_)
  refine mg_iload_n C (i := 0) rfl 0 rfl dX12_in_5 ?_
  refine mg_iload_n C (i := 2) rfl 2 rfl dX12_in_6 ?_
  refine mg_icmp_gtN C (by omega) (by omega) 14 (by decide) dX12_in_7 (fun c_7 => ?_) (fun c_ => absurd c_ (by omega))
  refine mg_iconst C (x := nI 0) rfl dX12_in_14 ?_
  refine mg_cast (bI false) rfl ?_
  exact mg_zret C (bI_nar _) ⟨rfl, rfl⟩ dX12_in_15
set_option maxHeartbeats 4000000 in
set_option maxRecDepth 100000 in
theorem w33_columns (l : Launch) (v : Nat → Int32) (f : Nat → Nat → Int32) (g : Nat → Nat → Int64) (n1 n2 : Nat) (h1 : n1 ≤ 9) (h2 : 1000 ≤ n2) (h3 : n2 ≤ 2147483647) : mMv l yX12_columns cX12_columns 3 none 1 23 false [.int (nI n1), .int (nI n2)] v f g (fun u_ => u_ = (upd v 99 (nI 1), f, g)) := by
  intro D cI cJ cZ a sz
  refine mg_body (by decide +kernel) rfl (Nat.le_of_ble_eq_true rfl) ?_
  intro p e s m args below meth c hsz C
  clear hsz
  generalize va_A (mW cI cJ cZ a v f g) sz = A at C ⊢
  refine mg_lv (lv' := [(0, .ref (a 0)), (1, .int (nI n1)), (2, .int (nI n2))]) rfl ?_
  refine mg_aload_n C (i := 0) rfl 0 rfl dX12_columns_0 ?_
  refine mg_iload_n C (i := 1) rfl 1 rfl dX12_columns_1 ?_
  refine mg_iconst C (x := nI 0) rfl dX12_columns_2 ?_
  refine mg_bipush C (x := nI 9) rfl dX12_columns_3 ?_
  refine mg_dosi C (w26_in l v f g n1 (by omega)) mCal_in rfl ⟨by decide, by decide⟩ rfl (Nat.le_of_ble_eq_true rfl) dX12_columns_5 ?_
  refine mg_if_eqB C 26 (by decide) dX12_columns_8 (fun c_ => absurd c_ (by decide)) (fun c_8 => ?_)
  refine mg_iload_n C (i := 2) rfl 2 rfl dX12_columns_11 ?_
  refine mg_iconst C (x := nI 0) rfl dX12_columns_12 ?_
  refine mg_sipush C (x := nI 999) rfl dX12_columns_13 ?_
  refine mg_dosi C (w32_in l v f g n2 (by omega) (by omega)) mCal_in rfl ⟨by decide, by decide⟩ rfl (Nat.le_of_ble_eq_true rfl) dX12_columns_16 ?_
  refine mg_if_eqB C 26 (by decide) dX12_columns_19 (fun c_19 => ?_) (fun c_ => absurd c_ (by decide))
  refine mg_iconst C (x := nI 0) rfl dX12_columns_26 ?_
  refine mg_iconst C (x := nI 1) rfl dX12_columns_27 ?_
  refine mg_iconst C (x := nI 1) rfl dX12_columns_28 ?_
  refine mg_doi C (w13_goes l v f g ) mCal_goes rfl ⟨by decide, by decide⟩ rfl (Nat.le_of_ble_eq_true rfl) dX12_columns_29 ?_
  refine mg_if_eqB C 45 (by decide) dX12_columns_32 (fun c_32 => ?_) (fun c_ => absurd c_ (by decide))
  exact mg_vret C rfl dX12_columns_45
set_option maxHeartbeats 4000000 in
set_option maxRecDepth 100000 in
theorem w34_in (l : Launch) (v : Nat → Int32) (f : Nat → Nat → Int32) (g : Nat → Nat → Int64) (n1 : Nat) (h1 : 10 ≤ n1) (h2 : n1 ≤ 2147483647) : mMi l yX12_in cX12_in 3 (some .boolean) 0 0 true [.int (nI n1), .int (nI 0), .int (nI 9)] v f g (fun r_ u_ => r_ = (bI false) ∧ u_ = (v, f, g)) := by
  intro D cI cJ cZ a sz
  refine mg_body (by decide +kernel) rfl (Nat.le_of_ble_eq_true rfl) ?_
  intro p e s m args below meth c hsz C
  clear hsz
  generalize va_A (mW cI cJ cZ a v f g) sz = A at C ⊢
  refine mg_lv (lv' := [(0, .int (nI n1)), (1, .int (nI 0)), (2, .int (nI 9))]) rfl ?_
  refine mg_iload_n C (i := 0) rfl 0 rfl dX12_in_0 ?_
  refine mg_iload_n C (i := 1) rfl 1 rfl dX12_in_1 ?_
  refine mg_icmp_ltN C (by omega) (by omega) 14 (by decide) dX12_in_2 (fun c_ => absurd c_ (by omega)) (fun c_2 => ?_)
  refine mg_iload_n C (i := 0) rfl 0 rfl dX12_in_5 ?_
  refine mg_iload_n C (i := 2) rfl 2 rfl dX12_in_6 ?_
  refine mg_icmp_gtN C (by omega) (by omega) 14 (by decide) dX12_in_7 (fun c_7 => ?_) (fun c_ => absurd c_ (by omega))
  refine mg_iconst C (x := nI 0) rfl dX12_in_14 ?_
  refine mg_cast (bI false) rfl ?_
  exact mg_zret C (bI_nar _) ⟨rfl, rfl⟩ dX12_in_15
set_option maxHeartbeats 4000000 in
set_option maxRecDepth 100000 in
theorem w35_columns (l : Launch) (v : Nat → Int32) (f : Nat → Nat → Int32) (g : Nat → Nat → Int64) (n1 : Nat) (x1 : Int32) (h1 : 10 ≤ n1) (h2 : n1 ≤ 2147483647) : mMv l yX12_columns cX12_columns 3 none 1 23 false [.int (nI n1), .int x1] v f g (fun u_ => u_ = (upd v 99 (nI 1), f, g)) := by
  intro D cI cJ cZ a sz
  refine mg_body (by decide +kernel) rfl (Nat.le_of_ble_eq_true rfl) ?_
  intro p e s m args below meth c hsz C
  clear hsz
  generalize va_A (mW cI cJ cZ a v f g) sz = A at C ⊢
  refine mg_lv (lv' := [(0, .ref (a 0)), (1, .int (nI n1)), (2, .int x1)]) rfl ?_
  refine mg_aload_n C (i := 0) rfl 0 rfl dX12_columns_0 ?_
  refine mg_iload_n C (i := 1) rfl 1 rfl dX12_columns_1 ?_
  refine mg_iconst C (x := nI 0) rfl dX12_columns_2 ?_
  refine mg_bipush C (x := nI 9) rfl dX12_columns_3 ?_
  refine mg_dosi C (w34_in l v f g n1 (by omega) (by omega)) mCal_in rfl ⟨by decide, by decide⟩ rfl (Nat.le_of_ble_eq_true rfl) dX12_columns_5 ?_
  refine mg_if_eqB C 26 (by decide) dX12_columns_8 (fun c_8 => ?_) (fun c_ => absurd c_ (by decide))
  refine mg_iconst C (x := nI 0) rfl dX12_columns_26 ?_
  refine mg_iconst C (x := nI 1) rfl dX12_columns_27 ?_
  refine mg_iconst C (x := nI 1) rfl dX12_columns_28 ?_
  refine mg_doi C (w13_goes l v f g ) mCal_goes rfl ⟨by decide, by decide⟩ rfl (Nat.le_of_ble_eq_true rfl) dX12_columns_29 ?_
  refine mg_if_eqB C 45 (by decide) dX12_columns_32 (fun c_32 => ?_) (fun c_ => absurd c_ (by decide))
  exact mg_vret C rfl dX12_columns_45
set_option maxHeartbeats 4000000 in
set_option maxRecDepth 100000 in
theorem w36_in (l : Launch) (v : Nat → Int32) (f : Nat → Nat → Int32) (g : Nat → Nat → Int64) (x1 : Int32) (h1 : x1 < 0) : mMi l yX12_in cX12_in 3 (some .boolean) 0 0 true [.int x1, .int (nI 0), .int (nI 99)] v f g (fun r_ u_ => r_ = (bI false) ∧ u_ = (v, f, g)) := by
  intro D cI cJ cZ a sz
  refine mg_body (by decide +kernel) rfl (Nat.le_of_ble_eq_true rfl) ?_
  intro p e s m args below meth c hsz C
  clear hsz
  generalize va_A (mW cI cJ cZ a v f g) sz = A at C ⊢
  refine mg_lv (lv' := [(0, .int x1), (1, .int (nI 0)), (2, .int (nI 99))]) rfl ?_
  refine mg_iload_n C (i := 0) rfl 0 rfl dX12_in_0 ?_
  refine mg_iload_n C (i := 1) rfl 1 rfl dX12_in_1 ?_
  refine mg_icmp_lt C 14 (by decide) dX12_in_2 (fun c_2 => ?_) (fun c_ => absurd (cneg_lt h1 (by omega)) c_)
  refine mg_iconst C (x := nI 0) rfl dX12_in_14 ?_
  refine mg_cast (bI false) rfl ?_
  exact mg_zret C (bI_nar _) ⟨rfl, rfl⟩ dX12_in_15
set_option maxHeartbeats 4000000 in
set_option maxRecDepth 100000 in
theorem w37_isKey (l : Launch) (v : Nat → Int32) (f : Nat → Nat → Int32) (g : Nat → Nat → Int64) (x1 : Int32) (h1 : x1 < 0) : mMi l yX12_isKey cX12_isKey 1 (some .boolean) 1 22 true [.int x1] v f g (fun r_ u_ => r_ = (bI false) ∧ u_ = (v, f, g)) := by
  intro D cI cJ cZ a sz
  refine mg_body (by decide +kernel) rfl (Nat.le_of_ble_eq_true rfl) ?_
  intro p e s m args below meth c hsz C
  clear hsz
  generalize va_A (mW cI cJ cZ a v f g) sz = A at C ⊢
  refine mg_lv (lv' := [(0, .int x1)]) rfl ?_
  refine mg_iload_n C (i := 0) rfl 0 rfl dX12_isKey_0 ?_
  refine mg_iconst C (x := nI 0) rfl dX12_isKey_1 ?_
  refine mg_bipush C (x := nI 99) rfl dX12_isKey_2 ?_
  refine mg_dosi C (w36_in l v f g x1 h1) mCal_in rfl ⟨by decide, by decide⟩ rfl (Nat.le_of_ble_eq_true rfl) dX12_isKey_4 ?_
  exact mg_zret C (bI_nar _) ⟨rfl, rfl⟩ dX12_isKey_7
set_option maxHeartbeats 4000000 in
set_option maxRecDepth 100000 in
theorem w38_add (l : Launch) (v : Nat → Int32) (f : Nat → Nat → Int32) (g : Nat → Nat → Int64) (x1 : Int32) (h1 : x1 < 0) (h2 : v 98 = (nI 0)) (h3 : v 20 = (nI 0)) : mMi l yX12_add cX12_add 3 (some .int) 2 42 false [.int x1] v f g (fun r_ u_ => r_ = (nI 0) ∧ u_ = (upd v 99 (nI 1), f, g)) := by
  intro D cI cJ cZ a sz
  refine mg_body (by decide +kernel) rfl (Nat.le_of_ble_eq_true rfl) ?_
  intro p e s m args below meth c hsz C
  clear hsz
  generalize va_A (mW cI cJ cZ a v f g) sz = A at C ⊢
  refine mg_lv (lv' := [(0, .ref (a 0)), (1, .int x1)]) rfl ?_
  refine mg_aload_n C (i := 0) rfl 0 rfl dX12_add_0 ?_
  refine mg_iload_n C (i := 1) rfl 1 rfl dX12_add_1 ?_
  refine mg_dosi C (w37_isKey l v f g x1 h1) mCal_isKey rfl ⟨by decide, by decide⟩ rfl (Nat.le_of_ble_eq_true rfl) dX12_add_2 ?_
  refine mg_aload_n C (i := 0) rfl 0 rfl dX12_add_5 ?_
  refine mg_getI C (k := 98) (by decide) rfl mL_down rfl dX12_add_6 ?_
  refine mg_cast (nI 0) h2 ?_
  refine mg_if_neN C (by omega) 34 (by decide) dX12_add_9 (fun c_ => absurd c_ (by omega)) (fun c_9 => ?_)
  refine mg_aload_n C (i := 0) rfl 0 rfl dX12_add_12 ?_
  refine mg_getI C (k := 20) (by decide) rfl mL_buffered rfl dX12_add_13 ?_
  refine mg_cast (nI 0) h3 ?_
  refine mg_bipush C (x := nI 12) rfl dX12_add_16 ?_
  refine mg_icmp_ltN C (by omega) (by omega) 30 (by decide) dX12_add_18 (fun c_18 => ?_) (fun c_ => absurd c_ (by omega))
  refine mg_iconst C (x := nI 1) rfl dX12_add_30 ?_
  refine mg_goto C 35 (by decide) dX12_add_31 ?_
  refine mg_iconst C (x := nI 1) rfl dX12_add_35 ?_
  refine mg_doi C (w2_goes l v f g ) mCal_goes rfl ⟨by decide, by decide⟩ rfl (Nat.le_of_ble_eq_true rfl) dX12_add_36 ?_
  refine mg_if_neB C 44 (by decide) dX12_add_39 (fun c_ => absurd c_ (by decide)) (fun c_39 => ?_)
  refine mg_iconst C (x := nI 0) rfl dX12_add_42 ?_
  exact mg_iret C ⟨rfl, rfl⟩ dX12_add_43
set_option maxHeartbeats 4000000 in
set_option maxRecDepth 100000 in
theorem w39_in (l : Launch) (v : Nat → Int32) (f : Nat → Nat → Int32) (g : Nat → Nat → Int64) (n1 : Nat) (h1 : n1 ≤ 99) : mMi l yX12_in cX12_in 3 (some .boolean) 0 0 true [.int (nI n1), .int (nI 0), .int (nI 99)] v f g (fun r_ u_ => r_ = (bI true) ∧ u_ = (v, f, g)) := by
  intro D cI cJ cZ a sz
  refine mg_body (by decide +kernel) rfl (Nat.le_of_ble_eq_true rfl) ?_
  intro p e s m args below meth c hsz C
  clear hsz
  generalize va_A (mW cI cJ cZ a v f g) sz = A at C ⊢
  refine mg_lv (lv' := [(0, .int (nI n1)), (1, .int (nI 0)), (2, .int (nI 99))]) rfl ?_
  refine mg_iload_n C (i := 0) rfl 0 rfl dX12_in_0 ?_
  refine mg_iload_n C (i := 1) rfl 1 rfl dX12_in_1 ?_
  refine mg_icmp_ltN C (by omega) (by omega) 14 (by decide) dX12_in_2 (fun c_ => absurd c_ (by omega)) (fun c_2 => ?_)
  refine mg_iload_n C (i := 0) rfl 0 rfl dX12_in_5 ?_
  refine mg_iload_n C (i := 2) rfl 2 rfl dX12_in_6 ?_
  refine mg_icmp_gtN C (by omega) (by omega) 14 (by decide) dX12_in_7 (fun c_ => absurd c_ (by omega)) (fun c_7 => ?_)
  refine mg_iconst C (x := nI 1) rfl dX12_in_10 ?_
  refine mg_goto C 15 (by decide) dX12_in_11 ?_
  refine mg_cast (bI true) rfl ?_
  exact mg_zret C (bI_nar _) ⟨rfl, rfl⟩ dX12_in_15
set_option maxHeartbeats 4000000 in
set_option maxRecDepth 100000 in
theorem w40_isKey (l : Launch) (v : Nat → Int32) (f : Nat → Nat → Int32) (g : Nat → Nat → Int64) (n1 : Nat) (h1 : n1 ≤ 99) : mMi l yX12_isKey cX12_isKey 1 (some .boolean) 1 22 true [.int (nI n1)] v f g (fun r_ u_ => r_ = (bI true) ∧ u_ = (v, f, g)) := by
  intro D cI cJ cZ a sz
  refine mg_body (by decide +kernel) rfl (Nat.le_of_ble_eq_true rfl) ?_
  intro p e s m args below meth c hsz C
  clear hsz
  generalize va_A (mW cI cJ cZ a v f g) sz = A at C ⊢
  refine mg_lv (lv' := [(0, .int (nI n1))]) rfl ?_
  refine mg_iload_n C (i := 0) rfl 0 rfl dX12_isKey_0 ?_
  refine mg_iconst C (x := nI 0) rfl dX12_isKey_1 ?_
  refine mg_bipush C (x := nI 99) rfl dX12_isKey_2 ?_
  refine mg_dosi C (w39_in l v f g n1 (by omega)) mCal_in rfl ⟨by decide, by decide⟩ rfl (Nat.le_of_ble_eq_true rfl) dX12_isKey_4 ?_
  exact mg_zret C (bI_nar _) ⟨rfl, rfl⟩ dX12_isKey_7
set_option maxHeartbeats 4000000 in
set_option maxRecDepth 100000 in
theorem w41_inBuffer (l : Launch) (v : Nat → Int32) (f : Nat → Nat → Int32) (g : Nat → Nat → Int64) (n1 : Nat) (h1 : n1 ≤ 99) (h2 : v 20 = (nI 0)) : mMi l yX12_inBuffer cX12_inBuffer 4 (some .int) 0 0 false [.int (nI n1)] v f g (fun r_ u_ => r_ = ((-1)) ∧ u_ = (v, f, g)) := by
  intro D cI cJ cZ a sz
  refine mg_body (by decide +kernel) rfl (Nat.le_of_ble_eq_true rfl) ?_
  intro p e s m args below meth c hsz C
  clear hsz
  generalize va_A (mW cI cJ cZ a v f g) sz = A at C ⊢
  refine mg_lv (lv' := [(0, .ref (a 0)), (1, .int (nI n1))]) rfl ?_
  refine mg_iconst C (x := (-1)) rfl dX12_inBuffer_0 ?_
  refine mg_istore_n C (i := 2) (lv' := [(2, .int ((-1))), (0, .ref (a 0)), (1, .int (nI n1))]) rfl (Nat.le_of_ble_eq_true rfl) rfl dX12_inBuffer_1 ?_
  refine mg_iconst C (x := nI 0) rfl dX12_inBuffer_2 ?_
  refine mg_istore_n C (i := 3) (lv' := [(3, .int (nI 0)), (2, .int ((-1))), (0, .ref (a 0)), (1, .int (nI n1))]) rfl (Nat.le_of_ble_eq_true rfl) rfl dX12_inBuffer_3 ?_
  refine mg_iload_n C (i := 3) rfl 0 rfl dX12_inBuffer_4 ?_
  refine mg_aload_n C (i := 0) rfl 2 rfl dX12_inBuffer_5 ?_
  refine mg_getI C (k := 20) (by decide) rfl mL_buffered rfl dX12_inBuffer_6 ?_
  refine mg_cast (nI 0) h2 ?_
  refine mg_icmp_geN C (by omega) (by omega) 34 (by decide) dX12_inBuffer_9 (fun c_9 => ?_) (fun c_ => absurd c_ (by omega))
  refine mg_iload_n C (i := 2) rfl 1 rfl dX12_inBuffer_34 ?_
  exact mg_iret C ⟨rfl, rfl⟩ dX12_inBuffer_35
set_option maxHeartbeats 4000000 in
set_option maxRecDepth 100000 in
theorem w42_deletes (l : Launch) (v : Nat → Int32) (f : Nat → Nat → Int32) (g : Nat → Nat → Int64) (n1 : Nat) (h1 : n1 ≤ 99) (h2 : v 20 = (nI 0)) (h3 : v 34 = (nI 0)) : mMi l yX12_deletes cX12_deletes 7 (some .boolean) 1 23 false [.int (nI n1)] v f g (fun r_ u_ => r_ = (bI false) ∧ u_ = (v, f, g)) := by
  intro D cI cJ cZ a sz
  refine mg_body (by decide +kernel) rfl (Nat.le_of_ble_eq_true rfl) ?_
  intro p e s m args below meth c hsz C
  clear hsz
  generalize va_A (mW cI cJ cZ a v f g) sz = A at C ⊢
  refine mg_lv (lv' := [(0, .ref (a 0)), (1, .int (nI n1))]) rfl ?_
  refine mg_aload_n C (i := 0) rfl 0 rfl dX12_deletes_0 ?_
  refine mg_iload_n C (i := 1) rfl 1 rfl dX12_deletes_1 ?_
  refine mg_doi C (w41_inBuffer l v f g n1 (by omega) h2) mCal_inBuffer rfl ⟨by decide, by decide⟩ rfl (Nat.le_of_ble_eq_true rfl) dX12_deletes_2 ?_
  refine mg_istore_n C (i := 2) (lv' := [(2, .int ((-1))), (0, .ref (a 0)), (1, .int (nI n1))]) rfl (Nat.le_of_ble_eq_true rfl) rfl dX12_deletes_5 ?_
  refine mg_iload_n C (i := 2) rfl 0 rfl dX12_deletes_6 ?_
  refine mg_iconst C (x := (-1)) rfl dX12_deletes_7 ?_
  refine mg_icmp_eq C 15 (by decide) dX12_deletes_8 (fun c_8 => ?_) (fun c_ => absurd c_ (by decide))
  refine mg_iconst C (x := nI 0) rfl dX12_deletes_15 ?_
  refine mg_istore_n C (i := 3) (lv' := [(3, .int (nI 0)), (2, .int ((-1))), (0, .ref (a 0)), (1, .int (nI n1))]) rfl (Nat.le_of_ble_eq_true rfl) rfl dX12_deletes_16 ?_
  refine mg_iload_n C (i := 3) rfl 0 rfl dX12_deletes_17 ?_
  refine mg_if_eqN C (by omega) 61 (by decide) dX12_deletes_18 (fun c_18 => ?_) (fun c_ => absurd c_ (by omega))
  refine mg_iconst C (x := nI 0) rfl dX12_deletes_61 ?_
  refine mg_istore C (lv' := [(4, .int (nI 0)), (3, .int (nI 0)), (2, .int ((-1))), (0, .ref (a 0)), (1, .int (nI n1))]) (Nat.le_of_ble_eq_true rfl) rfl dX12_deletes_62 ?_
  refine mg_iload C 0 rfl dX12_deletes_64 ?_
  refine mg_aload_n C (i := 0) rfl 3 rfl dX12_deletes_66 ?_
  refine mg_getI C (k := 34) (by decide) rfl mL_indexed rfl dX12_deletes_67 ?_
  refine mg_cast (nI 0) h3 ?_
  refine mg_icmp_geN C (by omega) (by omega) 156 (by decide) dX12_deletes_70 (fun c_70 => ?_) (fun c_ => absurd c_ (by omega))
  refine mg_iload_n C (i := 3) rfl 1 rfl dX12_deletes_156 ?_
  refine mg_cast (bI false) rfl ?_
  exact mg_zret C (bI_nar _) ⟨rfl, rfl⟩ dX12_deletes_157
set_option maxHeartbeats 4000000 in
set_option maxRecDepth 100000 in
theorem w43_add (l : Launch) (v : Nat → Int32) (f : Nat → Nat → Int32) (g : Nat → Nat → Int64) (n1 : Nat) (h1 : n1 ≤ 99) (h2 : v 98 = (nI 0)) (h3 : v 20 = (nI 0)) (h4 : v 34 = (nI 0)) (h5 : v 13 = (nI 0)) (h6 : v 14 = (nI 0)) (h7 : g 7 0 = 0) (h8 : g 7 1 = 0) (h9 : g 7 2 = 0) (h10 : g 7 3 = 0) (h11 : g 7 4 = 0) (h12 : g 7 5 = 0) (h13 : g 7 6 = 0) (h14 : g 7 7 = 0) (h15 : g 7 8 = 0) (h16 : g 7 9 = 0) (h17 : g 7 10 = 0) (h18 : g 7 11 = 0) (h19 : g 7 12 = 0) (h20 : g 7 13 = 0) (h21 : g 7 14 = 0) (h22 : g 7 15 = 0) (h23 : g 7 16 = 0) (h24 : g 7 17 = 0) (h25 : g 7 18 = 0) (h26 : g 7 19 = 0) (h27 : g 7 20 = 0) (h28 : g 7 21 = 0) (h29 : g 7 22 = 0) (h30 : g 7 23 = 0) (h31 : g 7 24 = 0) (h32 : g 7 25 = 0) (h33 : g 7 26 = 0) (h34 : g 7 27 = 0) (h35 : g 7 28 = 0) (h36 : g 7 29 = 0) (h37 : g 7 30 = 0) (h38 : g 7 31 = 0) (h39 : g 7 32 = 0) (h40 : g 7 33 = 0) (h41 : g 7 34 = 0) (h42 : g 7 35 = 0) (h43 : g 7 36 = 0) (h44 : g 7 37 = 0) (h45 : g 7 38 = 0) (h46 : g 7 39 = 0) (h47 : f 8 0 = (nI 0)) (h48 : f 8 1 = (nI 0)) : mMi l yX12_add cX12_add 3 (some .int) 2 49 false [.int (nI n1)] v f g (fun r_ u_ => r_ = (nI 1) ∧ u_ = (upd (upd (upd (upd (upd v 99 (nI 0)) 13 (nI 0)) 14 (nI 0)) 20 (nI 1)) 10 (bI true), mU (mU (mU (mU (mU (mU (mU f 9 0 (nI n1)) 10 0 (nI 0)) 11 0 (nI 0)) 13 0 (nI 0)) 8 0 (nI 0)) 13 1 (nI 0)) 8 1 (nI 0), mU (mU (mU (mU (mU (mU (mU (mU (mU (mU (mU (mU (mU (mU (mU (mU (mU (mU (mU (mU (mU (mU (mU (mU (mU (mU (mU (mU (mU (mU (mU (mU (mU (mU (mU (mU (mU (mU (mU (mU g 12 0 0) 12 1 0) 12 2 0) 12 3 0) 12 4 0) 12 5 0) 12 6 0) 12 7 0) 12 8 0) 12 9 0) 12 10 0) 12 11 0) 12 12 0) 12 13 0) 12 14 0) 12 15 0) 12 16 0) 12 17 0) 12 18 0) 12 19 0) 12 20 0) 12 21 0) 12 22 0) 12 23 0) 12 24 0) 12 25 0) 12 26 0) 12 27 0) 12 28 0) 12 29 0) 12 30 0) 12 31 0) 12 32 0) 12 33 0) 12 34 0) 12 35 0) 12 36 0) 12 37 0) 12 38 0) 12 39 0)) := by
  intro D cI cJ cZ a sz
  refine mg_body (by decide +kernel) rfl (Nat.le_of_ble_eq_true rfl) ?_
  intro p e s m args below meth c hsz C
  clear hsz
  generalize va_A (mW cI cJ cZ a v f g) sz = A at C ⊢
  refine mg_lv (lv' := [(0, .ref (a 0)), (1, .int (nI n1))]) rfl ?_
  refine mg_aload_n C (i := 0) rfl 0 rfl dX12_add_0 ?_
  refine mg_iload_n C (i := 1) rfl 1 rfl dX12_add_1 ?_
  refine mg_dosi C (w40_isKey l v f g n1 (by omega)) mCal_isKey rfl ⟨by decide, by decide⟩ rfl (Nat.le_of_ble_eq_true rfl) dX12_add_2 ?_
  refine mg_aload_n C (i := 0) rfl 0 rfl dX12_add_5 ?_
  refine mg_getI C (k := 98) (by decide) rfl mL_down rfl dX12_add_6 ?_
  refine mg_cast (nI 0) h2 ?_
  refine mg_if_neN C (by omega) 34 (by decide) dX12_add_9 (fun c_ => absurd c_ (by omega)) (fun c_9 => ?_)
  refine mg_aload_n C (i := 0) rfl 0 rfl dX12_add_12 ?_
  refine mg_getI C (k := 20) (by decide) rfl mL_buffered rfl dX12_add_13 ?_
  refine mg_cast (nI 0) h3 ?_
  refine mg_bipush C (x := nI 12) rfl dX12_add_16 ?_
  refine mg_icmp_ltN C (by omega) (by omega) 30 (by decide) dX12_add_18 (fun c_18 => ?_) (fun c_ => absurd c_ (by omega))
  refine mg_iconst C (x := nI 1) rfl dX12_add_30 ?_
  refine mg_goto C 35 (by decide) dX12_add_31 ?_
  refine mg_iconst C (x := nI 1) rfl dX12_add_35 ?_
  refine mg_doi C (w6_goes l v f g ) mCal_goes rfl ⟨by decide, by decide⟩ rfl (Nat.le_of_ble_eq_true rfl) dX12_add_36 ?_
  refine mg_if_neB C 44 (by decide) dX12_add_39 (fun c_39 => ?_) (fun c_ => absurd c_ (by decide))
  refine mg_aload_n C (i := 0) rfl 0 rfl dX12_add_44 ?_
  refine mg_iload_n C (i := 1) rfl 1 rfl dX12_add_45 ?_
  refine mg_doi C (w42_deletes l (upd v 99 (nI 0)) f g n1 (by omega) h3 h4) mCal_deletes rfl ⟨by decide, by decide⟩ rfl (Nat.le_of_ble_eq_true rfl) dX12_add_46 ?_
  refine mg_pop C rfl dX12_add_49 ?_
  refine mg_aload_n C (i := 0) rfl 0 rfl dX12_add_50 ?_
  refine mg_arr C 9 (by decide) (by decide) rfl mL_bufferKeys rfl dX12_add_51 ?_
  refine mg_aload_n C (i := 0) rfl 0 rfl dX12_add_54 ?_
  refine mg_getI C (k := 20) (by decide) rfl mL_buffered rfl dX12_add_55 ?_
  refine mg_cast (nI 0) h3 ?_
  refine mg_iload_n C (i := 1) rfl 1 rfl dX12_add_58 ?_
  refine mg_iastore C (n := 12) 9 0 (by decide) (by decide) rfl rfl (by omega) (by decide) dX12_add_59 ?_
  refine mg_aload_n C (i := 0) rfl 0 rfl dX12_add_60 ?_
  refine mg_arr C 10 (by decide) (by decide) rfl mL_bufferCategories rfl dX12_add_61 ?_
  refine mg_aload_n C (i := 0) rfl 0 rfl dX12_add_64 ?_
  refine mg_getI C (k := 20) (by decide) rfl mL_buffered rfl dX12_add_65 ?_
  refine mg_cast (nI 0) h3 ?_
  refine mg_aload_n C (i := 0) rfl 0 rfl dX12_add_68 ?_
  refine mg_getI C (k := 13) (by decide) rfl mL_draftCategory rfl dX12_add_69 ?_
  refine mg_cast (nI 0) h5 ?_
  refine mg_iastore C (n := 12) 10 0 (by decide) (by decide) rfl rfl (by omega) (by decide) dX12_add_72 ?_
  refine mg_aload_n C (i := 0) rfl 0 rfl dX12_add_73 ?_
  refine mg_arr C 11 (by decide) (by decide) rfl mL_bufferNumbers rfl dX12_add_74 ?_
  refine mg_aload_n C (i := 0) rfl 0 rfl dX12_add_77 ?_
  refine mg_getI C (k := 20) (by decide) rfl mL_buffered rfl dX12_add_78 ?_
  refine mg_cast (nI 0) h3 ?_
  refine mg_aload_n C (i := 0) rfl 0 rfl dX12_add_81 ?_
  refine mg_getI C (k := 14) (by decide) rfl mL_draftNumber rfl dX12_add_82 ?_
  refine mg_cast (nI 0) h6 ?_
  refine mg_iastore C (n := 12) 11 0 (by decide) (by decide) rfl rfl (by omega) (by decide) dX12_add_85 ?_
  refine mg_iconst C (x := nI 0) rfl dX12_add_86 ?_
  refine mg_istore_n C (i := 2) (lv' := [(2, .int (nI 0)), (0, .ref (a 0)), (1, .int (nI n1))]) rfl (Nat.le_of_ble_eq_true rfl) rfl dX12_add_87 ?_
  refine mg_iload_n C (i := 2) rfl 0 rfl dX12_add_88 ?_
  refine mg_bipush C (x := nI 40) rfl dX12_add_89 ?_
  refine mg_icmp_geN C (by omega) (by omega) 120 (by decide) dX12_add_91 (fun c_ => absurd c_ (by omega)) (fun c_91 => ?_)
  refine mg_aload_n C (i := 0) rfl 1 rfl dX12_add_94 ?_
  refine mg_arr C 12 (by decide) (by decide) rfl mL_bufferStems rfl dX12_add_95 ?_
  refine mg_bipush C (x := nI 40) rfl dX12_add_98 ?_
  refine mg_aload_n C (i := 0) rfl 1 rfl dX12_add_100 ?_
  refine mg_getI C (k := 20) (by decide) rfl mL_buffered rfl dX12_add_101 ?_
  refine mg_cast (nI 0) h3 ?_
  refine mg_imul C dX12_add_104 ?_
  refine mg_cast (nI 0) (by decide) ?_
  refine mg_iload_n C (i := 2) rfl 0 rfl dX12_add_105 ?_
  refine mg_iadd C dX12_add_106 ?_
  refine mg_cast (nI 0) (by decide) ?_
  refine mg_aload_n C (i := 0) rfl 1 rfl dX12_add_107 ?_
  refine mg_arr C 7 (by decide) (by decide) rfl mL_draftStems rfl dX12_add_108 ?_
  refine mg_iload_n C (i := 2) rfl 0 rfl dX12_add_111 ?_
  refine mg_laload C (n := 40) 7 0 (by decide) (by decide) rfl rfl (by decide) (by decide) dX12_add_112 ?_
  refine mg_castL 0 h7 ?_
  refine mg_lastore C (n := 480) 12 0 (by decide) (by decide) rfl rfl (by omega) (by decide) dX12_add_113 ?_
  refine mg_iincN C (lv' := [(2, .int (nI 1)), (0, .ref (a 0)), (1, .int (nI n1))]) 1 0 rfl rfl (Nat.le_of_ble_eq_true rfl) rfl dX12_add_114 ?_
  refine mg_goto C 88 (by decide) dX12_add_117 ?_
  refine mg_iload_n C (i := 2) rfl 0 rfl dX12_add_88 ?_
  refine mg_bipush C (x := nI 40) rfl dX12_add_89 ?_
  refine mg_icmp_geN C (by omega) (by omega) 120 (by decide) dX12_add_91 (fun c_ => absurd c_ (by omega)) (fun c_91 => ?_)
  refine mg_aload_n C (i := 0) rfl 1 rfl dX12_add_94 ?_
  refine mg_arr C 12 (by decide) (by decide) rfl mL_bufferStems rfl dX12_add_95 ?_
  refine mg_bipush C (x := nI 40) rfl dX12_add_98 ?_
  refine mg_aload_n C (i := 0) rfl 1 rfl dX12_add_100 ?_
  refine mg_getI C (k := 20) (by decide) rfl mL_buffered rfl dX12_add_101 ?_
  refine mg_cast (nI 0) h3 ?_
  refine mg_imul C dX12_add_104 ?_
  refine mg_cast (nI 0) (by decide) ?_
  refine mg_iload_n C (i := 2) rfl 0 rfl dX12_add_105 ?_
  refine mg_iadd C dX12_add_106 ?_
  refine mg_cast (nI 1) (by decide) ?_
  refine mg_aload_n C (i := 0) rfl 1 rfl dX12_add_107 ?_
  refine mg_arr C 7 (by decide) (by decide) rfl mL_draftStems rfl dX12_add_108 ?_
  refine mg_iload_n C (i := 2) rfl 0 rfl dX12_add_111 ?_
  refine mg_laload C (n := 40) 7 1 (by decide) (by decide) rfl rfl (by decide) (by decide) dX12_add_112 ?_
  refine mg_castL 0 h8 ?_
  refine mg_lastore C (n := 480) 12 1 (by decide) (by decide) rfl rfl (by omega) (by decide) dX12_add_113 ?_
  refine mg_iincN C (lv' := [(2, .int (nI 2)), (0, .ref (a 0)), (1, .int (nI n1))]) 1 0 rfl rfl (Nat.le_of_ble_eq_true rfl) rfl dX12_add_114 ?_
  refine mg_goto C 88 (by decide) dX12_add_117 ?_
  refine mg_iload_n C (i := 2) rfl 0 rfl dX12_add_88 ?_
  refine mg_bipush C (x := nI 40) rfl dX12_add_89 ?_
  refine mg_icmp_geN C (by omega) (by omega) 120 (by decide) dX12_add_91 (fun c_ => absurd c_ (by omega)) (fun c_91 => ?_)
  refine mg_aload_n C (i := 0) rfl 1 rfl dX12_add_94 ?_
  refine mg_arr C 12 (by decide) (by decide) rfl mL_bufferStems rfl dX12_add_95 ?_
  refine mg_bipush C (x := nI 40) rfl dX12_add_98 ?_
  refine mg_aload_n C (i := 0) rfl 1 rfl dX12_add_100 ?_
  refine mg_getI C (k := 20) (by decide) rfl mL_buffered rfl dX12_add_101 ?_
  refine mg_cast (nI 0) h3 ?_
  refine mg_imul C dX12_add_104 ?_
  refine mg_cast (nI 0) (by decide) ?_
  refine mg_iload_n C (i := 2) rfl 0 rfl dX12_add_105 ?_
  refine mg_iadd C dX12_add_106 ?_
  refine mg_cast (nI 2) (by decide) ?_
  refine mg_aload_n C (i := 0) rfl 1 rfl dX12_add_107 ?_
  refine mg_arr C 7 (by decide) (by decide) rfl mL_draftStems rfl dX12_add_108 ?_
  refine mg_iload_n C (i := 2) rfl 0 rfl dX12_add_111 ?_
  refine mg_laload C (n := 40) 7 2 (by decide) (by decide) rfl rfl (by decide) (by decide) dX12_add_112 ?_
  refine mg_castL 0 h9 ?_
  refine mg_lastore C (n := 480) 12 2 (by decide) (by decide) rfl rfl (by omega) (by decide) dX12_add_113 ?_
  refine mg_iincN C (lv' := [(2, .int (nI 3)), (0, .ref (a 0)), (1, .int (nI n1))]) 1 0 rfl rfl (Nat.le_of_ble_eq_true rfl) rfl dX12_add_114 ?_
  refine mg_goto C 88 (by decide) dX12_add_117 ?_
  refine mg_iload_n C (i := 2) rfl 0 rfl dX12_add_88 ?_
  refine mg_bipush C (x := nI 40) rfl dX12_add_89 ?_
  refine mg_icmp_geN C (by omega) (by omega) 120 (by decide) dX12_add_91 (fun c_ => absurd c_ (by omega)) (fun c_91 => ?_)
  refine mg_aload_n C (i := 0) rfl 1 rfl dX12_add_94 ?_
  refine mg_arr C 12 (by decide) (by decide) rfl mL_bufferStems rfl dX12_add_95 ?_
  refine mg_bipush C (x := nI 40) rfl dX12_add_98 ?_
  refine mg_aload_n C (i := 0) rfl 1 rfl dX12_add_100 ?_
  refine mg_getI C (k := 20) (by decide) rfl mL_buffered rfl dX12_add_101 ?_
  refine mg_cast (nI 0) h3 ?_
  refine mg_imul C dX12_add_104 ?_
  refine mg_cast (nI 0) (by decide) ?_
  refine mg_iload_n C (i := 2) rfl 0 rfl dX12_add_105 ?_
  refine mg_iadd C dX12_add_106 ?_
  refine mg_cast (nI 3) (by decide) ?_
  refine mg_aload_n C (i := 0) rfl 1 rfl dX12_add_107 ?_
  refine mg_arr C 7 (by decide) (by decide) rfl mL_draftStems rfl dX12_add_108 ?_
  refine mg_iload_n C (i := 2) rfl 0 rfl dX12_add_111 ?_
  refine mg_laload C (n := 40) 7 3 (by decide) (by decide) rfl rfl (by decide) (by decide) dX12_add_112 ?_
  refine mg_castL 0 h10 ?_
  refine mg_lastore C (n := 480) 12 3 (by decide) (by decide) rfl rfl (by omega) (by decide) dX12_add_113 ?_
  refine mg_iincN C (lv' := [(2, .int (nI 4)), (0, .ref (a 0)), (1, .int (nI n1))]) 1 0 rfl rfl (Nat.le_of_ble_eq_true rfl) rfl dX12_add_114 ?_
  refine mg_goto C 88 (by decide) dX12_add_117 ?_
  refine mg_iload_n C (i := 2) rfl 0 rfl dX12_add_88 ?_
  refine mg_bipush C (x := nI 40) rfl dX12_add_89 ?_
  refine mg_icmp_geN C (by omega) (by omega) 120 (by decide) dX12_add_91 (fun c_ => absurd c_ (by omega)) (fun c_91 => ?_)
  refine mg_aload_n C (i := 0) rfl 1 rfl dX12_add_94 ?_
  refine mg_arr C 12 (by decide) (by decide) rfl mL_bufferStems rfl dX12_add_95 ?_
  refine mg_bipush C (x := nI 40) rfl dX12_add_98 ?_
  refine mg_aload_n C (i := 0) rfl 1 rfl dX12_add_100 ?_
  refine mg_getI C (k := 20) (by decide) rfl mL_buffered rfl dX12_add_101 ?_
  refine mg_cast (nI 0) h3 ?_
  refine mg_imul C dX12_add_104 ?_
  refine mg_cast (nI 0) (by decide) ?_
  refine mg_iload_n C (i := 2) rfl 0 rfl dX12_add_105 ?_
  refine mg_iadd C dX12_add_106 ?_
  refine mg_cast (nI 4) (by decide) ?_
  refine mg_aload_n C (i := 0) rfl 1 rfl dX12_add_107 ?_
  refine mg_arr C 7 (by decide) (by decide) rfl mL_draftStems rfl dX12_add_108 ?_
  refine mg_iload_n C (i := 2) rfl 0 rfl dX12_add_111 ?_
  refine mg_laload C (n := 40) 7 4 (by decide) (by decide) rfl rfl (by decide) (by decide) dX12_add_112 ?_
  refine mg_castL 0 h11 ?_
  refine mg_lastore C (n := 480) 12 4 (by decide) (by decide) rfl rfl (by omega) (by decide) dX12_add_113 ?_
  refine mg_iincN C (lv' := [(2, .int (nI 5)), (0, .ref (a 0)), (1, .int (nI n1))]) 1 0 rfl rfl (Nat.le_of_ble_eq_true rfl) rfl dX12_add_114 ?_
  refine mg_goto C 88 (by decide) dX12_add_117 ?_
  refine mg_iload_n C (i := 2) rfl 0 rfl dX12_add_88 ?_
  refine mg_bipush C (x := nI 40) rfl dX12_add_89 ?_
  refine mg_icmp_geN C (by omega) (by omega) 120 (by decide) dX12_add_91 (fun c_ => absurd c_ (by omega)) (fun c_91 => ?_)
  refine mg_aload_n C (i := 0) rfl 1 rfl dX12_add_94 ?_
  refine mg_arr C 12 (by decide) (by decide) rfl mL_bufferStems rfl dX12_add_95 ?_
  refine mg_bipush C (x := nI 40) rfl dX12_add_98 ?_
  refine mg_aload_n C (i := 0) rfl 1 rfl dX12_add_100 ?_
  refine mg_getI C (k := 20) (by decide) rfl mL_buffered rfl dX12_add_101 ?_
  refine mg_cast (nI 0) h3 ?_
  refine mg_imul C dX12_add_104 ?_
  refine mg_cast (nI 0) (by decide) ?_
  refine mg_iload_n C (i := 2) rfl 0 rfl dX12_add_105 ?_
  refine mg_iadd C dX12_add_106 ?_
  refine mg_cast (nI 5) (by decide) ?_
  refine mg_aload_n C (i := 0) rfl 1 rfl dX12_add_107 ?_
  refine mg_arr C 7 (by decide) (by decide) rfl mL_draftStems rfl dX12_add_108 ?_
  refine mg_iload_n C (i := 2) rfl 0 rfl dX12_add_111 ?_
  refine mg_laload C (n := 40) 7 5 (by decide) (by decide) rfl rfl (by decide) (by decide) dX12_add_112 ?_
  refine mg_castL 0 h12 ?_
  refine mg_lastore C (n := 480) 12 5 (by decide) (by decide) rfl rfl (by omega) (by decide) dX12_add_113 ?_
  refine mg_iincN C (lv' := [(2, .int (nI 6)), (0, .ref (a 0)), (1, .int (nI n1))]) 1 0 rfl rfl (Nat.le_of_ble_eq_true rfl) rfl dX12_add_114 ?_
  refine mg_goto C 88 (by decide) dX12_add_117 ?_
  refine mg_iload_n C (i := 2) rfl 0 rfl dX12_add_88 ?_
  refine mg_bipush C (x := nI 40) rfl dX12_add_89 ?_
  refine mg_icmp_geN C (by omega) (by omega) 120 (by decide) dX12_add_91 (fun c_ => absurd c_ (by omega)) (fun c_91 => ?_)
  refine mg_aload_n C (i := 0) rfl 1 rfl dX12_add_94 ?_
  refine mg_arr C 12 (by decide) (by decide) rfl mL_bufferStems rfl dX12_add_95 ?_
  refine mg_bipush C (x := nI 40) rfl dX12_add_98 ?_
  refine mg_aload_n C (i := 0) rfl 1 rfl dX12_add_100 ?_
  refine mg_getI C (k := 20) (by decide) rfl mL_buffered rfl dX12_add_101 ?_
  refine mg_cast (nI 0) h3 ?_
  refine mg_imul C dX12_add_104 ?_
  refine mg_cast (nI 0) (by decide) ?_
  refine mg_iload_n C (i := 2) rfl 0 rfl dX12_add_105 ?_
  refine mg_iadd C dX12_add_106 ?_
  refine mg_cast (nI 6) (by decide) ?_
  refine mg_aload_n C (i := 0) rfl 1 rfl dX12_add_107 ?_
  refine mg_arr C 7 (by decide) (by decide) rfl mL_draftStems rfl dX12_add_108 ?_
  refine mg_iload_n C (i := 2) rfl 0 rfl dX12_add_111 ?_
  refine mg_laload C (n := 40) 7 6 (by decide) (by decide) rfl rfl (by decide) (by decide) dX12_add_112 ?_
  refine mg_castL 0 h13 ?_
  refine mg_lastore C (n := 480) 12 6 (by decide) (by decide) rfl rfl (by omega) (by decide) dX12_add_113 ?_
  refine mg_iincN C (lv' := [(2, .int (nI 7)), (0, .ref (a 0)), (1, .int (nI n1))]) 1 0 rfl rfl (Nat.le_of_ble_eq_true rfl) rfl dX12_add_114 ?_
  refine mg_goto C 88 (by decide) dX12_add_117 ?_
  refine mg_iload_n C (i := 2) rfl 0 rfl dX12_add_88 ?_
  refine mg_bipush C (x := nI 40) rfl dX12_add_89 ?_
  refine mg_icmp_geN C (by omega) (by omega) 120 (by decide) dX12_add_91 (fun c_ => absurd c_ (by omega)) (fun c_91 => ?_)
  refine mg_aload_n C (i := 0) rfl 1 rfl dX12_add_94 ?_
  refine mg_arr C 12 (by decide) (by decide) rfl mL_bufferStems rfl dX12_add_95 ?_
  refine mg_bipush C (x := nI 40) rfl dX12_add_98 ?_
  refine mg_aload_n C (i := 0) rfl 1 rfl dX12_add_100 ?_
  refine mg_getI C (k := 20) (by decide) rfl mL_buffered rfl dX12_add_101 ?_
  refine mg_cast (nI 0) h3 ?_
  refine mg_imul C dX12_add_104 ?_
  refine mg_cast (nI 0) (by decide) ?_
  refine mg_iload_n C (i := 2) rfl 0 rfl dX12_add_105 ?_
  refine mg_iadd C dX12_add_106 ?_
  refine mg_cast (nI 7) (by decide) ?_
  refine mg_aload_n C (i := 0) rfl 1 rfl dX12_add_107 ?_
  refine mg_arr C 7 (by decide) (by decide) rfl mL_draftStems rfl dX12_add_108 ?_
  refine mg_iload_n C (i := 2) rfl 0 rfl dX12_add_111 ?_
  refine mg_laload C (n := 40) 7 7 (by decide) (by decide) rfl rfl (by decide) (by decide) dX12_add_112 ?_
  refine mg_castL 0 h14 ?_
  refine mg_lastore C (n := 480) 12 7 (by decide) (by decide) rfl rfl (by omega) (by decide) dX12_add_113 ?_
  refine mg_iincN C (lv' := [(2, .int (nI 8)), (0, .ref (a 0)), (1, .int (nI n1))]) 1 0 rfl rfl (Nat.le_of_ble_eq_true rfl) rfl dX12_add_114 ?_
  refine mg_goto C 88 (by decide) dX12_add_117 ?_
  refine mg_iload_n C (i := 2) rfl 0 rfl dX12_add_88 ?_
  refine mg_bipush C (x := nI 40) rfl dX12_add_89 ?_
  refine mg_icmp_geN C (by omega) (by omega) 120 (by decide) dX12_add_91 (fun c_ => absurd c_ (by omega)) (fun c_91 => ?_)
  refine mg_aload_n C (i := 0) rfl 1 rfl dX12_add_94 ?_
  refine mg_arr C 12 (by decide) (by decide) rfl mL_bufferStems rfl dX12_add_95 ?_
  refine mg_bipush C (x := nI 40) rfl dX12_add_98 ?_
  refine mg_aload_n C (i := 0) rfl 1 rfl dX12_add_100 ?_
  refine mg_getI C (k := 20) (by decide) rfl mL_buffered rfl dX12_add_101 ?_
  refine mg_cast (nI 0) h3 ?_
  refine mg_imul C dX12_add_104 ?_
  refine mg_cast (nI 0) (by decide) ?_
  refine mg_iload_n C (i := 2) rfl 0 rfl dX12_add_105 ?_
  refine mg_iadd C dX12_add_106 ?_
  refine mg_cast (nI 8) (by decide) ?_
  refine mg_aload_n C (i := 0) rfl 1 rfl dX12_add_107 ?_
  refine mg_arr C 7 (by decide) (by decide) rfl mL_draftStems rfl dX12_add_108 ?_
  refine mg_iload_n C (i := 2) rfl 0 rfl dX12_add_111 ?_
  refine mg_laload C (n := 40) 7 8 (by decide) (by decide) rfl rfl (by decide) (by decide) dX12_add_112 ?_
  refine mg_castL 0 h15 ?_
  refine mg_lastore C (n := 480) 12 8 (by decide) (by decide) rfl rfl (by omega) (by decide) dX12_add_113 ?_
  refine mg_iincN C (lv' := [(2, .int (nI 9)), (0, .ref (a 0)), (1, .int (nI n1))]) 1 0 rfl rfl (Nat.le_of_ble_eq_true rfl) rfl dX12_add_114 ?_
  refine mg_goto C 88 (by decide) dX12_add_117 ?_
  refine mg_iload_n C (i := 2) rfl 0 rfl dX12_add_88 ?_
  refine mg_bipush C (x := nI 40) rfl dX12_add_89 ?_
  refine mg_icmp_geN C (by omega) (by omega) 120 (by decide) dX12_add_91 (fun c_ => absurd c_ (by omega)) (fun c_91 => ?_)
  refine mg_aload_n C (i := 0) rfl 1 rfl dX12_add_94 ?_
  refine mg_arr C 12 (by decide) (by decide) rfl mL_bufferStems rfl dX12_add_95 ?_
  refine mg_bipush C (x := nI 40) rfl dX12_add_98 ?_
  refine mg_aload_n C (i := 0) rfl 1 rfl dX12_add_100 ?_
  refine mg_getI C (k := 20) (by decide) rfl mL_buffered rfl dX12_add_101 ?_
  refine mg_cast (nI 0) h3 ?_
  refine mg_imul C dX12_add_104 ?_
  refine mg_cast (nI 0) (by decide) ?_
  refine mg_iload_n C (i := 2) rfl 0 rfl dX12_add_105 ?_
  refine mg_iadd C dX12_add_106 ?_
  refine mg_cast (nI 9) (by decide) ?_
  refine mg_aload_n C (i := 0) rfl 1 rfl dX12_add_107 ?_
  refine mg_arr C 7 (by decide) (by decide) rfl mL_draftStems rfl dX12_add_108 ?_
  refine mg_iload_n C (i := 2) rfl 0 rfl dX12_add_111 ?_
  refine mg_laload C (n := 40) 7 9 (by decide) (by decide) rfl rfl (by decide) (by decide) dX12_add_112 ?_
  refine mg_castL 0 h16 ?_
  refine mg_lastore C (n := 480) 12 9 (by decide) (by decide) rfl rfl (by omega) (by decide) dX12_add_113 ?_
  refine mg_iincN C (lv' := [(2, .int (nI 10)), (0, .ref (a 0)), (1, .int (nI n1))]) 1 0 rfl rfl (Nat.le_of_ble_eq_true rfl) rfl dX12_add_114 ?_
  refine mg_goto C 88 (by decide) dX12_add_117 ?_
  refine mg_iload_n C (i := 2) rfl 0 rfl dX12_add_88 ?_
  refine mg_bipush C (x := nI 40) rfl dX12_add_89 ?_
  refine mg_icmp_geN C (by omega) (by omega) 120 (by decide) dX12_add_91 (fun c_ => absurd c_ (by omega)) (fun c_91 => ?_)
  refine mg_aload_n C (i := 0) rfl 1 rfl dX12_add_94 ?_
  refine mg_arr C 12 (by decide) (by decide) rfl mL_bufferStems rfl dX12_add_95 ?_
  refine mg_bipush C (x := nI 40) rfl dX12_add_98 ?_
  refine mg_aload_n C (i := 0) rfl 1 rfl dX12_add_100 ?_
  refine mg_getI C (k := 20) (by decide) rfl mL_buffered rfl dX12_add_101 ?_
  refine mg_cast (nI 0) h3 ?_
  refine mg_imul C dX12_add_104 ?_
  refine mg_cast (nI 0) (by decide) ?_
  refine mg_iload_n C (i := 2) rfl 0 rfl dX12_add_105 ?_
  refine mg_iadd C dX12_add_106 ?_
  refine mg_cast (nI 10) (by decide) ?_
  refine mg_aload_n C (i := 0) rfl 1 rfl dX12_add_107 ?_
  refine mg_arr C 7 (by decide) (by decide) rfl mL_draftStems rfl dX12_add_108 ?_
  refine mg_iload_n C (i := 2) rfl 0 rfl dX12_add_111 ?_
  refine mg_laload C (n := 40) 7 10 (by decide) (by decide) rfl rfl (by decide) (by decide) dX12_add_112 ?_
  refine mg_castL 0 h17 ?_
  refine mg_lastore C (n := 480) 12 10 (by decide) (by decide) rfl rfl (by omega) (by decide) dX12_add_113 ?_
  refine mg_iincN C (lv' := [(2, .int (nI 11)), (0, .ref (a 0)), (1, .int (nI n1))]) 1 0 rfl rfl (Nat.le_of_ble_eq_true rfl) rfl dX12_add_114 ?_
  refine mg_goto C 88 (by decide) dX12_add_117 ?_
  refine mg_iload_n C (i := 2) rfl 0 rfl dX12_add_88 ?_
  refine mg_bipush C (x := nI 40) rfl dX12_add_89 ?_
  refine mg_icmp_geN C (by omega) (by omega) 120 (by decide) dX12_add_91 (fun c_ => absurd c_ (by omega)) (fun c_91 => ?_)
  refine mg_aload_n C (i := 0) rfl 1 rfl dX12_add_94 ?_
  refine mg_arr C 12 (by decide) (by decide) rfl mL_bufferStems rfl dX12_add_95 ?_
  refine mg_bipush C (x := nI 40) rfl dX12_add_98 ?_
  refine mg_aload_n C (i := 0) rfl 1 rfl dX12_add_100 ?_
  refine mg_getI C (k := 20) (by decide) rfl mL_buffered rfl dX12_add_101 ?_
  refine mg_cast (nI 0) h3 ?_
  refine mg_imul C dX12_add_104 ?_
  refine mg_cast (nI 0) (by decide) ?_
  refine mg_iload_n C (i := 2) rfl 0 rfl dX12_add_105 ?_
  refine mg_iadd C dX12_add_106 ?_
  refine mg_cast (nI 11) (by decide) ?_
  refine mg_aload_n C (i := 0) rfl 1 rfl dX12_add_107 ?_
  refine mg_arr C 7 (by decide) (by decide) rfl mL_draftStems rfl dX12_add_108 ?_
  refine mg_iload_n C (i := 2) rfl 0 rfl dX12_add_111 ?_
  refine mg_laload C (n := 40) 7 11 (by decide) (by decide) rfl rfl (by decide) (by decide) dX12_add_112 ?_
  refine mg_castL 0 h18 ?_
  refine mg_lastore C (n := 480) 12 11 (by decide) (by decide) rfl rfl (by omega) (by decide) dX12_add_113 ?_
  refine mg_iincN C (lv' := [(2, .int (nI 12)), (0, .ref (a 0)), (1, .int (nI n1))]) 1 0 rfl rfl (Nat.le_of_ble_eq_true rfl) rfl dX12_add_114 ?_
  refine mg_goto C 88 (by decide) dX12_add_117 ?_
  refine mg_iload_n C (i := 2) rfl 0 rfl dX12_add_88 ?_
  refine mg_bipush C (x := nI 40) rfl dX12_add_89 ?_
  refine mg_icmp_geN C (by omega) (by omega) 120 (by decide) dX12_add_91 (fun c_ => absurd c_ (by omega)) (fun c_91 => ?_)
  refine mg_aload_n C (i := 0) rfl 1 rfl dX12_add_94 ?_
  refine mg_arr C 12 (by decide) (by decide) rfl mL_bufferStems rfl dX12_add_95 ?_
  refine mg_bipush C (x := nI 40) rfl dX12_add_98 ?_
  refine mg_aload_n C (i := 0) rfl 1 rfl dX12_add_100 ?_
  refine mg_getI C (k := 20) (by decide) rfl mL_buffered rfl dX12_add_101 ?_
  refine mg_cast (nI 0) h3 ?_
  refine mg_imul C dX12_add_104 ?_
  refine mg_cast (nI 0) (by decide) ?_
  refine mg_iload_n C (i := 2) rfl 0 rfl dX12_add_105 ?_
  refine mg_iadd C dX12_add_106 ?_
  refine mg_cast (nI 12) (by decide) ?_
  refine mg_aload_n C (i := 0) rfl 1 rfl dX12_add_107 ?_
  refine mg_arr C 7 (by decide) (by decide) rfl mL_draftStems rfl dX12_add_108 ?_
  refine mg_iload_n C (i := 2) rfl 0 rfl dX12_add_111 ?_
  refine mg_laload C (n := 40) 7 12 (by decide) (by decide) rfl rfl (by decide) (by decide) dX12_add_112 ?_
  refine mg_castL 0 h19 ?_
  refine mg_lastore C (n := 480) 12 12 (by decide) (by decide) rfl rfl (by omega) (by decide) dX12_add_113 ?_
  refine mg_iincN C (lv' := [(2, .int (nI 13)), (0, .ref (a 0)), (1, .int (nI n1))]) 1 0 rfl rfl (Nat.le_of_ble_eq_true rfl) rfl dX12_add_114 ?_
  refine mg_goto C 88 (by decide) dX12_add_117 ?_
  refine mg_iload_n C (i := 2) rfl 0 rfl dX12_add_88 ?_
  refine mg_bipush C (x := nI 40) rfl dX12_add_89 ?_
  refine mg_icmp_geN C (by omega) (by omega) 120 (by decide) dX12_add_91 (fun c_ => absurd c_ (by omega)) (fun c_91 => ?_)
  refine mg_aload_n C (i := 0) rfl 1 rfl dX12_add_94 ?_
  refine mg_arr C 12 (by decide) (by decide) rfl mL_bufferStems rfl dX12_add_95 ?_
  refine mg_bipush C (x := nI 40) rfl dX12_add_98 ?_
  refine mg_aload_n C (i := 0) rfl 1 rfl dX12_add_100 ?_
  refine mg_getI C (k := 20) (by decide) rfl mL_buffered rfl dX12_add_101 ?_
  refine mg_cast (nI 0) h3 ?_
  refine mg_imul C dX12_add_104 ?_
  refine mg_cast (nI 0) (by decide) ?_
  refine mg_iload_n C (i := 2) rfl 0 rfl dX12_add_105 ?_
  refine mg_iadd C dX12_add_106 ?_
  refine mg_cast (nI 13) (by decide) ?_
  refine mg_aload_n C (i := 0) rfl 1 rfl dX12_add_107 ?_
  refine mg_arr C 7 (by decide) (by decide) rfl mL_draftStems rfl dX12_add_108 ?_
  refine mg_iload_n C (i := 2) rfl 0 rfl dX12_add_111 ?_
  refine mg_laload C (n := 40) 7 13 (by decide) (by decide) rfl rfl (by decide) (by decide) dX12_add_112 ?_
  refine mg_castL 0 h20 ?_
  refine mg_lastore C (n := 480) 12 13 (by decide) (by decide) rfl rfl (by omega) (by decide) dX12_add_113 ?_
  refine mg_iincN C (lv' := [(2, .int (nI 14)), (0, .ref (a 0)), (1, .int (nI n1))]) 1 0 rfl rfl (Nat.le_of_ble_eq_true rfl) rfl dX12_add_114 ?_
  refine mg_goto C 88 (by decide) dX12_add_117 ?_
  refine mg_iload_n C (i := 2) rfl 0 rfl dX12_add_88 ?_
  refine mg_bipush C (x := nI 40) rfl dX12_add_89 ?_
  refine mg_icmp_geN C (by omega) (by omega) 120 (by decide) dX12_add_91 (fun c_ => absurd c_ (by omega)) (fun c_91 => ?_)
  refine mg_aload_n C (i := 0) rfl 1 rfl dX12_add_94 ?_
  refine mg_arr C 12 (by decide) (by decide) rfl mL_bufferStems rfl dX12_add_95 ?_
  refine mg_bipush C (x := nI 40) rfl dX12_add_98 ?_
  refine mg_aload_n C (i := 0) rfl 1 rfl dX12_add_100 ?_
  refine mg_getI C (k := 20) (by decide) rfl mL_buffered rfl dX12_add_101 ?_
  refine mg_cast (nI 0) h3 ?_
  refine mg_imul C dX12_add_104 ?_
  refine mg_cast (nI 0) (by decide) ?_
  refine mg_iload_n C (i := 2) rfl 0 rfl dX12_add_105 ?_
  refine mg_iadd C dX12_add_106 ?_
  refine mg_cast (nI 14) (by decide) ?_
  refine mg_aload_n C (i := 0) rfl 1 rfl dX12_add_107 ?_
  refine mg_arr C 7 (by decide) (by decide) rfl mL_draftStems rfl dX12_add_108 ?_
  refine mg_iload_n C (i := 2) rfl 0 rfl dX12_add_111 ?_
  refine mg_laload C (n := 40) 7 14 (by decide) (by decide) rfl rfl (by decide) (by decide) dX12_add_112 ?_
  refine mg_castL 0 h21 ?_
  refine mg_lastore C (n := 480) 12 14 (by decide) (by decide) rfl rfl (by omega) (by decide) dX12_add_113 ?_
  refine mg_iincN C (lv' := [(2, .int (nI 15)), (0, .ref (a 0)), (1, .int (nI n1))]) 1 0 rfl rfl (Nat.le_of_ble_eq_true rfl) rfl dX12_add_114 ?_
  refine mg_goto C 88 (by decide) dX12_add_117 ?_
  refine mg_iload_n C (i := 2) rfl 0 rfl dX12_add_88 ?_
  refine mg_bipush C (x := nI 40) rfl dX12_add_89 ?_
  refine mg_icmp_geN C (by omega) (by omega) 120 (by decide) dX12_add_91 (fun c_ => absurd c_ (by omega)) (fun c_91 => ?_)
  refine mg_aload_n C (i := 0) rfl 1 rfl dX12_add_94 ?_
  refine mg_arr C 12 (by decide) (by decide) rfl mL_bufferStems rfl dX12_add_95 ?_
  refine mg_bipush C (x := nI 40) rfl dX12_add_98 ?_
  refine mg_aload_n C (i := 0) rfl 1 rfl dX12_add_100 ?_
  refine mg_getI C (k := 20) (by decide) rfl mL_buffered rfl dX12_add_101 ?_
  refine mg_cast (nI 0) h3 ?_
  refine mg_imul C dX12_add_104 ?_
  refine mg_cast (nI 0) (by decide) ?_
  refine mg_iload_n C (i := 2) rfl 0 rfl dX12_add_105 ?_
  refine mg_iadd C dX12_add_106 ?_
  refine mg_cast (nI 15) (by decide) ?_
  refine mg_aload_n C (i := 0) rfl 1 rfl dX12_add_107 ?_
  refine mg_arr C 7 (by decide) (by decide) rfl mL_draftStems rfl dX12_add_108 ?_
  refine mg_iload_n C (i := 2) rfl 0 rfl dX12_add_111 ?_
  refine mg_laload C (n := 40) 7 15 (by decide) (by decide) rfl rfl (by decide) (by decide) dX12_add_112 ?_
  refine mg_castL 0 h22 ?_
  refine mg_lastore C (n := 480) 12 15 (by decide) (by decide) rfl rfl (by omega) (by decide) dX12_add_113 ?_
  refine mg_iincN C (lv' := [(2, .int (nI 16)), (0, .ref (a 0)), (1, .int (nI n1))]) 1 0 rfl rfl (Nat.le_of_ble_eq_true rfl) rfl dX12_add_114 ?_
  refine mg_goto C 88 (by decide) dX12_add_117 ?_
  refine mg_iload_n C (i := 2) rfl 0 rfl dX12_add_88 ?_
  refine mg_bipush C (x := nI 40) rfl dX12_add_89 ?_
  refine mg_icmp_geN C (by omega) (by omega) 120 (by decide) dX12_add_91 (fun c_ => absurd c_ (by omega)) (fun c_91 => ?_)
  refine mg_aload_n C (i := 0) rfl 1 rfl dX12_add_94 ?_
  refine mg_arr C 12 (by decide) (by decide) rfl mL_bufferStems rfl dX12_add_95 ?_
  refine mg_bipush C (x := nI 40) rfl dX12_add_98 ?_
  refine mg_aload_n C (i := 0) rfl 1 rfl dX12_add_100 ?_
  refine mg_getI C (k := 20) (by decide) rfl mL_buffered rfl dX12_add_101 ?_
  refine mg_cast (nI 0) h3 ?_
  refine mg_imul C dX12_add_104 ?_
  refine mg_cast (nI 0) (by decide) ?_
  refine mg_iload_n C (i := 2) rfl 0 rfl dX12_add_105 ?_
  refine mg_iadd C dX12_add_106 ?_
  refine mg_cast (nI 16) (by decide) ?_
  refine mg_aload_n C (i := 0) rfl 1 rfl dX12_add_107 ?_
  refine mg_arr C 7 (by decide) (by decide) rfl mL_draftStems rfl dX12_add_108 ?_
  refine mg_iload_n C (i := 2) rfl 0 rfl dX12_add_111 ?_
  refine mg_laload C (n := 40) 7 16 (by decide) (by decide) rfl rfl (by decide) (by decide) dX12_add_112 ?_
  refine mg_castL 0 h23 ?_
  refine mg_lastore C (n := 480) 12 16 (by decide) (by decide) rfl rfl (by omega) (by decide) dX12_add_113 ?_
  refine mg_iincN C (lv' := [(2, .int (nI 17)), (0, .ref (a 0)), (1, .int (nI n1))]) 1 0 rfl rfl (Nat.le_of_ble_eq_true rfl) rfl dX12_add_114 ?_
  refine mg_goto C 88 (by decide) dX12_add_117 ?_
  refine mg_iload_n C (i := 2) rfl 0 rfl dX12_add_88 ?_
  refine mg_bipush C (x := nI 40) rfl dX12_add_89 ?_
  refine mg_icmp_geN C (by omega) (by omega) 120 (by decide) dX12_add_91 (fun c_ => absurd c_ (by omega)) (fun c_91 => ?_)
  refine mg_aload_n C (i := 0) rfl 1 rfl dX12_add_94 ?_
  refine mg_arr C 12 (by decide) (by decide) rfl mL_bufferStems rfl dX12_add_95 ?_
  refine mg_bipush C (x := nI 40) rfl dX12_add_98 ?_
  refine mg_aload_n C (i := 0) rfl 1 rfl dX12_add_100 ?_
  refine mg_getI C (k := 20) (by decide) rfl mL_buffered rfl dX12_add_101 ?_
  refine mg_cast (nI 0) h3 ?_
  refine mg_imul C dX12_add_104 ?_
  refine mg_cast (nI 0) (by decide) ?_
  refine mg_iload_n C (i := 2) rfl 0 rfl dX12_add_105 ?_
  refine mg_iadd C dX12_add_106 ?_
  refine mg_cast (nI 17) (by decide) ?_
  refine mg_aload_n C (i := 0) rfl 1 rfl dX12_add_107 ?_
  refine mg_arr C 7 (by decide) (by decide) rfl mL_draftStems rfl dX12_add_108 ?_
  refine mg_iload_n C (i := 2) rfl 0 rfl dX12_add_111 ?_
  refine mg_laload C (n := 40) 7 17 (by decide) (by decide) rfl rfl (by decide) (by decide) dX12_add_112 ?_
  refine mg_castL 0 h24 ?_
  refine mg_lastore C (n := 480) 12 17 (by decide) (by decide) rfl rfl (by omega) (by decide) dX12_add_113 ?_
  refine mg_iincN C (lv' := [(2, .int (nI 18)), (0, .ref (a 0)), (1, .int (nI n1))]) 1 0 rfl rfl (Nat.le_of_ble_eq_true rfl) rfl dX12_add_114 ?_
  refine mg_goto C 88 (by decide) dX12_add_117 ?_
  refine mg_iload_n C (i := 2) rfl 0 rfl dX12_add_88 ?_
  refine mg_bipush C (x := nI 40) rfl dX12_add_89 ?_
  refine mg_icmp_geN C (by omega) (by omega) 120 (by decide) dX12_add_91 (fun c_ => absurd c_ (by omega)) (fun c_91 => ?_)
  refine mg_aload_n C (i := 0) rfl 1 rfl dX12_add_94 ?_
  refine mg_arr C 12 (by decide) (by decide) rfl mL_bufferStems rfl dX12_add_95 ?_
  refine mg_bipush C (x := nI 40) rfl dX12_add_98 ?_
  refine mg_aload_n C (i := 0) rfl 1 rfl dX12_add_100 ?_
  refine mg_getI C (k := 20) (by decide) rfl mL_buffered rfl dX12_add_101 ?_
  refine mg_cast (nI 0) h3 ?_
  refine mg_imul C dX12_add_104 ?_
  refine mg_cast (nI 0) (by decide) ?_
  refine mg_iload_n C (i := 2) rfl 0 rfl dX12_add_105 ?_
  refine mg_iadd C dX12_add_106 ?_
  refine mg_cast (nI 18) (by decide) ?_
  refine mg_aload_n C (i := 0) rfl 1 rfl dX12_add_107 ?_
  refine mg_arr C 7 (by decide) (by decide) rfl mL_draftStems rfl dX12_add_108 ?_
  refine mg_iload_n C (i := 2) rfl 0 rfl dX12_add_111 ?_
  refine mg_laload C (n := 40) 7 18 (by decide) (by decide) rfl rfl (by decide) (by decide) dX12_add_112 ?_
  refine mg_castL 0 h25 ?_
  refine mg_lastore C (n := 480) 12 18 (by decide) (by decide) rfl rfl (by omega) (by decide) dX12_add_113 ?_
  refine mg_iincN C (lv' := [(2, .int (nI 19)), (0, .ref (a 0)), (1, .int (nI n1))]) 1 0 rfl rfl (Nat.le_of_ble_eq_true rfl) rfl dX12_add_114 ?_
  refine mg_goto C 88 (by decide) dX12_add_117 ?_
  refine mg_iload_n C (i := 2) rfl 0 rfl dX12_add_88 ?_
  refine mg_bipush C (x := nI 40) rfl dX12_add_89 ?_
  refine mg_icmp_geN C (by omega) (by omega) 120 (by decide) dX12_add_91 (fun c_ => absurd c_ (by omega)) (fun c_91 => ?_)
  refine mg_aload_n C (i := 0) rfl 1 rfl dX12_add_94 ?_
  refine mg_arr C 12 (by decide) (by decide) rfl mL_bufferStems rfl dX12_add_95 ?_
  refine mg_bipush C (x := nI 40) rfl dX12_add_98 ?_
  refine mg_aload_n C (i := 0) rfl 1 rfl dX12_add_100 ?_
  refine mg_getI C (k := 20) (by decide) rfl mL_buffered rfl dX12_add_101 ?_
  refine mg_cast (nI 0) h3 ?_
  refine mg_imul C dX12_add_104 ?_
  refine mg_cast (nI 0) (by decide) ?_
  refine mg_iload_n C (i := 2) rfl 0 rfl dX12_add_105 ?_
  refine mg_iadd C dX12_add_106 ?_
  refine mg_cast (nI 19) (by decide) ?_
  refine mg_aload_n C (i := 0) rfl 1 rfl dX12_add_107 ?_
  refine mg_arr C 7 (by decide) (by decide) rfl mL_draftStems rfl dX12_add_108 ?_
  refine mg_iload_n C (i := 2) rfl 0 rfl dX12_add_111 ?_
  refine mg_laload C (n := 40) 7 19 (by decide) (by decide) rfl rfl (by decide) (by decide) dX12_add_112 ?_
  refine mg_castL 0 h26 ?_
  refine mg_lastore C (n := 480) 12 19 (by decide) (by decide) rfl rfl (by omega) (by decide) dX12_add_113 ?_
  refine mg_iincN C (lv' := [(2, .int (nI 20)), (0, .ref (a 0)), (1, .int (nI n1))]) 1 0 rfl rfl (Nat.le_of_ble_eq_true rfl) rfl dX12_add_114 ?_
  refine mg_goto C 88 (by decide) dX12_add_117 ?_
  refine mg_iload_n C (i := 2) rfl 0 rfl dX12_add_88 ?_
  refine mg_bipush C (x := nI 40) rfl dX12_add_89 ?_
  refine mg_icmp_geN C (by omega) (by omega) 120 (by decide) dX12_add_91 (fun c_ => absurd c_ (by omega)) (fun c_91 => ?_)
  refine mg_aload_n C (i := 0) rfl 1 rfl dX12_add_94 ?_
  refine mg_arr C 12 (by decide) (by decide) rfl mL_bufferStems rfl dX12_add_95 ?_
  refine mg_bipush C (x := nI 40) rfl dX12_add_98 ?_
  refine mg_aload_n C (i := 0) rfl 1 rfl dX12_add_100 ?_
  refine mg_getI C (k := 20) (by decide) rfl mL_buffered rfl dX12_add_101 ?_
  refine mg_cast (nI 0) h3 ?_
  refine mg_imul C dX12_add_104 ?_
  refine mg_cast (nI 0) (by decide) ?_
  refine mg_iload_n C (i := 2) rfl 0 rfl dX12_add_105 ?_
  refine mg_iadd C dX12_add_106 ?_
  refine mg_cast (nI 20) (by decide) ?_
  refine mg_aload_n C (i := 0) rfl 1 rfl dX12_add_107 ?_
  refine mg_arr C 7 (by decide) (by decide) rfl mL_draftStems rfl dX12_add_108 ?_
  refine mg_iload_n C (i := 2) rfl 0 rfl dX12_add_111 ?_
  refine mg_laload C (n := 40) 7 20 (by decide) (by decide) rfl rfl (by decide) (by decide) dX12_add_112 ?_
  refine mg_castL 0 h27 ?_
  refine mg_lastore C (n := 480) 12 20 (by decide) (by decide) rfl rfl (by omega) (by decide) dX12_add_113 ?_
  refine mg_iincN C (lv' := [(2, .int (nI 21)), (0, .ref (a 0)), (1, .int (nI n1))]) 1 0 rfl rfl (Nat.le_of_ble_eq_true rfl) rfl dX12_add_114 ?_
  refine mg_goto C 88 (by decide) dX12_add_117 ?_
  refine mg_iload_n C (i := 2) rfl 0 rfl dX12_add_88 ?_
  refine mg_bipush C (x := nI 40) rfl dX12_add_89 ?_
  refine mg_icmp_geN C (by omega) (by omega) 120 (by decide) dX12_add_91 (fun c_ => absurd c_ (by omega)) (fun c_91 => ?_)
  refine mg_aload_n C (i := 0) rfl 1 rfl dX12_add_94 ?_
  refine mg_arr C 12 (by decide) (by decide) rfl mL_bufferStems rfl dX12_add_95 ?_
  refine mg_bipush C (x := nI 40) rfl dX12_add_98 ?_
  refine mg_aload_n C (i := 0) rfl 1 rfl dX12_add_100 ?_
  refine mg_getI C (k := 20) (by decide) rfl mL_buffered rfl dX12_add_101 ?_
  refine mg_cast (nI 0) h3 ?_
  refine mg_imul C dX12_add_104 ?_
  refine mg_cast (nI 0) (by decide) ?_
  refine mg_iload_n C (i := 2) rfl 0 rfl dX12_add_105 ?_
  refine mg_iadd C dX12_add_106 ?_
  refine mg_cast (nI 21) (by decide) ?_
  refine mg_aload_n C (i := 0) rfl 1 rfl dX12_add_107 ?_
  refine mg_arr C 7 (by decide) (by decide) rfl mL_draftStems rfl dX12_add_108 ?_
  refine mg_iload_n C (i := 2) rfl 0 rfl dX12_add_111 ?_
  refine mg_laload C (n := 40) 7 21 (by decide) (by decide) rfl rfl (by decide) (by decide) dX12_add_112 ?_
  refine mg_castL 0 h28 ?_
  refine mg_lastore C (n := 480) 12 21 (by decide) (by decide) rfl rfl (by omega) (by decide) dX12_add_113 ?_
  refine mg_iincN C (lv' := [(2, .int (nI 22)), (0, .ref (a 0)), (1, .int (nI n1))]) 1 0 rfl rfl (Nat.le_of_ble_eq_true rfl) rfl dX12_add_114 ?_
  refine mg_goto C 88 (by decide) dX12_add_117 ?_
  refine mg_iload_n C (i := 2) rfl 0 rfl dX12_add_88 ?_
  refine mg_bipush C (x := nI 40) rfl dX12_add_89 ?_
  refine mg_icmp_geN C (by omega) (by omega) 120 (by decide) dX12_add_91 (fun c_ => absurd c_ (by omega)) (fun c_91 => ?_)
  refine mg_aload_n C (i := 0) rfl 1 rfl dX12_add_94 ?_
  refine mg_arr C 12 (by decide) (by decide) rfl mL_bufferStems rfl dX12_add_95 ?_
  refine mg_bipush C (x := nI 40) rfl dX12_add_98 ?_
  refine mg_aload_n C (i := 0) rfl 1 rfl dX12_add_100 ?_
  refine mg_getI C (k := 20) (by decide) rfl mL_buffered rfl dX12_add_101 ?_
  refine mg_cast (nI 0) h3 ?_
  refine mg_imul C dX12_add_104 ?_
  refine mg_cast (nI 0) (by decide) ?_
  refine mg_iload_n C (i := 2) rfl 0 rfl dX12_add_105 ?_
  refine mg_iadd C dX12_add_106 ?_
  refine mg_cast (nI 22) (by decide) ?_
  refine mg_aload_n C (i := 0) rfl 1 rfl dX12_add_107 ?_
  refine mg_arr C 7 (by decide) (by decide) rfl mL_draftStems rfl dX12_add_108 ?_
  refine mg_iload_n C (i := 2) rfl 0 rfl dX12_add_111 ?_
  refine mg_laload C (n := 40) 7 22 (by decide) (by decide) rfl rfl (by decide) (by decide) dX12_add_112 ?_
  refine mg_castL 0 h29 ?_
  refine mg_lastore C (n := 480) 12 22 (by decide) (by decide) rfl rfl (by omega) (by decide) dX12_add_113 ?_
  refine mg_iincN C (lv' := [(2, .int (nI 23)), (0, .ref (a 0)), (1, .int (nI n1))]) 1 0 rfl rfl (Nat.le_of_ble_eq_true rfl) rfl dX12_add_114 ?_
  refine mg_goto C 88 (by decide) dX12_add_117 ?_
  refine mg_iload_n C (i := 2) rfl 0 rfl dX12_add_88 ?_
  refine mg_bipush C (x := nI 40) rfl dX12_add_89 ?_
  refine mg_icmp_geN C (by omega) (by omega) 120 (by decide) dX12_add_91 (fun c_ => absurd c_ (by omega)) (fun c_91 => ?_)
  refine mg_aload_n C (i := 0) rfl 1 rfl dX12_add_94 ?_
  refine mg_arr C 12 (by decide) (by decide) rfl mL_bufferStems rfl dX12_add_95 ?_
  refine mg_bipush C (x := nI 40) rfl dX12_add_98 ?_
  refine mg_aload_n C (i := 0) rfl 1 rfl dX12_add_100 ?_
  refine mg_getI C (k := 20) (by decide) rfl mL_buffered rfl dX12_add_101 ?_
  refine mg_cast (nI 0) h3 ?_
  refine mg_imul C dX12_add_104 ?_
  refine mg_cast (nI 0) (by decide) ?_
  refine mg_iload_n C (i := 2) rfl 0 rfl dX12_add_105 ?_
  refine mg_iadd C dX12_add_106 ?_
  refine mg_cast (nI 23) (by decide) ?_
  refine mg_aload_n C (i := 0) rfl 1 rfl dX12_add_107 ?_
  refine mg_arr C 7 (by decide) (by decide) rfl mL_draftStems rfl dX12_add_108 ?_
  refine mg_iload_n C (i := 2) rfl 0 rfl dX12_add_111 ?_
  refine mg_laload C (n := 40) 7 23 (by decide) (by decide) rfl rfl (by decide) (by decide) dX12_add_112 ?_
  refine mg_castL 0 h30 ?_
  refine mg_lastore C (n := 480) 12 23 (by decide) (by decide) rfl rfl (by omega) (by decide) dX12_add_113 ?_
  refine mg_iincN C (lv' := [(2, .int (nI 24)), (0, .ref (a 0)), (1, .int (nI n1))]) 1 0 rfl rfl (Nat.le_of_ble_eq_true rfl) rfl dX12_add_114 ?_
  refine mg_goto C 88 (by decide) dX12_add_117 ?_
  refine mg_iload_n C (i := 2) rfl 0 rfl dX12_add_88 ?_
  refine mg_bipush C (x := nI 40) rfl dX12_add_89 ?_
  refine mg_icmp_geN C (by omega) (by omega) 120 (by decide) dX12_add_91 (fun c_ => absurd c_ (by omega)) (fun c_91 => ?_)
  refine mg_aload_n C (i := 0) rfl 1 rfl dX12_add_94 ?_
  refine mg_arr C 12 (by decide) (by decide) rfl mL_bufferStems rfl dX12_add_95 ?_
  refine mg_bipush C (x := nI 40) rfl dX12_add_98 ?_
  refine mg_aload_n C (i := 0) rfl 1 rfl dX12_add_100 ?_
  refine mg_getI C (k := 20) (by decide) rfl mL_buffered rfl dX12_add_101 ?_
  refine mg_cast (nI 0) h3 ?_
  refine mg_imul C dX12_add_104 ?_
  refine mg_cast (nI 0) (by decide) ?_
  refine mg_iload_n C (i := 2) rfl 0 rfl dX12_add_105 ?_
  refine mg_iadd C dX12_add_106 ?_
  refine mg_cast (nI 24) (by decide) ?_
  refine mg_aload_n C (i := 0) rfl 1 rfl dX12_add_107 ?_
  refine mg_arr C 7 (by decide) (by decide) rfl mL_draftStems rfl dX12_add_108 ?_
  refine mg_iload_n C (i := 2) rfl 0 rfl dX12_add_111 ?_
  refine mg_laload C (n := 40) 7 24 (by decide) (by decide) rfl rfl (by decide) (by decide) dX12_add_112 ?_
  refine mg_castL 0 h31 ?_
  refine mg_lastore C (n := 480) 12 24 (by decide) (by decide) rfl rfl (by omega) (by decide) dX12_add_113 ?_
  refine mg_iincN C (lv' := [(2, .int (nI 25)), (0, .ref (a 0)), (1, .int (nI n1))]) 1 0 rfl rfl (Nat.le_of_ble_eq_true rfl) rfl dX12_add_114 ?_
  refine mg_goto C 88 (by decide) dX12_add_117 ?_
  refine mg_iload_n C (i := 2) rfl 0 rfl dX12_add_88 ?_
  refine mg_bipush C (x := nI 40) rfl dX12_add_89 ?_
  refine mg_icmp_geN C (by omega) (by omega) 120 (by decide) dX12_add_91 (fun c_ => absurd c_ (by omega)) (fun c_91 => ?_)
  refine mg_aload_n C (i := 0) rfl 1 rfl dX12_add_94 ?_
  refine mg_arr C 12 (by decide) (by decide) rfl mL_bufferStems rfl dX12_add_95 ?_
  refine mg_bipush C (x := nI 40) rfl dX12_add_98 ?_
  refine mg_aload_n C (i := 0) rfl 1 rfl dX12_add_100 ?_
  refine mg_getI C (k := 20) (by decide) rfl mL_buffered rfl dX12_add_101 ?_
  refine mg_cast (nI 0) h3 ?_
  refine mg_imul C dX12_add_104 ?_
  refine mg_cast (nI 0) (by decide) ?_
  refine mg_iload_n C (i := 2) rfl 0 rfl dX12_add_105 ?_
  refine mg_iadd C dX12_add_106 ?_
  refine mg_cast (nI 25) (by decide) ?_
  refine mg_aload_n C (i := 0) rfl 1 rfl dX12_add_107 ?_
  refine mg_arr C 7 (by decide) (by decide) rfl mL_draftStems rfl dX12_add_108 ?_
  refine mg_iload_n C (i := 2) rfl 0 rfl dX12_add_111 ?_
  refine mg_laload C (n := 40) 7 25 (by decide) (by decide) rfl rfl (by decide) (by decide) dX12_add_112 ?_
  refine mg_castL 0 h32 ?_
  refine mg_lastore C (n := 480) 12 25 (by decide) (by decide) rfl rfl (by omega) (by decide) dX12_add_113 ?_
  refine mg_iincN C (lv' := [(2, .int (nI 26)), (0, .ref (a 0)), (1, .int (nI n1))]) 1 0 rfl rfl (Nat.le_of_ble_eq_true rfl) rfl dX12_add_114 ?_
  refine mg_goto C 88 (by decide) dX12_add_117 ?_
  refine mg_iload_n C (i := 2) rfl 0 rfl dX12_add_88 ?_
  refine mg_bipush C (x := nI 40) rfl dX12_add_89 ?_
  refine mg_icmp_geN C (by omega) (by omega) 120 (by decide) dX12_add_91 (fun c_ => absurd c_ (by omega)) (fun c_91 => ?_)
  refine mg_aload_n C (i := 0) rfl 1 rfl dX12_add_94 ?_
  refine mg_arr C 12 (by decide) (by decide) rfl mL_bufferStems rfl dX12_add_95 ?_
  refine mg_bipush C (x := nI 40) rfl dX12_add_98 ?_
  refine mg_aload_n C (i := 0) rfl 1 rfl dX12_add_100 ?_
  refine mg_getI C (k := 20) (by decide) rfl mL_buffered rfl dX12_add_101 ?_
  refine mg_cast (nI 0) h3 ?_
  refine mg_imul C dX12_add_104 ?_
  refine mg_cast (nI 0) (by decide) ?_
  refine mg_iload_n C (i := 2) rfl 0 rfl dX12_add_105 ?_
  refine mg_iadd C dX12_add_106 ?_
  refine mg_cast (nI 26) (by decide) ?_
  refine mg_aload_n C (i := 0) rfl 1 rfl dX12_add_107 ?_
  refine mg_arr C 7 (by decide) (by decide) rfl mL_draftStems rfl dX12_add_108 ?_
  refine mg_iload_n C (i := 2) rfl 0 rfl dX12_add_111 ?_
  refine mg_laload C (n := 40) 7 26 (by decide) (by decide) rfl rfl (by decide) (by decide) dX12_add_112 ?_
  refine mg_castL 0 h33 ?_
  refine mg_lastore C (n := 480) 12 26 (by decide) (by decide) rfl rfl (by omega) (by decide) dX12_add_113 ?_
  refine mg_iincN C (lv' := [(2, .int (nI 27)), (0, .ref (a 0)), (1, .int (nI n1))]) 1 0 rfl rfl (Nat.le_of_ble_eq_true rfl) rfl dX12_add_114 ?_
  refine mg_goto C 88 (by decide) dX12_add_117 ?_
  refine mg_iload_n C (i := 2) rfl 0 rfl dX12_add_88 ?_
  refine mg_bipush C (x := nI 40) rfl dX12_add_89 ?_
  refine mg_icmp_geN C (by omega) (by omega) 120 (by decide) dX12_add_91 (fun c_ => absurd c_ (by omega)) (fun c_91 => ?_)
  refine mg_aload_n C (i := 0) rfl 1 rfl dX12_add_94 ?_
  refine mg_arr C 12 (by decide) (by decide) rfl mL_bufferStems rfl dX12_add_95 ?_
  refine mg_bipush C (x := nI 40) rfl dX12_add_98 ?_
  refine mg_aload_n C (i := 0) rfl 1 rfl dX12_add_100 ?_
  refine mg_getI C (k := 20) (by decide) rfl mL_buffered rfl dX12_add_101 ?_
  refine mg_cast (nI 0) h3 ?_
  refine mg_imul C dX12_add_104 ?_
  refine mg_cast (nI 0) (by decide) ?_
  refine mg_iload_n C (i := 2) rfl 0 rfl dX12_add_105 ?_
  refine mg_iadd C dX12_add_106 ?_
  refine mg_cast (nI 27) (by decide) ?_
  refine mg_aload_n C (i := 0) rfl 1 rfl dX12_add_107 ?_
  refine mg_arr C 7 (by decide) (by decide) rfl mL_draftStems rfl dX12_add_108 ?_
  refine mg_iload_n C (i := 2) rfl 0 rfl dX12_add_111 ?_
  refine mg_laload C (n := 40) 7 27 (by decide) (by decide) rfl rfl (by decide) (by decide) dX12_add_112 ?_
  refine mg_castL 0 h34 ?_
  refine mg_lastore C (n := 480) 12 27 (by decide) (by decide) rfl rfl (by omega) (by decide) dX12_add_113 ?_
  refine mg_iincN C (lv' := [(2, .int (nI 28)), (0, .ref (a 0)), (1, .int (nI n1))]) 1 0 rfl rfl (Nat.le_of_ble_eq_true rfl) rfl dX12_add_114 ?_
  refine mg_goto C 88 (by decide) dX12_add_117 ?_
  refine mg_iload_n C (i := 2) rfl 0 rfl dX12_add_88 ?_
  refine mg_bipush C (x := nI 40) rfl dX12_add_89 ?_
  refine mg_icmp_geN C (by omega) (by omega) 120 (by decide) dX12_add_91 (fun c_ => absurd c_ (by omega)) (fun c_91 => ?_)
  refine mg_aload_n C (i := 0) rfl 1 rfl dX12_add_94 ?_
  refine mg_arr C 12 (by decide) (by decide) rfl mL_bufferStems rfl dX12_add_95 ?_
  refine mg_bipush C (x := nI 40) rfl dX12_add_98 ?_
  refine mg_aload_n C (i := 0) rfl 1 rfl dX12_add_100 ?_
  refine mg_getI C (k := 20) (by decide) rfl mL_buffered rfl dX12_add_101 ?_
  refine mg_cast (nI 0) h3 ?_
  refine mg_imul C dX12_add_104 ?_
  refine mg_cast (nI 0) (by decide) ?_
  refine mg_iload_n C (i := 2) rfl 0 rfl dX12_add_105 ?_
  refine mg_iadd C dX12_add_106 ?_
  refine mg_cast (nI 28) (by decide) ?_
  refine mg_aload_n C (i := 0) rfl 1 rfl dX12_add_107 ?_
  refine mg_arr C 7 (by decide) (by decide) rfl mL_draftStems rfl dX12_add_108 ?_
  refine mg_iload_n C (i := 2) rfl 0 rfl dX12_add_111 ?_
  refine mg_laload C (n := 40) 7 28 (by decide) (by decide) rfl rfl (by decide) (by decide) dX12_add_112 ?_
  refine mg_castL 0 h35 ?_
  refine mg_lastore C (n := 480) 12 28 (by decide) (by decide) rfl rfl (by omega) (by decide) dX12_add_113 ?_
  refine mg_iincN C (lv' := [(2, .int (nI 29)), (0, .ref (a 0)), (1, .int (nI n1))]) 1 0 rfl rfl (Nat.le_of_ble_eq_true rfl) rfl dX12_add_114 ?_
  refine mg_goto C 88 (by decide) dX12_add_117 ?_
  refine mg_iload_n C (i := 2) rfl 0 rfl dX12_add_88 ?_
  refine mg_bipush C (x := nI 40) rfl dX12_add_89 ?_
  refine mg_icmp_geN C (by omega) (by omega) 120 (by decide) dX12_add_91 (fun c_ => absurd c_ (by omega)) (fun c_91 => ?_)
  refine mg_aload_n C (i := 0) rfl 1 rfl dX12_add_94 ?_
  refine mg_arr C 12 (by decide) (by decide) rfl mL_bufferStems rfl dX12_add_95 ?_
  refine mg_bipush C (x := nI 40) rfl dX12_add_98 ?_
  refine mg_aload_n C (i := 0) rfl 1 rfl dX12_add_100 ?_
  refine mg_getI C (k := 20) (by decide) rfl mL_buffered rfl dX12_add_101 ?_
  refine mg_cast (nI 0) h3 ?_
  refine mg_imul C dX12_add_104 ?_
  refine mg_cast (nI 0) (by decide) ?_
  refine mg_iload_n C (i := 2) rfl 0 rfl dX12_add_105 ?_
  refine mg_iadd C dX12_add_106 ?_
  refine mg_cast (nI 29) (by decide) ?_
  refine mg_aload_n C (i := 0) rfl 1 rfl dX12_add_107 ?_
  refine mg_arr C 7 (by decide) (by decide) rfl mL_draftStems rfl dX12_add_108 ?_
  refine mg_iload_n C (i := 2) rfl 0 rfl dX12_add_111 ?_
  refine mg_laload C (n := 40) 7 29 (by decide) (by decide) rfl rfl (by decide) (by decide) dX12_add_112 ?_
  refine mg_castL 0 h36 ?_
  refine mg_lastore C (n := 480) 12 29 (by decide) (by decide) rfl rfl (by omega) (by decide) dX12_add_113 ?_
  refine mg_iincN C (lv' := [(2, .int (nI 30)), (0, .ref (a 0)), (1, .int (nI n1))]) 1 0 rfl rfl (Nat.le_of_ble_eq_true rfl) rfl dX12_add_114 ?_
  refine mg_goto C 88 (by decide) dX12_add_117 ?_
  refine mg_iload_n C (i := 2) rfl 0 rfl dX12_add_88 ?_
  refine mg_bipush C (x := nI 40) rfl dX12_add_89 ?_
  refine mg_icmp_geN C (by omega) (by omega) 120 (by decide) dX12_add_91 (fun c_ => absurd c_ (by omega)) (fun c_91 => ?_)
  refine mg_aload_n C (i := 0) rfl 1 rfl dX12_add_94 ?_
  refine mg_arr C 12 (by decide) (by decide) rfl mL_bufferStems rfl dX12_add_95 ?_
  refine mg_bipush C (x := nI 40) rfl dX12_add_98 ?_
  refine mg_aload_n C (i := 0) rfl 1 rfl dX12_add_100 ?_
  refine mg_getI C (k := 20) (by decide) rfl mL_buffered rfl dX12_add_101 ?_
  refine mg_cast (nI 0) h3 ?_
  refine mg_imul C dX12_add_104 ?_
  refine mg_cast (nI 0) (by decide) ?_
  refine mg_iload_n C (i := 2) rfl 0 rfl dX12_add_105 ?_
  refine mg_iadd C dX12_add_106 ?_
  refine mg_cast (nI 30) (by decide) ?_
  refine mg_aload_n C (i := 0) rfl 1 rfl dX12_add_107 ?_
  refine mg_arr C 7 (by decide) (by decide) rfl mL_draftStems rfl dX12_add_108 ?_
  refine mg_iload_n C (i := 2) rfl 0 rfl dX12_add_111 ?_
  refine mg_laload C (n := 40) 7 30 (by decide) (by decide) rfl rfl (by decide) (by decide) dX12_add_112 ?_
  refine mg_castL 0 h37 ?_
  refine mg_lastore C (n := 480) 12 30 (by decide) (by decide) rfl rfl (by omega) (by decide) dX12_add_113 ?_
  refine mg_iincN C (lv' := [(2, .int (nI 31)), (0, .ref (a 0)), (1, .int (nI n1))]) 1 0 rfl rfl (Nat.le_of_ble_eq_true rfl) rfl dX12_add_114 ?_
  refine mg_goto C 88 (by decide) dX12_add_117 ?_
  refine mg_iload_n C (i := 2) rfl 0 rfl dX12_add_88 ?_
  refine mg_bipush C (x := nI 40) rfl dX12_add_89 ?_
  refine mg_icmp_geN C (by omega) (by omega) 120 (by decide) dX12_add_91 (fun c_ => absurd c_ (by omega)) (fun c_91 => ?_)
  refine mg_aload_n C (i := 0) rfl 1 rfl dX12_add_94 ?_
  refine mg_arr C 12 (by decide) (by decide) rfl mL_bufferStems rfl dX12_add_95 ?_
  refine mg_bipush C (x := nI 40) rfl dX12_add_98 ?_
  refine mg_aload_n C (i := 0) rfl 1 rfl dX12_add_100 ?_
  refine mg_getI C (k := 20) (by decide) rfl mL_buffered rfl dX12_add_101 ?_
  refine mg_cast (nI 0) h3 ?_
  refine mg_imul C dX12_add_104 ?_
  refine mg_cast (nI 0) (by decide) ?_
  refine mg_iload_n C (i := 2) rfl 0 rfl dX12_add_105 ?_
  refine mg_iadd C dX12_add_106 ?_
  refine mg_cast (nI 31) (by decide) ?_
  refine mg_aload_n C (i := 0) rfl 1 rfl dX12_add_107 ?_
  refine mg_arr C 7 (by decide) (by decide) rfl mL_draftStems rfl dX12_add_108 ?_
  refine mg_iload_n C (i := 2) rfl 0 rfl dX12_add_111 ?_
  refine mg_laload C (n := 40) 7 31 (by decide) (by decide) rfl rfl (by decide) (by decide) dX12_add_112 ?_
  refine mg_castL 0 h38 ?_
  refine mg_lastore C (n := 480) 12 31 (by decide) (by decide) rfl rfl (by omega) (by decide) dX12_add_113 ?_
  refine mg_iincN C (lv' := [(2, .int (nI 32)), (0, .ref (a 0)), (1, .int (nI n1))]) 1 0 rfl rfl (Nat.le_of_ble_eq_true rfl) rfl dX12_add_114 ?_
  refine mg_goto C 88 (by decide) dX12_add_117 ?_
  refine mg_iload_n C (i := 2) rfl 0 rfl dX12_add_88 ?_
  refine mg_bipush C (x := nI 40) rfl dX12_add_89 ?_
  refine mg_icmp_geN C (by omega) (by omega) 120 (by decide) dX12_add_91 (fun c_ => absurd c_ (by omega)) (fun c_91 => ?_)
  refine mg_aload_n C (i := 0) rfl 1 rfl dX12_add_94 ?_
  refine mg_arr C 12 (by decide) (by decide) rfl mL_bufferStems rfl dX12_add_95 ?_
  refine mg_bipush C (x := nI 40) rfl dX12_add_98 ?_
  refine mg_aload_n C (i := 0) rfl 1 rfl dX12_add_100 ?_
  refine mg_getI C (k := 20) (by decide) rfl mL_buffered rfl dX12_add_101 ?_
  refine mg_cast (nI 0) h3 ?_
  refine mg_imul C dX12_add_104 ?_
  refine mg_cast (nI 0) (by decide) ?_
  refine mg_iload_n C (i := 2) rfl 0 rfl dX12_add_105 ?_
  refine mg_iadd C dX12_add_106 ?_
  refine mg_cast (nI 32) (by decide) ?_
  refine mg_aload_n C (i := 0) rfl 1 rfl dX12_add_107 ?_
  refine mg_arr C 7 (by decide) (by decide) rfl mL_draftStems rfl dX12_add_108 ?_
  refine mg_iload_n C (i := 2) rfl 0 rfl dX12_add_111 ?_
  refine mg_laload C (n := 40) 7 32 (by decide) (by decide) rfl rfl (by decide) (by decide) dX12_add_112 ?_
  refine mg_castL 0 h39 ?_
  refine mg_lastore C (n := 480) 12 32 (by decide) (by decide) rfl rfl (by omega) (by decide) dX12_add_113 ?_
  refine mg_iincN C (lv' := [(2, .int (nI 33)), (0, .ref (a 0)), (1, .int (nI n1))]) 1 0 rfl rfl (Nat.le_of_ble_eq_true rfl) rfl dX12_add_114 ?_
  refine mg_goto C 88 (by decide) dX12_add_117 ?_
  refine mg_iload_n C (i := 2) rfl 0 rfl dX12_add_88 ?_
  refine mg_bipush C (x := nI 40) rfl dX12_add_89 ?_
  refine mg_icmp_geN C (by omega) (by omega) 120 (by decide) dX12_add_91 (fun c_ => absurd c_ (by omega)) (fun c_91 => ?_)
  refine mg_aload_n C (i := 0) rfl 1 rfl dX12_add_94 ?_
  refine mg_arr C 12 (by decide) (by decide) rfl mL_bufferStems rfl dX12_add_95 ?_
  refine mg_bipush C (x := nI 40) rfl dX12_add_98 ?_
  refine mg_aload_n C (i := 0) rfl 1 rfl dX12_add_100 ?_
  refine mg_getI C (k := 20) (by decide) rfl mL_buffered rfl dX12_add_101 ?_
  refine mg_cast (nI 0) h3 ?_
  refine mg_imul C dX12_add_104 ?_
  refine mg_cast (nI 0) (by decide) ?_
  refine mg_iload_n C (i := 2) rfl 0 rfl dX12_add_105 ?_
  refine mg_iadd C dX12_add_106 ?_
  refine mg_cast (nI 33) (by decide) ?_
  refine mg_aload_n C (i := 0) rfl 1 rfl dX12_add_107 ?_
  refine mg_arr C 7 (by decide) (by decide) rfl mL_draftStems rfl dX12_add_108 ?_
  refine mg_iload_n C (i := 2) rfl 0 rfl dX12_add_111 ?_
  refine mg_laload C (n := 40) 7 33 (by decide) (by decide) rfl rfl (by decide) (by decide) dX12_add_112 ?_
  refine mg_castL 0 h40 ?_
  refine mg_lastore C (n := 480) 12 33 (by decide) (by decide) rfl rfl (by omega) (by decide) dX12_add_113 ?_
  refine mg_iincN C (lv' := [(2, .int (nI 34)), (0, .ref (a 0)), (1, .int (nI n1))]) 1 0 rfl rfl (Nat.le_of_ble_eq_true rfl) rfl dX12_add_114 ?_
  refine mg_goto C 88 (by decide) dX12_add_117 ?_
  refine mg_iload_n C (i := 2) rfl 0 rfl dX12_add_88 ?_
  refine mg_bipush C (x := nI 40) rfl dX12_add_89 ?_
  refine mg_icmp_geN C (by omega) (by omega) 120 (by decide) dX12_add_91 (fun c_ => absurd c_ (by omega)) (fun c_91 => ?_)
  refine mg_aload_n C (i := 0) rfl 1 rfl dX12_add_94 ?_
  refine mg_arr C 12 (by decide) (by decide) rfl mL_bufferStems rfl dX12_add_95 ?_
  refine mg_bipush C (x := nI 40) rfl dX12_add_98 ?_
  refine mg_aload_n C (i := 0) rfl 1 rfl dX12_add_100 ?_
  refine mg_getI C (k := 20) (by decide) rfl mL_buffered rfl dX12_add_101 ?_
  refine mg_cast (nI 0) h3 ?_
  refine mg_imul C dX12_add_104 ?_
  refine mg_cast (nI 0) (by decide) ?_
  refine mg_iload_n C (i := 2) rfl 0 rfl dX12_add_105 ?_
  refine mg_iadd C dX12_add_106 ?_
  refine mg_cast (nI 34) (by decide) ?_
  refine mg_aload_n C (i := 0) rfl 1 rfl dX12_add_107 ?_
  refine mg_arr C 7 (by decide) (by decide) rfl mL_draftStems rfl dX12_add_108 ?_
  refine mg_iload_n C (i := 2) rfl 0 rfl dX12_add_111 ?_
  refine mg_laload C (n := 40) 7 34 (by decide) (by decide) rfl rfl (by decide) (by decide) dX12_add_112 ?_
  refine mg_castL 0 h41 ?_
  refine mg_lastore C (n := 480) 12 34 (by decide) (by decide) rfl rfl (by omega) (by decide) dX12_add_113 ?_
  refine mg_iincN C (lv' := [(2, .int (nI 35)), (0, .ref (a 0)), (1, .int (nI n1))]) 1 0 rfl rfl (Nat.le_of_ble_eq_true rfl) rfl dX12_add_114 ?_
  refine mg_goto C 88 (by decide) dX12_add_117 ?_
  refine mg_iload_n C (i := 2) rfl 0 rfl dX12_add_88 ?_
  refine mg_bipush C (x := nI 40) rfl dX12_add_89 ?_
  refine mg_icmp_geN C (by omega) (by omega) 120 (by decide) dX12_add_91 (fun c_ => absurd c_ (by omega)) (fun c_91 => ?_)
  refine mg_aload_n C (i := 0) rfl 1 rfl dX12_add_94 ?_
  refine mg_arr C 12 (by decide) (by decide) rfl mL_bufferStems rfl dX12_add_95 ?_
  refine mg_bipush C (x := nI 40) rfl dX12_add_98 ?_
  refine mg_aload_n C (i := 0) rfl 1 rfl dX12_add_100 ?_
  refine mg_getI C (k := 20) (by decide) rfl mL_buffered rfl dX12_add_101 ?_
  refine mg_cast (nI 0) h3 ?_
  refine mg_imul C dX12_add_104 ?_
  refine mg_cast (nI 0) (by decide) ?_
  refine mg_iload_n C (i := 2) rfl 0 rfl dX12_add_105 ?_
  refine mg_iadd C dX12_add_106 ?_
  refine mg_cast (nI 35) (by decide) ?_
  refine mg_aload_n C (i := 0) rfl 1 rfl dX12_add_107 ?_
  refine mg_arr C 7 (by decide) (by decide) rfl mL_draftStems rfl dX12_add_108 ?_
  refine mg_iload_n C (i := 2) rfl 0 rfl dX12_add_111 ?_
  refine mg_laload C (n := 40) 7 35 (by decide) (by decide) rfl rfl (by decide) (by decide) dX12_add_112 ?_
  refine mg_castL 0 h42 ?_
  refine mg_lastore C (n := 480) 12 35 (by decide) (by decide) rfl rfl (by omega) (by decide) dX12_add_113 ?_
  refine mg_iincN C (lv' := [(2, .int (nI 36)), (0, .ref (a 0)), (1, .int (nI n1))]) 1 0 rfl rfl (Nat.le_of_ble_eq_true rfl) rfl dX12_add_114 ?_
  refine mg_goto C 88 (by decide) dX12_add_117 ?_
  refine mg_iload_n C (i := 2) rfl 0 rfl dX12_add_88 ?_
  refine mg_bipush C (x := nI 40) rfl dX12_add_89 ?_
  refine mg_icmp_geN C (by omega) (by omega) 120 (by decide) dX12_add_91 (fun c_ => absurd c_ (by omega)) (fun c_91 => ?_)
  refine mg_aload_n C (i := 0) rfl 1 rfl dX12_add_94 ?_
  refine mg_arr C 12 (by decide) (by decide) rfl mL_bufferStems rfl dX12_add_95 ?_
  refine mg_bipush C (x := nI 40) rfl dX12_add_98 ?_
  refine mg_aload_n C (i := 0) rfl 1 rfl dX12_add_100 ?_
  refine mg_getI C (k := 20) (by decide) rfl mL_buffered rfl dX12_add_101 ?_
  refine mg_cast (nI 0) h3 ?_
  refine mg_imul C dX12_add_104 ?_
  refine mg_cast (nI 0) (by decide) ?_
  refine mg_iload_n C (i := 2) rfl 0 rfl dX12_add_105 ?_
  refine mg_iadd C dX12_add_106 ?_
  refine mg_cast (nI 36) (by decide) ?_
  refine mg_aload_n C (i := 0) rfl 1 rfl dX12_add_107 ?_
  refine mg_arr C 7 (by decide) (by decide) rfl mL_draftStems rfl dX12_add_108 ?_
  refine mg_iload_n C (i := 2) rfl 0 rfl dX12_add_111 ?_
  refine mg_laload C (n := 40) 7 36 (by decide) (by decide) rfl rfl (by decide) (by decide) dX12_add_112 ?_
  refine mg_castL 0 h43 ?_
  refine mg_lastore C (n := 480) 12 36 (by decide) (by decide) rfl rfl (by omega) (by decide) dX12_add_113 ?_
  refine mg_iincN C (lv' := [(2, .int (nI 37)), (0, .ref (a 0)), (1, .int (nI n1))]) 1 0 rfl rfl (Nat.le_of_ble_eq_true rfl) rfl dX12_add_114 ?_
  refine mg_goto C 88 (by decide) dX12_add_117 ?_
  refine mg_iload_n C (i := 2) rfl 0 rfl dX12_add_88 ?_
  refine mg_bipush C (x := nI 40) rfl dX12_add_89 ?_
  refine mg_icmp_geN C (by omega) (by omega) 120 (by decide) dX12_add_91 (fun c_ => absurd c_ (by omega)) (fun c_91 => ?_)
  refine mg_aload_n C (i := 0) rfl 1 rfl dX12_add_94 ?_
  refine mg_arr C 12 (by decide) (by decide) rfl mL_bufferStems rfl dX12_add_95 ?_
  refine mg_bipush C (x := nI 40) rfl dX12_add_98 ?_
  refine mg_aload_n C (i := 0) rfl 1 rfl dX12_add_100 ?_
  refine mg_getI C (k := 20) (by decide) rfl mL_buffered rfl dX12_add_101 ?_
  refine mg_cast (nI 0) h3 ?_
  refine mg_imul C dX12_add_104 ?_
  refine mg_cast (nI 0) (by decide) ?_
  refine mg_iload_n C (i := 2) rfl 0 rfl dX12_add_105 ?_
  refine mg_iadd C dX12_add_106 ?_
  refine mg_cast (nI 37) (by decide) ?_
  refine mg_aload_n C (i := 0) rfl 1 rfl dX12_add_107 ?_
  refine mg_arr C 7 (by decide) (by decide) rfl mL_draftStems rfl dX12_add_108 ?_
  refine mg_iload_n C (i := 2) rfl 0 rfl dX12_add_111 ?_
  refine mg_laload C (n := 40) 7 37 (by decide) (by decide) rfl rfl (by decide) (by decide) dX12_add_112 ?_
  refine mg_castL 0 h44 ?_
  refine mg_lastore C (n := 480) 12 37 (by decide) (by decide) rfl rfl (by omega) (by decide) dX12_add_113 ?_
  refine mg_iincN C (lv' := [(2, .int (nI 38)), (0, .ref (a 0)), (1, .int (nI n1))]) 1 0 rfl rfl (Nat.le_of_ble_eq_true rfl) rfl dX12_add_114 ?_
  refine mg_goto C 88 (by decide) dX12_add_117 ?_
  refine mg_iload_n C (i := 2) rfl 0 rfl dX12_add_88 ?_
  refine mg_bipush C (x := nI 40) rfl dX12_add_89 ?_
  refine mg_icmp_geN C (by omega) (by omega) 120 (by decide) dX12_add_91 (fun c_ => absurd c_ (by omega)) (fun c_91 => ?_)
  refine mg_aload_n C (i := 0) rfl 1 rfl dX12_add_94 ?_
  refine mg_arr C 12 (by decide) (by decide) rfl mL_bufferStems rfl dX12_add_95 ?_
  refine mg_bipush C (x := nI 40) rfl dX12_add_98 ?_
  refine mg_aload_n C (i := 0) rfl 1 rfl dX12_add_100 ?_
  refine mg_getI C (k := 20) (by decide) rfl mL_buffered rfl dX12_add_101 ?_
  refine mg_cast (nI 0) h3 ?_
  refine mg_imul C dX12_add_104 ?_
  refine mg_cast (nI 0) (by decide) ?_
  refine mg_iload_n C (i := 2) rfl 0 rfl dX12_add_105 ?_
  refine mg_iadd C dX12_add_106 ?_
  refine mg_cast (nI 38) (by decide) ?_
  refine mg_aload_n C (i := 0) rfl 1 rfl dX12_add_107 ?_
  refine mg_arr C 7 (by decide) (by decide) rfl mL_draftStems rfl dX12_add_108 ?_
  refine mg_iload_n C (i := 2) rfl 0 rfl dX12_add_111 ?_
  refine mg_laload C (n := 40) 7 38 (by decide) (by decide) rfl rfl (by decide) (by decide) dX12_add_112 ?_
  refine mg_castL 0 h45 ?_
  refine mg_lastore C (n := 480) 12 38 (by decide) (by decide) rfl rfl (by omega) (by decide) dX12_add_113 ?_
  refine mg_iincN C (lv' := [(2, .int (nI 39)), (0, .ref (a 0)), (1, .int (nI n1))]) 1 0 rfl rfl (Nat.le_of_ble_eq_true rfl) rfl dX12_add_114 ?_
  refine mg_goto C 88 (by decide) dX12_add_117 ?_
  refine mg_iload_n C (i := 2) rfl 0 rfl dX12_add_88 ?_
  refine mg_bipush C (x := nI 40) rfl dX12_add_89 ?_
  refine mg_icmp_geN C (by omega) (by omega) 120 (by decide) dX12_add_91 (fun c_ => absurd c_ (by omega)) (fun c_91 => ?_)
  refine mg_aload_n C (i := 0) rfl 1 rfl dX12_add_94 ?_
  refine mg_arr C 12 (by decide) (by decide) rfl mL_bufferStems rfl dX12_add_95 ?_
  refine mg_bipush C (x := nI 40) rfl dX12_add_98 ?_
  refine mg_aload_n C (i := 0) rfl 1 rfl dX12_add_100 ?_
  refine mg_getI C (k := 20) (by decide) rfl mL_buffered rfl dX12_add_101 ?_
  refine mg_cast (nI 0) h3 ?_
  refine mg_imul C dX12_add_104 ?_
  refine mg_cast (nI 0) (by decide) ?_
  refine mg_iload_n C (i := 2) rfl 0 rfl dX12_add_105 ?_
  refine mg_iadd C dX12_add_106 ?_
  refine mg_cast (nI 39) (by decide) ?_
  refine mg_aload_n C (i := 0) rfl 1 rfl dX12_add_107 ?_
  refine mg_arr C 7 (by decide) (by decide) rfl mL_draftStems rfl dX12_add_108 ?_
  refine mg_iload_n C (i := 2) rfl 0 rfl dX12_add_111 ?_
  refine mg_laload C (n := 40) 7 39 (by decide) (by decide) rfl rfl (by decide) (by decide) dX12_add_112 ?_
  refine mg_castL 0 h46 ?_
  refine mg_lastore C (n := 480) 12 39 (by decide) (by decide) rfl rfl (by omega) (by decide) dX12_add_113 ?_
  refine mg_iincN C (lv' := [(2, .int (nI 40)), (0, .ref (a 0)), (1, .int (nI n1))]) 1 0 rfl rfl (Nat.le_of_ble_eq_true rfl) rfl dX12_add_114 ?_
  refine mg_goto C 88 (by decide) dX12_add_117 ?_
  refine mg_iload_n C (i := 2) rfl 0 rfl dX12_add_88 ?_
  refine mg_bipush C (x := nI 40) rfl dX12_add_89 ?_
  refine mg_icmp_geN C (by omega) (by omega) 120 (by decide) dX12_add_91 (fun c_91 => ?_) (fun c_ => absurd c_ (by omega))
  refine mg_iconst C (x := nI 0) rfl dX12_add_120 ?_
  refine mg_istore_n C (i := 2) (lv' := [(2, .int (nI 0)), (0, .ref (a 0)), (1, .int (nI n1))]) rfl (Nat.le_of_ble_eq_true rfl) rfl dX12_add_121 ?_
  refine mg_iload_n C (i := 2) rfl 0 rfl dX12_add_122 ?_
  refine mg_iconst C (x := nI 2) rfl dX12_add_123 ?_
  refine mg_icmp_geN C (by omega) (by omega) 159 (by decide) dX12_add_124 (fun c_ => absurd c_ (by omega)) (fun c_124 => ?_)
  refine mg_aload_n C (i := 0) rfl 1 rfl dX12_add_127 ?_
  refine mg_arr C 13 (by decide) (by decide) rfl mL_bufferPlaces rfl dX12_add_128 ?_
  refine mg_iconst C (x := nI 2) rfl dX12_add_131 ?_
  refine mg_aload_n C (i := 0) rfl 1 rfl dX12_add_132 ?_
  refine mg_getI C (k := 20) (by decide) rfl mL_buffered rfl dX12_add_133 ?_
  refine mg_cast (nI 0) h3 ?_
  refine mg_imul C dX12_add_136 ?_
  refine mg_cast (nI 0) (by decide) ?_
  refine mg_iload_n C (i := 2) rfl 0 rfl dX12_add_137 ?_
  refine mg_iadd C dX12_add_138 ?_
  refine mg_cast (nI 0) (by decide) ?_
  refine mg_aload_n C (i := 0) rfl 1 rfl dX12_add_139 ?_
  refine mg_arr C 8 (by decide) (by decide) rfl mL_draftPlaces rfl dX12_add_140 ?_
  refine mg_iload_n C (i := 2) rfl 0 rfl dX12_add_143 ?_
  refine mg_iaload C (n := 2) 8 0 (by decide) (by decide) rfl rfl (by decide) (by decide) dX12_add_144 ?_
  refine mg_cast (nI 0) h47 ?_
  refine mg_iastore C (n := 24) 13 0 (by decide) (by decide) rfl rfl (by omega) (by decide) dX12_add_145 ?_
  refine mg_aload_n C (i := 0) rfl 1 rfl dX12_add_146 ?_
  refine mg_arr C 8 (by decide) (by decide) rfl mL_draftPlaces rfl dX12_add_147 ?_
  refine mg_iload_n C (i := 2) rfl 0 rfl dX12_add_150 ?_
  refine mg_iconst C (x := nI 0) rfl dX12_add_151 ?_
  refine mg_iastore C (n := 2) 8 0 (by decide) (by decide) rfl rfl (by omega) (by decide) dX12_add_152 ?_
  refine mg_iincN C (lv' := [(2, .int (nI 1)), (0, .ref (a 0)), (1, .int (nI n1))]) 1 0 rfl rfl (Nat.le_of_ble_eq_true rfl) rfl dX12_add_153 ?_
  refine mg_goto C 122 (by decide) dX12_add_156 ?_
  refine mg_iload_n C (i := 2) rfl 0 rfl dX12_add_122 ?_
  refine mg_iconst C (x := nI 2) rfl dX12_add_123 ?_
  refine mg_icmp_geN C (by omega) (by omega) 159 (by decide) dX12_add_124 (fun c_ => absurd c_ (by omega)) (fun c_124 => ?_)
  refine mg_aload_n C (i := 0) rfl 1 rfl dX12_add_127 ?_
  refine mg_arr C 13 (by decide) (by decide) rfl mL_bufferPlaces rfl dX12_add_128 ?_
  refine mg_iconst C (x := nI 2) rfl dX12_add_131 ?_
  refine mg_aload_n C (i := 0) rfl 1 rfl dX12_add_132 ?_
  refine mg_getI C (k := 20) (by decide) rfl mL_buffered rfl dX12_add_133 ?_
  refine mg_cast (nI 0) h3 ?_
  refine mg_imul C dX12_add_136 ?_
  refine mg_cast (nI 0) (by decide) ?_
  refine mg_iload_n C (i := 2) rfl 0 rfl dX12_add_137 ?_
  refine mg_iadd C dX12_add_138 ?_
  refine mg_cast (nI 1) (by decide) ?_
  refine mg_aload_n C (i := 0) rfl 1 rfl dX12_add_139 ?_
  refine mg_arr C 8 (by decide) (by decide) rfl mL_draftPlaces rfl dX12_add_140 ?_
  refine mg_iload_n C (i := 2) rfl 0 rfl dX12_add_143 ?_
  refine mg_iaload C (n := 2) 8 1 (by decide) (by decide) rfl rfl (by decide) (by decide) dX12_add_144 ?_
  refine mg_cast (nI 0) h48 ?_
  refine mg_iastore C (n := 24) 13 1 (by decide) (by decide) rfl rfl (by omega) (by decide) dX12_add_145 ?_
  refine mg_aload_n C (i := 0) rfl 1 rfl dX12_add_146 ?_
  refine mg_arr C 8 (by decide) (by decide) rfl mL_draftPlaces rfl dX12_add_147 ?_
  refine mg_iload_n C (i := 2) rfl 0 rfl dX12_add_150 ?_
  refine mg_iconst C (x := nI 0) rfl dX12_add_151 ?_
  refine mg_iastore C (n := 2) 8 1 (by decide) (by decide) rfl rfl (by omega) (by decide) dX12_add_152 ?_
  refine mg_iincN C (lv' := [(2, .int (nI 2)), (0, .ref (a 0)), (1, .int (nI n1))]) 1 0 rfl rfl (Nat.le_of_ble_eq_true rfl) rfl dX12_add_153 ?_
  refine mg_goto C 122 (by decide) dX12_add_156 ?_
  refine mg_iload_n C (i := 2) rfl 0 rfl dX12_add_122 ?_
  refine mg_iconst C (x := nI 2) rfl dX12_add_123 ?_
  refine mg_icmp_geN C (by omega) (by omega) 159 (by decide) dX12_add_124 (fun c_124 => ?_) (fun c_ => absurd c_ (by omega))
  refine mg_aload_n C (i := 0) rfl 1 rfl dX12_add_159 ?_
  refine mg_iconst C (x := nI 0) rfl dX12_add_160 ?_
  refine mg_put C (k := 13) (by decide) rfl mL_draftCategory rfl (by decide +kernel) mT_draftCategory rfl rfl dX12_add_161 ?_
  refine mg_aload_n C (i := 0) rfl 1 rfl dX12_add_164 ?_
  refine mg_iconst C (x := nI 0) rfl dX12_add_165 ?_
  refine mg_put C (k := 14) (by decide) rfl mL_draftNumber rfl (by decide +kernel) mT_draftNumber rfl rfl dX12_add_166 ?_
  refine mg_aload_n C (i := 0) rfl 1 rfl dX12_add_169 ?_
  refine mg_dup C rfl dX12_add_170 ?_
  refine mg_getI C (k := 20) (by decide) rfl mL_buffered rfl dX12_add_171 ?_
  refine mg_cast (nI 0) h3 ?_
  refine mg_iconst C (x := nI 1) rfl dX12_add_174 ?_
  refine mg_iadd C dX12_add_175 ?_
  refine mg_cast (nI 1) (by decide) ?_
  refine mg_put C (k := 20) (by decide) rfl mL_buffered rfl (by decide +kernel) mT_buffered rfl rfl dX12_add_176 ?_
  refine mg_aload_n C (i := 0) rfl 1 rfl dX12_add_179 ?_
  refine mg_iconst C (x := nI 1) rfl dX12_add_180 ?_
  refine mg_cast (bI true) rfl ?_
  refine mg_put C (k := 10) (by decide) rfl mL_added rfl (by decide +kernel) mT_added (bI_nar _) (bI_fit _) dX12_add_181 ?_
  refine mg_aload_n C (i := 0) rfl 1 rfl dX12_add_184 ?_
  refine mg_getI C (k := 20) (by decide) rfl mL_buffered rfl dX12_add_185 ?_
  refine mg_cast (nI 1) rfl ?_
  exact mg_iret C ⟨rfl, rfl⟩ dX12_add_188
set_option maxHeartbeats 4000000 in
set_option maxRecDepth 100000 in
theorem w44_in (l : Launch) (v : Nat → Int32) (f : Nat → Nat → Int32) (g : Nat → Nat → Int64) (n1 : Nat) (h1 : 100 ≤ n1) (h2 : n1 ≤ 2147483647) : mMi l yX12_in cX12_in 3 (some .boolean) 0 0 true [.int (nI n1), .int (nI 0), .int (nI 99)] v f g (fun r_ u_ => r_ = (bI false) ∧ u_ = (v, f, g)) := by
  intro D cI cJ cZ a sz
  refine mg_body (by decide +kernel) rfl (Nat.le_of_ble_eq_true rfl) ?_
  intro p e s m args below meth c hsz C
  clear hsz
  generalize va_A (mW cI cJ cZ a v f g) sz = A at C ⊢
  refine mg_lv (lv' := [(0, .int (nI n1)), (1, .int (nI 0)), (2, .int (nI 99))]) rfl ?_
  refine mg_iload_n C (i := 0) rfl 0 rfl dX12_in_0 ?_
  refine mg_iload_n C (i := 1) rfl 1 rfl dX12_in_1 ?_
  refine mg_icmp_ltN C (by omega) (by omega) 14 (by decide) dX12_in_2 (fun c_ => absurd c_ (by omega)) (fun c_2 => ?_)
  refine mg_iload_n C (i := 0) rfl 0 rfl dX12_in_5 ?_
  refine mg_iload_n C (i := 2) rfl 2 rfl dX12_in_6 ?_
  refine mg_icmp_gtN C (by omega) (by omega) 14 (by decide) dX12_in_7 (fun c_7 => ?_) (fun c_ => absurd c_ (by omega))
  refine mg_iconst C (x := nI 0) rfl dX12_in_14 ?_
  refine mg_cast (bI false) rfl ?_
  exact mg_zret C (bI_nar _) ⟨rfl, rfl⟩ dX12_in_15
set_option maxHeartbeats 4000000 in
set_option maxRecDepth 100000 in
theorem w45_isKey (l : Launch) (v : Nat → Int32) (f : Nat → Nat → Int32) (g : Nat → Nat → Int64) (n1 : Nat) (h1 : 100 ≤ n1) (h2 : n1 ≤ 2147483647) : mMi l yX12_isKey cX12_isKey 1 (some .boolean) 1 22 true [.int (nI n1)] v f g (fun r_ u_ => r_ = (bI false) ∧ u_ = (v, f, g)) := by
  intro D cI cJ cZ a sz
  refine mg_body (by decide +kernel) rfl (Nat.le_of_ble_eq_true rfl) ?_
  intro p e s m args below meth c hsz C
  clear hsz
  generalize va_A (mW cI cJ cZ a v f g) sz = A at C ⊢
  refine mg_lv (lv' := [(0, .int (nI n1))]) rfl ?_
  refine mg_iload_n C (i := 0) rfl 0 rfl dX12_isKey_0 ?_
  refine mg_iconst C (x := nI 0) rfl dX12_isKey_1 ?_
  refine mg_bipush C (x := nI 99) rfl dX12_isKey_2 ?_
  refine mg_dosi C (w44_in l v f g n1 (by omega) (by omega)) mCal_in rfl ⟨by decide, by decide⟩ rfl (Nat.le_of_ble_eq_true rfl) dX12_isKey_4 ?_
  exact mg_zret C (bI_nar _) ⟨rfl, rfl⟩ dX12_isKey_7
set_option maxHeartbeats 4000000 in
set_option maxRecDepth 100000 in
theorem w46_add (l : Launch) (v : Nat → Int32) (f : Nat → Nat → Int32) (g : Nat → Nat → Int64) (n1 : Nat) (h1 : 100 ≤ n1) (h2 : n1 ≤ 2147483647) (h3 : v 98 = (nI 0)) (h4 : v 20 = (nI 0)) : mMi l yX12_add cX12_add 3 (some .int) 2 42 false [.int (nI n1)] v f g (fun r_ u_ => r_ = (nI 0) ∧ u_ = (upd v 99 (nI 1), f, g)) := by
  intro D cI cJ cZ a sz
  refine mg_body (by decide +kernel) rfl (Nat.le_of_ble_eq_true rfl) ?_
  intro p e s m args below meth c hsz C
  clear hsz
  generalize va_A (mW cI cJ cZ a v f g) sz = A at C ⊢
  refine mg_lv (lv' := [(0, .ref (a 0)), (1, .int (nI n1))]) rfl ?_
  refine mg_aload_n C (i := 0) rfl 0 rfl dX12_add_0 ?_
  refine mg_iload_n C (i := 1) rfl 1 rfl dX12_add_1 ?_
  refine mg_dosi C (w45_isKey l v f g n1 (by omega) (by omega)) mCal_isKey rfl ⟨by decide, by decide⟩ rfl (Nat.le_of_ble_eq_true rfl) dX12_add_2 ?_
  refine mg_aload_n C (i := 0) rfl 0 rfl dX12_add_5 ?_
  refine mg_getI C (k := 98) (by decide) rfl mL_down rfl dX12_add_6 ?_
  refine mg_cast (nI 0) h3 ?_
  refine mg_if_neN C (by omega) 34 (by decide) dX12_add_9 (fun c_ => absurd c_ (by omega)) (fun c_9 => ?_)
  refine mg_aload_n C (i := 0) rfl 0 rfl dX12_add_12 ?_
  refine mg_getI C (k := 20) (by decide) rfl mL_buffered rfl dX12_add_13 ?_
  refine mg_cast (nI 0) h4 ?_
  refine mg_bipush C (x := nI 12) rfl dX12_add_16 ?_
  refine mg_icmp_ltN C (by omega) (by omega) 30 (by decide) dX12_add_18 (fun c_18 => ?_) (fun c_ => absurd c_ (by omega))
  refine mg_iconst C (x := nI 1) rfl dX12_add_30 ?_
  refine mg_goto C 35 (by decide) dX12_add_31 ?_
  refine mg_iconst C (x := nI 1) rfl dX12_add_35 ?_
  refine mg_doi C (w2_goes l v f g ) mCal_goes rfl ⟨by decide, by decide⟩ rfl (Nat.le_of_ble_eq_true rfl) dX12_add_36 ?_
  refine mg_if_neB C 44 (by decide) dX12_add_39 (fun c_ => absurd c_ (by decide)) (fun c_39 => ?_)
  refine mg_iconst C (x := nI 0) rfl dX12_add_42 ?_
  exact mg_iret C ⟨rfl, rfl⟩ dX12_add_43
set_option maxHeartbeats 4000000 in
set_option maxRecDepth 100000 in
theorem w47_delete (l : Launch) (v : Nat → Int32) (f : Nat → Nat → Int32) (g : Nat → Nat → Int64) (x1 : Int32) (h1 : x1 < 0) (h2 : v 98 = (nI 0)) : mMi l yX12_delete cX12_delete 2 (some .boolean) 2 42 false [.int x1] v f g (fun r_ u_ => r_ = (bI false) ∧ u_ = (upd v 99 (nI 1), f, g)) := by
  intro D cI cJ cZ a sz
  refine mg_body (by decide +kernel) rfl (Nat.le_of_ble_eq_true rfl) ?_
  intro p e s m args below meth c hsz C
  clear hsz
  generalize va_A (mW cI cJ cZ a v f g) sz = A at C ⊢
  refine mg_lv (lv' := [(0, .ref (a 0)), (1, .int x1)]) rfl ?_
  refine mg_aload_n C (i := 0) rfl 0 rfl dX12_delete_0 ?_
  refine mg_iload_n C (i := 1) rfl 1 rfl dX12_delete_1 ?_
  refine mg_dosi C (w37_isKey l v f g x1 h1) mCal_isKey rfl ⟨by decide, by decide⟩ rfl (Nat.le_of_ble_eq_true rfl) dX12_delete_2 ?_
  refine mg_aload_n C (i := 0) rfl 0 rfl dX12_delete_5 ?_
  refine mg_getI C (k := 98) (by decide) rfl mL_down rfl dX12_delete_6 ?_
  refine mg_cast (nI 0) h2 ?_
  refine mg_if_neN C (by omega) 16 (by decide) dX12_delete_9 (fun c_ => absurd c_ (by omega)) (fun c_9 => ?_)
  refine mg_iconst C (x := nI 1) rfl dX12_delete_12 ?_
  refine mg_goto C 17 (by decide) dX12_delete_13 ?_
  refine mg_iconst C (x := nI 1) rfl dX12_delete_17 ?_
  refine mg_doi C (w2_goes l v f g ) mCal_goes rfl ⟨by decide, by decide⟩ rfl (Nat.le_of_ble_eq_true rfl) dX12_delete_18 ?_
  refine mg_if_eqB C 36 (by decide) dX12_delete_21 (fun c_21 => ?_) (fun c_ => absurd c_ (by decide))
  refine mg_iconst C (x := nI 0) rfl dX12_delete_36 ?_
  refine mg_cast (bI false) rfl ?_
  exact mg_zret C (bI_nar _) ⟨rfl, rfl⟩ dX12_delete_37
set_option maxHeartbeats 4000000 in
set_option maxRecDepth 100000 in
theorem w48_delete (l : Launch) (v : Nat → Int32) (f : Nat → Nat → Int32) (g : Nat → Nat → Int64) (n1 : Nat) (h1 : n1 ≤ 99) (h2 : v 98 = (nI 0)) (h3 : v 20 = (nI 0)) (h4 : v 34 = (nI 0)) : mMi l yX12_delete cX12_delete 2 (some .boolean) 2 49 false [.int (nI n1)] v f g (fun r_ u_ => r_ = (bI false) ∧ u_ = (upd v 99 (nI 0), f, g)) := by
  intro D cI cJ cZ a sz
  refine mg_body (by decide +kernel) rfl (Nat.le_of_ble_eq_true rfl) ?_
  intro p e s m args below meth c hsz C
  clear hsz
  generalize va_A (mW cI cJ cZ a v f g) sz = A at C ⊢
  refine mg_lv (lv' := [(0, .ref (a 0)), (1, .int (nI n1))]) rfl ?_
  refine mg_aload_n C (i := 0) rfl 0 rfl dX12_delete_0 ?_
  refine mg_iload_n C (i := 1) rfl 1 rfl dX12_delete_1 ?_
  refine mg_dosi C (w40_isKey l v f g n1 (by omega)) mCal_isKey rfl ⟨by decide, by decide⟩ rfl (Nat.le_of_ble_eq_true rfl) dX12_delete_2 ?_
  refine mg_aload_n C (i := 0) rfl 0 rfl dX12_delete_5 ?_
  refine mg_getI C (k := 98) (by decide) rfl mL_down rfl dX12_delete_6 ?_
  refine mg_cast (nI 0) h2 ?_
  refine mg_if_neN C (by omega) 16 (by decide) dX12_delete_9 (fun c_ => absurd c_ (by omega)) (fun c_9 => ?_)
  refine mg_iconst C (x := nI 1) rfl dX12_delete_12 ?_
  refine mg_goto C 17 (by decide) dX12_delete_13 ?_
  refine mg_iconst C (x := nI 1) rfl dX12_delete_17 ?_
  refine mg_doi C (w6_goes l v f g ) mCal_goes rfl ⟨by decide, by decide⟩ rfl (Nat.le_of_ble_eq_true rfl) dX12_delete_18 ?_
  refine mg_if_eqB C 36 (by decide) dX12_delete_21 (fun c_ => absurd c_ (by decide)) (fun c_21 => ?_)
  refine mg_aload_n C (i := 0) rfl 0 rfl dX12_delete_24 ?_
  refine mg_iload_n C (i := 1) rfl 1 rfl dX12_delete_25 ?_
  refine mg_doi C (w42_deletes l (upd v 99 (nI 0)) f g n1 (by omega) h3 h4) mCal_deletes rfl ⟨by decide, by decide⟩ rfl (Nat.le_of_ble_eq_true rfl) dX12_delete_26 ?_
  refine mg_if_eqB C 36 (by decide) dX12_delete_29 (fun c_29 => ?_) (fun c_ => absurd c_ (by decide))
  refine mg_iconst C (x := nI 0) rfl dX12_delete_36 ?_
  refine mg_cast (bI false) rfl ?_
  exact mg_zret C (bI_nar _) ⟨rfl, rfl⟩ dX12_delete_37
set_option maxHeartbeats 4000000 in
set_option maxRecDepth 100000 in
theorem w49_delete (l : Launch) (v : Nat → Int32) (f : Nat → Nat → Int32) (g : Nat → Nat → Int64) (n1 : Nat) (h1 : 100 ≤ n1) (h2 : n1 ≤ 2147483647) (h3 : v 98 = (nI 0)) : mMi l yX12_delete cX12_delete 2 (some .boolean) 2 42 false [.int (nI n1)] v f g (fun r_ u_ => r_ = (bI false) ∧ u_ = (upd v 99 (nI 1), f, g)) := by
  intro D cI cJ cZ a sz
  refine mg_body (by decide +kernel) rfl (Nat.le_of_ble_eq_true rfl) ?_
  intro p e s m args below meth c hsz C
  clear hsz
  generalize va_A (mW cI cJ cZ a v f g) sz = A at C ⊢
  refine mg_lv (lv' := [(0, .ref (a 0)), (1, .int (nI n1))]) rfl ?_
  refine mg_aload_n C (i := 0) rfl 0 rfl dX12_delete_0 ?_
  refine mg_iload_n C (i := 1) rfl 1 rfl dX12_delete_1 ?_
  refine mg_dosi C (w45_isKey l v f g n1 (by omega) (by omega)) mCal_isKey rfl ⟨by decide, by decide⟩ rfl (Nat.le_of_ble_eq_true rfl) dX12_delete_2 ?_
  refine mg_aload_n C (i := 0) rfl 0 rfl dX12_delete_5 ?_
  refine mg_getI C (k := 98) (by decide) rfl mL_down rfl dX12_delete_6 ?_
  refine mg_cast (nI 0) h3 ?_
  refine mg_if_neN C (by omega) 16 (by decide) dX12_delete_9 (fun c_ => absurd c_ (by omega)) (fun c_9 => ?_)
  refine mg_iconst C (x := nI 1) rfl dX12_delete_12 ?_
  refine mg_goto C 17 (by decide) dX12_delete_13 ?_
  refine mg_iconst C (x := nI 1) rfl dX12_delete_17 ?_
  refine mg_doi C (w2_goes l v f g ) mCal_goes rfl ⟨by decide, by decide⟩ rfl (Nat.le_of_ble_eq_true rfl) dX12_delete_18 ?_
  refine mg_if_eqB C 36 (by decide) dX12_delete_21 (fun c_21 => ?_) (fun c_ => absurd c_ (by decide))
  refine mg_iconst C (x := nI 0) rfl dX12_delete_36 ?_
  refine mg_cast (bI false) rfl ?_
  exact mg_zret C (bI_nar _) ⟨rfl, rfl⟩ dX12_delete_37
set_option maxHeartbeats 4000000 in
set_option maxRecDepth 100000 in
theorem w50_flushes (l : Launch) (v : Nat → Int32) (f : Nat → Nat → Int32) (g : Nat → Nat → Int64) (h1 : v 20 = (nI 0)) : mMi l yX12_flushes cX12_flushes 4 (some .int) 0 0 false [] v f g (fun r_ u_ => r_ = ((-1)) ∧ u_ = (v, f, g)) := by
  intro D cI cJ cZ a sz
  refine mg_body (by decide +kernel) rfl (Nat.le_of_ble_eq_true rfl) ?_
  intro p e s m args below meth c hsz C
  clear hsz
  generalize va_A (mW cI cJ cZ a v f g) sz = A at C ⊢
  refine mg_lv (lv' := [(0, .ref (a 0))]) rfl ?_
  refine mg_aload_n C (i := 0) rfl 0 rfl dX12_flushes_0 ?_
  refine mg_getI C (k := 20) (by decide) rfl mL_buffered rfl dX12_flushes_1 ?_
  refine mg_cast (nI 0) h1 ?_
  refine mg_istore_n C (i := 1) (lv' := [(1, .int (nI 0)), (0, .ref (a 0))]) rfl (Nat.le_of_ble_eq_true rfl) rfl dX12_flushes_4 ?_
  refine mg_iload_n C (i := 1) rfl 0 rfl dX12_flushes_5 ?_
  refine mg_if_neN C (by omega) 11 (by decide) dX12_flushes_6 (fun c_ => absurd c_ (by omega)) (fun c_6 => ?_)
  refine mg_iconst C (x := (-1)) rfl dX12_flushes_9 ?_
  exact mg_iret C ⟨rfl, rfl⟩ dX12_flushes_10
set_option maxHeartbeats 4000000 in
set_option maxRecDepth 100000 in
theorem w51_flush (l : Launch) (v : Nat → Int32) (f : Nat → Nat → Int32) (g : Nat → Nat → Int64) (h1 : v 98 = (nI 0)) (h2 : v 29 = (nI 0)) (h3 : v 20 = (nI 0)) : mMi l yX12_flush cX12_flush 1 (some .int) 1 23 false [] v f g (fun r_ u_ => r_ = ((-1)) ∧ u_ = (upd v 99 (nI 0), f, g)) := by
  intro D cI cJ cZ a sz
  refine mg_body (by decide +kernel) rfl (Nat.le_of_ble_eq_true rfl) ?_
  intro p e s m args below meth c hsz C
  clear hsz
  generalize va_A (mW cI cJ cZ a v f g) sz = A at C ⊢
  refine mg_lv (lv' := [(0, .ref (a 0))]) rfl ?_
  refine mg_aload_n C (i := 0) rfl 0 rfl dX12_flush_0 ?_
  refine mg_aload_n C (i := 0) rfl 0 rfl dX12_flush_1 ?_
  refine mg_getI C (k := 98) (by decide) rfl mL_down rfl dX12_flush_2 ?_
  refine mg_cast (nI 0) h1 ?_
  refine mg_if_neN C (by omega) 22 (by decide) dX12_flush_5 (fun c_ => absurd c_ (by omega)) (fun c_5 => ?_)
  refine mg_aload_n C (i := 0) rfl 0 rfl dX12_flush_8 ?_
  refine mg_getI C (k := 29) (by decide) rfl mL_made rfl dX12_flush_9 ?_
  refine mg_cast (nI 0) h2 ?_
  refine mg_sipush C (x := nI 200) rfl dX12_flush_12 ?_
  refine mg_icmp_geN C (by omega) (by omega) 22 (by decide) dX12_flush_15 (fun c_ => absurd c_ (by omega)) (fun c_15 => ?_)
  refine mg_iconst C (x := nI 1) rfl dX12_flush_18 ?_
  refine mg_goto C 23 (by decide) dX12_flush_19 ?_
  refine mg_iconst C (x := nI 1) rfl dX12_flush_23 ?_
  refine mg_iconst C (x := nI 1) rfl dX12_flush_24 ?_
  refine mg_doi C (w30_goes l v f g ) mCal_goes rfl ⟨by decide, by decide⟩ rfl (Nat.le_of_ble_eq_true rfl) dX12_flush_25 ?_
  refine mg_if_eqB C 38 (by decide) dX12_flush_28 (fun c_ => absurd c_ (by decide)) (fun c_28 => ?_)
  refine mg_aload_n C (i := 0) rfl 0 rfl dX12_flush_31 ?_
  refine mg_doi C (w50_flushes l (upd v 99 (nI 0)) f g h3) mCal_flushes rfl ⟨by decide, by decide⟩ rfl (Nat.le_of_ble_eq_true rfl) dX12_flush_32 ?_
  refine mg_goto C 39 (by decide) dX12_flush_35 ?_
  exact mg_iret C ⟨rfl, rfl⟩ dX12_flush_39
set_option maxHeartbeats 4000000 in
set_option maxRecDepth 100000 in
theorem w52_dueAt (l : Launch) (v : Nat → Int32) (f : Nat → Nat → Int32) (g : Nat → Nat → Int64) (h1 : v 34 = (nI 0)) : mMi l yX12_dueAt cX12_dueAt 2 (some .int) 0 0 false [] v f g (fun r_ u_ => r_ = ((-1)) ∧ u_ = (v, f, g)) := by
  intro D cI cJ cZ a sz
  refine mg_body (by decide +kernel) rfl (Nat.le_of_ble_eq_true rfl) ?_
  intro p e s m args below meth c hsz C
  clear hsz
  generalize va_A (mW cI cJ cZ a v f g) sz = A at C ⊢
  refine mg_lv (lv' := [(0, .ref (a 0))]) rfl ?_
  refine mg_iconst C (x := nI 0) rfl dX12_dueAt_0 ?_
  refine mg_istore_n C (i := 1) (lv' := [(1, .int (nI 0)), (0, .ref (a 0))]) rfl (Nat.le_of_ble_eq_true rfl) rfl dX12_dueAt_1 ?_
  refine mg_iload_n C (i := 1) rfl 0 rfl dX12_dueAt_2 ?_
  refine mg_iconst C (x := nI 2) rfl dX12_dueAt_3 ?_
  refine mg_iadd C dX12_dueAt_4 ?_
  refine mg_cast (nI 2) (by decide) ?_
  refine mg_aload_n C (i := 0) rfl 1 rfl dX12_dueAt_5 ?_
  refine mg_getI C (k := 34) (by decide) rfl mL_indexed rfl dX12_dueAt_6 ?_
  refine mg_cast (nI 0) h1 ?_
  refine mg_icmp_geN C (by omega) (by omega) 50 (by decide) dX12_dueAt_9 (fun c_9 => ?_) (fun c_ => absurd c_ (by omega))
  refine mg_iconst C (x := (-1)) rfl dX12_dueAt_50 ?_
  exact mg_iret C ⟨rfl, rfl⟩ dX12_dueAt_51
set_option maxHeartbeats 4000000 in
set_option maxRecDepth 100000 in
theorem w53_due (l : Launch) (v : Nat → Int32) (f : Nat → Nat → Int32) (g : Nat → Nat → Int64) (h1 : v 98 = (nI 0)) (h2 : v 34 = (nI 0)) : mMi l yX12_due cX12_due 1 (some .int) 1 23 false [] v f g (fun r_ u_ => r_ = ((-1)) ∧ u_ = (upd v 99 (nI 0), f, g)) := by
  intro D cI cJ cZ a sz
  refine mg_body (by decide +kernel) rfl (Nat.le_of_ble_eq_true rfl) ?_
  intro p e s m args below meth c hsz C
  clear hsz
  generalize va_A (mW cI cJ cZ a v f g) sz = A at C ⊢
  refine mg_lv (lv' := [(0, .ref (a 0))]) rfl ?_
  refine mg_aload_n C (i := 0) rfl 0 rfl dX12_due_0 ?_
  refine mg_aload_n C (i := 0) rfl 0 rfl dX12_due_1 ?_
  refine mg_getI C (k := 98) (by decide) rfl mL_down rfl dX12_due_2 ?_
  refine mg_cast (nI 0) h1 ?_
  refine mg_if_neN C (by omega) 12 (by decide) dX12_due_5 (fun c_ => absurd c_ (by omega)) (fun c_5 => ?_)
  refine mg_iconst C (x := nI 1) rfl dX12_due_8 ?_
  refine mg_goto C 13 (by decide) dX12_due_9 ?_
  refine mg_iconst C (x := nI 1) rfl dX12_due_13 ?_
  refine mg_iconst C (x := nI 1) rfl dX12_due_14 ?_
  refine mg_doi C (w30_goes l v f g ) mCal_goes rfl ⟨by decide, by decide⟩ rfl (Nat.le_of_ble_eq_true rfl) dX12_due_15 ?_
  refine mg_if_eqB C 28 (by decide) dX12_due_18 (fun c_ => absurd c_ (by decide)) (fun c_18 => ?_)
  refine mg_aload_n C (i := 0) rfl 0 rfl dX12_due_21 ?_
  refine mg_doi C (w52_dueAt l (upd v 99 (nI 0)) f g h2) mCal_dueAt rfl ⟨by decide, by decide⟩ rfl (Nat.le_of_ble_eq_true rfl) dX12_due_22 ?_
  refine mg_goto C 29 (by decide) dX12_due_25 ?_
  exact mg_iret C ⟨rfl, rfl⟩ dX12_due_29
set_option maxHeartbeats 4000000 in
set_option maxRecDepth 100000 in
theorem w54_merge (l : Launch) (v : Nat → Int32) (f : Nat → Nat → Int32) (g : Nat → Nat → Int64) (h1 : v 98 = (nI 0)) (h2 : v 34 = (nI 0)) : mMi l yX12_merge cX12_merge 5 (some .int) 1 23 false [] v f g (fun r_ u_ => r_ = (nI 0) ∧ u_ = (upd v 99 (nI 1), f, g)) := by
  intro D cI cJ cZ a sz
  refine mg_body (by decide +kernel) rfl (Nat.le_of_ble_eq_true rfl) ?_
  intro p e s m args below meth c hsz C
  clear hsz
  generalize va_A (mW cI cJ cZ a v f g) sz = A at C ⊢
  refine mg_lv (lv' := [(0, .ref (a 0))]) rfl ?_
  refine mg_aload_n C (i := 0) rfl 0 rfl dX12_merge_0 ?_
  refine mg_getI C (k := 98) (by decide) rfl mL_down rfl dX12_merge_1 ?_
  refine mg_cast (nI 0) h1 ?_
  refine mg_if_eqN C (by omega) 11 (by decide) dX12_merge_4 (fun c_4 => ?_) (fun c_ => absurd c_ (by omega))
  refine mg_aload_n C (i := 0) rfl 0 rfl dX12_merge_11 ?_
  refine mg_doi C (w52_dueAt l v f g h2) mCal_dueAt rfl ⟨by decide, by decide⟩ rfl (Nat.le_of_ble_eq_true rfl) dX12_merge_12 ?_
  refine mg_istore_n C (i := 1) (lv' := [(1, .int ((-1))), (0, .ref (a 0))]) rfl (Nat.le_of_ble_eq_true rfl) rfl dX12_merge_15 ?_
  refine mg_aload_n C (i := 0) rfl 1 rfl dX12_merge_16 ?_
  refine mg_aload_n C (i := 0) rfl 1 rfl dX12_merge_17 ?_
  refine mg_getI C (k := 98) (by decide) rfl mL_down rfl dX12_merge_18 ?_
  refine mg_cast (nI 0) h1 ?_
  refine mg_if_neN C (by omega) 50 (by decide) dX12_merge_21 (fun c_ => absurd c_ (by omega)) (fun c_21 => ?_)
  refine mg_iload_n C (i := 1) rfl 0 rfl dX12_merge_24 ?_
  refine mg_iconst C (x := (-1)) rfl dX12_merge_25 ?_
  refine mg_icmp_eq C 50 (by decide) dX12_merge_26 (fun c_26 => ?_) (fun c_ => absurd c_ (by decide))
  refine mg_iconst C (x := nI 0) rfl dX12_merge_50 ?_
  refine mg_iconst C (x := nI 1) rfl dX12_merge_51 ?_
  refine mg_iconst C (x := nI 1) rfl dX12_merge_52 ?_
  refine mg_doi C (w13_goes l v f g ) mCal_goes rfl ⟨by decide, by decide⟩ rfl (Nat.le_of_ble_eq_true rfl) dX12_merge_53 ?_
  refine mg_if_neB C 61 (by decide) dX12_merge_56 (fun c_ => absurd c_ (by decide)) (fun c_56 => ?_)
  refine mg_iconst C (x := nI 0) rfl dX12_merge_59 ?_
  exact mg_iret C ⟨rfl, rfl⟩ dX12_merge_60
set_option maxHeartbeats 4000000 in
set_option maxRecDepth 100000 in
theorem w55_step (l : Launch) (v : Nat → Int32) (f : Nat → Nat → Int32) (g : Nat → Nat → Int64) (h1 : v 98 = (nI 0)) (h2 : v 49 = (nI 0)) : mMi l yX12_step cX12_step 1 (some .int) 1 23 false [] v f g (fun r_ u_ => r_ = (nI 0) ∧ u_ = (upd v 99 (nI 1), f, g)) := by
  intro D cI cJ cZ a sz
  refine mg_body (by decide +kernel) rfl (Nat.le_of_ble_eq_true rfl) ?_
  intro p e s m args below meth c hsz C
  clear hsz
  generalize va_A (mW cI cJ cZ a v f g) sz = A at C ⊢
  refine mg_lv (lv' := [(0, .ref (a 0))]) rfl ?_
  refine mg_aload_n C (i := 0) rfl 0 rfl dX12_step_0 ?_
  refine mg_aload_n C (i := 0) rfl 0 rfl dX12_step_1 ?_
  refine mg_getI C (k := 98) (by decide) rfl mL_down rfl dX12_step_2 ?_
  refine mg_cast (nI 0) h1 ?_
  refine mg_if_neN C (by omega) 19 (by decide) dX12_step_5 (fun c_ => absurd c_ (by omega)) (fun c_5 => ?_)
  refine mg_aload_n C (i := 0) rfl 0 rfl dX12_step_8 ?_
  refine mg_getI C (k := 49) (by decide) rfl mL_merging rfl dX12_step_9 ?_
  refine mg_cast (nI 0) h2 ?_
  refine mg_if_eqN C (by omega) 19 (by decide) dX12_step_12 (fun c_12 => ?_) (fun c_ => absurd c_ (by omega))
  refine mg_iconst C (x := nI 0) rfl dX12_step_19 ?_
  refine mg_iconst C (x := nI 1) rfl dX12_step_20 ?_
  refine mg_iconst C (x := nI 1) rfl dX12_step_21 ?_
  refine mg_doi C (w13_goes l v f g ) mCal_goes rfl ⟨by decide, by decide⟩ rfl (Nat.le_of_ble_eq_true rfl) dX12_step_22 ?_
  refine mg_if_neB C 30 (by decide) dX12_step_25 (fun c_ => absurd c_ (by decide)) (fun c_25 => ?_)
  refine mg_iconst C (x := nI 0) rfl dX12_step_28 ?_
  exact mg_iret C ⟨rfl, rfl⟩ dX12_step_29
set_option maxHeartbeats 4000000 in
set_option maxRecDepth 100000 in
theorem w56_giveUp (l : Launch) (v : Nat → Int32) (f : Nat → Nat → Int32) (g : Nat → Nat → Int64) (h1 : v 98 = (nI 0)) (h2 : v 49 = (nI 0)) : mMi l yX12_giveUp cX12_giveUp 1 (some .int) 1 23 false [] v f g (fun r_ u_ => r_ = (nI 0) ∧ u_ = (upd v 99 (nI 1), f, g)) := by
  intro D cI cJ cZ a sz
  refine mg_body (by decide +kernel) rfl (Nat.le_of_ble_eq_true rfl) ?_
  intro p e s m args below meth c hsz C
  clear hsz
  generalize va_A (mW cI cJ cZ a v f g) sz = A at C ⊢
  refine mg_lv (lv' := [(0, .ref (a 0))]) rfl ?_
  refine mg_aload_n C (i := 0) rfl 0 rfl dX12_giveUp_0 ?_
  refine mg_aload_n C (i := 0) rfl 0 rfl dX12_giveUp_1 ?_
  refine mg_getI C (k := 98) (by decide) rfl mL_down rfl dX12_giveUp_2 ?_
  refine mg_cast (nI 0) h1 ?_
  refine mg_if_neN C (by omega) 19 (by decide) dX12_giveUp_5 (fun c_ => absurd c_ (by omega)) (fun c_5 => ?_)
  refine mg_aload_n C (i := 0) rfl 0 rfl dX12_giveUp_8 ?_
  refine mg_getI C (k := 49) (by decide) rfl mL_merging rfl dX12_giveUp_9 ?_
  refine mg_cast (nI 0) h2 ?_
  refine mg_if_eqN C (by omega) 19 (by decide) dX12_giveUp_12 (fun c_12 => ?_) (fun c_ => absurd c_ (by omega))
  refine mg_iconst C (x := nI 0) rfl dX12_giveUp_19 ?_
  refine mg_iconst C (x := nI 1) rfl dX12_giveUp_20 ?_
  refine mg_iconst C (x := nI 1) rfl dX12_giveUp_21 ?_
  refine mg_doi C (w13_goes l v f g ) mCal_goes rfl ⟨by decide, by decide⟩ rfl (Nat.le_of_ble_eq_true rfl) dX12_giveUp_22 ?_
  refine mg_if_neB C 30 (by decide) dX12_giveUp_25 (fun c_ => absurd c_ (by decide)) (fun c_25 => ?_)
  refine mg_iconst C (x := nI 0) rfl dX12_giveUp_28 ?_
  exact mg_iret C ⟨rfl, rfl⟩ dX12_giveUp_29
set_option maxHeartbeats 4000000 in
set_option maxRecDepth 100000 in
theorem w57_writes1 (l : Launch) (v : Nat → Int32) (f : Nat → Nat → Int32) (g : Nat → Nat → Int64) (h1 : v 97 = ((-1))) (h2 : v 96 = (nI 0)) : mMi l yX12_writes1 cX12_writes1 2 (some .boolean) 0 0 false [] v f g (fun r_ u_ => r_ = (bI true) ∧ u_ = (upd (upd v 97 ((-1))) 96 (nI 1), f, g)) := by
  intro D cI cJ cZ a sz
  refine mg_body (by decide +kernel) rfl (Nat.le_of_ble_eq_true rfl) ?_
  intro p e s m args below meth c hsz C
  clear hsz
  generalize va_A (mW cI cJ cZ a v f g) sz = A at C ⊢
  refine mg_lv (lv' := [(0, .ref (a 0))]) rfl ?_
  refine mg_aload_n C (i := 0) rfl 0 rfl dX12_writes1_0 ?_
  refine mg_getI C (k := 97) (by decide) rfl mL_crash rfl dX12_writes1_1 ?_
  refine mg_cast ((-1)) h1 ?_
  refine mg_if_ne C 74 (by decide) dX12_writes1_4 (fun c_4 => ?_) (fun c_ => absurd c_ (by decide))
  refine mg_aload_n C (i := 0) rfl 0 rfl dX12_writes1_74 ?_
  refine mg_dup C rfl dX12_writes1_75 ?_
  refine mg_getI C (k := 97) (by decide) rfl mL_crash rfl dX12_writes1_76 ?_
  refine mg_cast ((-1)) h1 ?_
  refine mg_aload_n C (i := 0) rfl 0 rfl dX12_writes1_79 ?_
  refine mg_getI C (k := 97) (by decide) rfl mL_crash rfl dX12_writes1_80 ?_
  refine mg_cast ((-1)) h1 ?_
  refine mg_if_le C 90 (by decide) dX12_writes1_83 (fun c_83 => ?_) (fun c_ => absurd c_ (by decide))
  refine mg_iconst C (x := nI 0) rfl dX12_writes1_90 ?_
  refine mg_isub C dX12_writes1_91 ?_
  refine mg_cast ((-1)) (by decide) ?_
  refine mg_put C (k := 97) (by decide) rfl mL_crash rfl (by decide +kernel) mT_crash rfl rfl dX12_writes1_92 ?_
  refine mg_aload_n C (i := 0) rfl 0 rfl dX12_writes1_95 ?_
  refine mg_dup C rfl dX12_writes1_96 ?_
  refine mg_getI C (k := 96) (by decide) rfl mL_writes rfl dX12_writes1_97 ?_
  refine mg_cast (nI 0) h2 ?_
  refine mg_iconst C (x := nI 1) rfl dX12_writes1_100 ?_
  refine mg_iadd C dX12_writes1_101 ?_
  refine mg_cast (nI 1) (by decide) ?_
  refine mg_put C (k := 96) (by decide) rfl mL_writes rfl (by decide +kernel) mT_writes rfl rfl dX12_writes1_102 ?_
  refine mg_iconst C (x := nI 1) rfl dX12_writes1_105 ?_
  refine mg_cast (bI true) rfl ?_
  exact mg_zret C (bI_nar _) ⟨rfl, rfl⟩ dX12_writes1_106
set_option maxHeartbeats 4000000 in
set_option maxRecDepth 100000 in
theorem w58_prepare (l : Launch) (v : Nat → Int32) (f : Nat → Nat → Int32) (g : Nat → Nat → Int64) (h1 : v 98 = (nI 0)) (h2 : v 40 = (nI 0)) (h3 : v 29 = (nI 0)) (h4 : v 20 = (nI 0)) (h5 : ∀ k : Nat, f 22 k = nI 0) (h6 : v 34 = (nI 0)) (h7 : v 97 = ((-1))) (h8 : v 96 = (nI 0)) (h9 : ∀ k : Nat, f 21 k = nI 0) : mMi l yX12_prepare cX12_prepare 3 (some .int) 1 23 false [] v f g (fun r_ u_ => r_ = nI 0 ∧ ∃ f_, u_ = (upd (upd (upd (upd (upd v 99 (nI 0)) 97 ((-1))) 96 (nI 1)) 42 (nI 0)) 40 (bI true), f_, g)) := by
  intro D cI cJ cZ a sz
  refine mg_body (by decide +kernel) rfl (Nat.le_of_ble_eq_true rfl) ?_
  intro p e s m args below meth c hsz C
  clear hsz
  generalize va_A (mW cI cJ cZ a v f g) sz = A at C ⊢
  refine mg_lv (lv' := [(0, .ref (a 0))]) rfl ?_
  refine mg_aload_n C (i := 0) rfl 0 rfl dX12_prepare_0 ?_
  refine mg_aload_n C (i := 0) rfl 0 rfl dX12_prepare_1 ?_
  refine mg_getI C (k := 98) (by decide) rfl mL_down rfl dX12_prepare_2 ?_
  refine mg_cast (nI 0) h1 ?_
  refine mg_if_neN C (by omega) 36 (by decide) dX12_prepare_5 (fun c_ => absurd c_ (by omega)) (fun c_5 => ?_)
  refine mg_aload_n C (i := 0) rfl 0 rfl dX12_prepare_8 ?_
  refine mg_getI C (k := 40) (by decide) rfl mL_isPrepared rfl dX12_prepare_9 ?_
  refine mg_cast (nI 0) h2 ?_
  refine mg_if_neN C (by omega) 36 (by decide) dX12_prepare_12 (fun c_ => absurd c_ (by omega)) (fun c_12 => ?_)
  refine mg_aload_n C (i := 0) rfl 0 rfl dX12_prepare_15 ?_
  refine mg_getI C (k := 29) (by decide) rfl mL_made rfl dX12_prepare_16 ?_
  refine mg_cast (nI 0) h3 ?_
  refine mg_sipush C (x := nI 200) rfl dX12_prepare_19 ?_
  refine mg_icmp_ltN C (by omega) (by omega) 32 (by decide) dX12_prepare_22 (fun c_22 => ?_) (fun c_ => absurd c_ (by omega))
  refine mg_iconst C (x := nI 1) rfl dX12_prepare_32 ?_
  refine mg_goto C 37 (by decide) dX12_prepare_33 ?_
  refine mg_iconst C (x := nI 1) rfl dX12_prepare_37 ?_
  refine mg_iconst C (x := nI 1) rfl dX12_prepare_38 ?_
  refine mg_doi C (w30_goes l v f g ) mCal_goes rfl ⟨by decide, by decide⟩ rfl (Nat.le_of_ble_eq_true rfl) dX12_prepare_39 ?_
  refine mg_if_neB C 47 (by decide) dX12_prepare_42 (fun c_42 => ?_) (fun c_ => absurd c_ (by decide))
  refine mg_aload_n C (i := 0) rfl 0 rfl dX12_prepare_47 ?_
  refine mg_doi C (w50_flushes l (upd v 99 (nI 0)) f g h4) mCal_flushes rfl ⟨by decide, by decide⟩ rfl (Nat.le_of_ble_eq_true rfl) dX12_prepare_48 ?_
  refine mg_bipush C (x := (-2)) rfl dX12_prepare_51 ?_
  refine mg_icmp_ne C 59 (by decide) dX12_prepare_53 (fun c_53 => ?_) (fun c_ => absurd c_ (by decide))
  refine mg_iconst C (x := nI 0) rfl dX12_prepare_59 ?_
  refine mg_istore_n C (i := 1) (lv' := [(1, .int (nI 0)), (0, .ref (a 0))]) rfl (Nat.le_of_ble_eq_true rfl) rfl dX12_prepare_60 ?_
  refine mg_world (f' := sR f 23 (f 23)) rfl (sR_id _ 23).symm rfl ?_
  refine mg_loop (X := Nat × (Nat → Int32)) (fun y_ => y_.1 ≤ 20200) (fun y_ => 20200 - y_.1) (fun y_ => [(1, .int (nI y_.1)), (0, .ref (a 0))]) (fun y_ => (upd v 99 (nI 0), sR f 23 y_.2, g)) (0, f 23) [0, 1] rfl rfl (Nat.zero_le _) ?_
  rintro ⟨k_61, r_61⟩ hI_ ih_61
  dsimp only at hI_ ih_61 ⊢
  refine mg_iload_n C (i := 1) rfl 0 rfl dX12_prepare_61 ?_
  refine mg_sipush C (x := nI 20200) rfl dX12_prepare_62 ?_
  refine mg_icmp_geN C (by omega) (by omega) 86 (by decide) dX12_prepare_65 (fun c_61 => ?_) (fun c_61 => ?_)
  rotate_left
  · refine mg_aload_n C (i := 0) rfl 1 rfl dX12_prepare_68 ?_
    refine mg_arr C 23 (by decide) (by decide) rfl mL_wroteAhead rfl dX12_prepare_69 ?_
    refine mg_iload_n C (i := 1) rfl 0 rfl dX12_prepare_72 ?_
    refine mg_aload_n C (i := 0) rfl 1 rfl dX12_prepare_73 ?_
    refine mg_arr C 22 (by decide) (by decide) rfl mL_wrote rfl dX12_prepare_74 ?_
    refine mg_iload_n C (i := 1) rfl 0 rfl dX12_prepare_77 ?_
    refine mg_baload C (n := 20200) 22 k_61 (by decide) (by decide) rfl rfl (by omega) (by decide) dX12_prepare_78 ?_
    refine mg_cast (bI false) (show _ = nI 0 from h5 k_61) ?_
    refine mg_bastore C (n := 20200) 23 k_61 (by decide) (by decide) rfl rfl (by omega) (by decide) (bI_vp _) dX12_prepare_79 ?_
    refine mg_world (f' := sR f 23 (upR r_61 k_61 (bI false))) rfl mU_sR rfl ?_
    refine mg_iincN C (lv' := [(1, .int (nI (k_61 + 1))), (0, .ref (a 0))]) 1 0 rfl rfl (Nat.le_of_ble_eq_true rfl) rfl dX12_prepare_80 ?_
    refine mg_goto C 61 (by decide) dX12_prepare_83 ?_
    exact mg_sub [0, 1] rfl (ih_61 (k_61 + 1, upR r_61 k_61 (bI false)) (by dsimp only; omega) (by dsimp only; omega))
  refine mg_iconst C (x := nI 0) rfl dX12_prepare_86 ?_
  refine mg_istore_n C (i := 1) (lv' := [(1, .int (nI 0)), (0, .ref (a 0))]) rfl (Nat.le_of_ble_eq_true rfl) rfl dX12_prepare_87 ?_
  refine mg_iload_n C (i := 1) rfl 0 rfl dX12_prepare_88 ?_
  refine mg_aload_n C (i := 0) rfl 1 rfl dX12_prepare_89 ?_
  refine mg_getI C (k := 34) (by decide) rfl mL_indexed rfl dX12_prepare_90 ?_
  refine mg_cast (nI 0) h6 ?_
  refine mg_icmp_geN C (by omega) (by omega) 178 (by decide) dX12_prepare_93 (fun c_93 => ?_) (fun c_ => absurd c_ (by omega))
  refine mg_aload_n C (i := 0) rfl 1 rfl dX12_prepare_178 ?_
  refine mg_doi C (w57_writes1 l (upd v 99 (nI 0)) (sR f 23 r_61) g h7 h8) mCal_writes1 rfl ⟨by decide, by decide⟩ rfl (Nat.le_of_ble_eq_true rfl) dX12_prepare_179 ?_
  refine mg_if_neB C 188 (by decide) dX12_prepare_182 (fun c_182 => ?_) (fun c_ => absurd c_ (by decide))
  refine mg_aload_n C (i := 0) rfl 1 rfl dX12_prepare_188 ?_
  refine mg_aload_n C (i := 0) rfl 1 rfl dX12_prepare_189 ?_
  refine mg_getI C (k := 34) (by decide) rfl mL_indexed rfl dX12_prepare_190 ?_
  refine mg_cast (nI 0) h6 ?_
  refine mg_put C (k := 42) (by decide) rfl mL_preparedMany rfl (by decide +kernel) mT_preparedMany rfl rfl dX12_prepare_193 ?_
  refine mg_iconst C (x := nI 0) rfl dX12_prepare_196 ?_
  refine mg_istore_n C (i := 1) (lv' := [(1, .int (nI 0)), (0, .ref (a 0))]) rfl (Nat.le_of_ble_eq_true rfl) rfl dX12_prepare_197 ?_
  refine mg_iload_n C (i := 1) rfl 0 rfl dX12_prepare_198 ?_
  refine mg_aload_n C (i := 0) rfl 1 rfl dX12_prepare_199 ?_
  refine mg_getI C (k := 34) (by decide) rfl mL_indexed rfl dX12_prepare_200 ?_
  refine mg_cast (nI 0) h6 ?_
  refine mg_icmp_geN C (by omega) (by omega) 224 (by decide) dX12_prepare_203 (fun c_203 => ?_) (fun c_ => absurd c_ (by omega))
  refine mg_iconst C (x := nI 0) rfl dX12_prepare_224 ?_
  refine mg_istore_n C (i := 1) (lv' := [(1, .int (nI 0)), (0, .ref (a 0))]) rfl (Nat.le_of_ble_eq_true rfl) rfl dX12_prepare_225 ?_
  refine mg_world (f' := sR (sR f 23 r_61) 28 ((sR f 23 r_61) 28)) rfl (sR_id _ 28).symm rfl ?_
  refine mg_loop (X := Nat × (Nat → Int32)) (fun y_ => y_.1 ≤ 20200) (fun y_ => 20200 - y_.1) (fun y_ => [(1, .int (nI y_.1)), (0, .ref (a 0))]) (fun y_ => (upd (upd (upd (upd v 99 (nI 0)) 97 ((-1))) 96 (nI 1)) 42 (nI 0), sR (sR f 23 r_61) 28 y_.2, g)) (0, (sR f 23 r_61) 28) [0, 1] rfl rfl (Nat.zero_le _) ?_
  rintro ⟨k_226, r_226⟩ hI_ ih_226
  dsimp only at hI_ ih_226 ⊢
  refine mg_iload_n C (i := 1) rfl 0 rfl dX12_prepare_226 ?_
  refine mg_sipush C (x := nI 20200) rfl dX12_prepare_227 ?_
  refine mg_icmp_geN C (by omega) (by omega) 251 (by decide) dX12_prepare_230 (fun c_226 => ?_) (fun c_226 => ?_)
  rotate_left
  · refine mg_aload_n C (i := 0) rfl 1 rfl dX12_prepare_233 ?_
    refine mg_arr C 28 (by decide) (by decide) rfl mL_preparedLive rfl dX12_prepare_234 ?_
    refine mg_iload_n C (i := 1) rfl 0 rfl dX12_prepare_237 ?_
    refine mg_aload_n C (i := 0) rfl 1 rfl dX12_prepare_238 ?_
    refine mg_arr C 21 (by decide) (by decide) rfl mL_live rfl dX12_prepare_239 ?_
    refine mg_iload_n C (i := 1) rfl 0 rfl dX12_prepare_242 ?_
    refine mg_baload C (n := 20200) 21 k_226 (by decide) (by decide) rfl rfl (by omega) (by decide) dX12_prepare_243 ?_
    refine mg_cast (bI false) (show _ = nI 0 from h9 k_226) ?_
    refine mg_bastore C (n := 20200) 28 k_226 (by decide) (by decide) rfl rfl (by omega) (by decide) (bI_vp _) dX12_prepare_244 ?_
    refine mg_world (f' := sR (sR f 23 r_61) 28 (upR r_226 k_226 (bI false))) rfl mU_sR rfl ?_
    refine mg_iincN C (lv' := [(1, .int (nI (k_226 + 1))), (0, .ref (a 0))]) 1 0 rfl rfl (Nat.le_of_ble_eq_true rfl) rfl dX12_prepare_245 ?_
    refine mg_goto C 226 (by decide) dX12_prepare_248 ?_
    exact mg_sub [0, 1] rfl (ih_226 (k_226 + 1, upR r_226 k_226 (bI false)) (by dsimp only; omega) (by dsimp only; omega))
  refine mg_aload_n C (i := 0) rfl 1 rfl dX12_prepare_251 ?_
  refine mg_iconst C (x := nI 1) rfl dX12_prepare_252 ?_
  refine mg_cast (bI true) rfl ?_
  refine mg_put C (k := 40) (by decide) rfl mL_isPrepared rfl (by decide +kernel) mT_isPrepared (bI_nar _) (bI_fit _) dX12_prepare_253 ?_
  refine mg_aload_n C (i := 0) rfl 1 rfl dX12_prepare_256 ?_
  refine mg_getI C (k := 42) (by decide) rfl mL_preparedMany rfl dX12_prepare_257 ?_
  refine mg_cast (nI 0) rfl ?_
  exact mg_iret C ⟨rfl, _, rfl⟩ dX12_prepare_260
set_option maxHeartbeats 4000000 in
set_option maxRecDepth 100000 in
theorem w59_finish (l : Launch) (v : Nat → Int32) (f : Nat → Nat → Int32) (g : Nat → Nat → Int64) (h1 : v 98 = (nI 0)) (h2 : v 40 = (nI 0)) : mMi l yX12_finish cX12_finish 2 (some .int) 1 23 false [] v f g (fun r_ u_ => r_ = (nI 0) ∧ u_ = (upd v 99 (nI 1), f, g)) := by
  intro D cI cJ cZ a sz
  refine mg_body (by decide +kernel) rfl (Nat.le_of_ble_eq_true rfl) ?_
  intro p e s m args below meth c hsz C
  clear hsz
  generalize va_A (mW cI cJ cZ a v f g) sz = A at C ⊢
  refine mg_lv (lv' := [(0, .ref (a 0))]) rfl ?_
  refine mg_aload_n C (i := 0) rfl 0 rfl dX12_finish_0 ?_
  refine mg_aload_n C (i := 0) rfl 0 rfl dX12_finish_1 ?_
  refine mg_getI C (k := 98) (by decide) rfl mL_down rfl dX12_finish_2 ?_
  refine mg_cast (nI 0) h1 ?_
  refine mg_if_neN C (by omega) 19 (by decide) dX12_finish_5 (fun c_ => absurd c_ (by omega)) (fun c_5 => ?_)
  refine mg_aload_n C (i := 0) rfl 0 rfl dX12_finish_8 ?_
  refine mg_getI C (k := 40) (by decide) rfl mL_isPrepared rfl dX12_finish_9 ?_
  refine mg_cast (nI 0) h2 ?_
  refine mg_if_eqN C (by omega) 19 (by decide) dX12_finish_12 (fun c_12 => ?_) (fun c_ => absurd c_ (by omega))
  refine mg_iconst C (x := nI 0) rfl dX12_finish_19 ?_
  refine mg_iconst C (x := nI 1) rfl dX12_finish_20 ?_
  refine mg_iconst C (x := nI 1) rfl dX12_finish_21 ?_
  refine mg_doi C (w13_goes l v f g ) mCal_goes rfl ⟨by decide, by decide⟩ rfl (Nat.le_of_ble_eq_true rfl) dX12_finish_22 ?_
  refine mg_if_neB C 30 (by decide) dX12_finish_25 (fun c_ => absurd c_ (by decide)) (fun c_25 => ?_)
  refine mg_iconst C (x := nI 0) rfl dX12_finish_28 ?_
  exact mg_iret C ⟨rfl, rfl⟩ dX12_finish_29
set_option maxHeartbeats 4000000 in
set_option maxRecDepth 100000 in
theorem w60_drop (l : Launch) (v : Nat → Int32) (f : Nat → Nat → Int32) (g : Nat → Nat → Int64) (h1 : v 98 = (nI 0)) (h2 : v 40 = (nI 0)) : mMv l yX12_drop cX12_drop 3 none 1 23 false [] v f g (fun u_ => u_ = (upd v 99 (nI 1), f, g)) := by
  intro D cI cJ cZ a sz
  refine mg_body (by decide +kernel) rfl (Nat.le_of_ble_eq_true rfl) ?_
  intro p e s m args below meth c hsz C
  clear hsz
  generalize va_A (mW cI cJ cZ a v f g) sz = A at C ⊢
  refine mg_lv (lv' := [(0, .ref (a 0))]) rfl ?_
  refine mg_aload_n C (i := 0) rfl 0 rfl dX12_drop_0 ?_
  refine mg_aload_n C (i := 0) rfl 0 rfl dX12_drop_1 ?_
  refine mg_getI C (k := 98) (by decide) rfl mL_down rfl dX12_drop_2 ?_
  refine mg_cast (nI 0) h1 ?_
  refine mg_if_neN C (by omega) 19 (by decide) dX12_drop_5 (fun c_ => absurd c_ (by omega)) (fun c_5 => ?_)
  refine mg_aload_n C (i := 0) rfl 0 rfl dX12_drop_8 ?_
  refine mg_getI C (k := 40) (by decide) rfl mL_isPrepared rfl dX12_drop_9 ?_
  refine mg_cast (nI 0) h2 ?_
  refine mg_if_eqN C (by omega) 19 (by decide) dX12_drop_12 (fun c_12 => ?_) (fun c_ => absurd c_ (by omega))
  refine mg_iconst C (x := nI 0) rfl dX12_drop_19 ?_
  refine mg_iconst C (x := nI 1) rfl dX12_drop_20 ?_
  refine mg_iconst C (x := nI 1) rfl dX12_drop_21 ?_
  refine mg_doi C (w13_goes l v f g ) mCal_goes rfl ⟨by decide, by decide⟩ rfl (Nat.le_of_ble_eq_true rfl) dX12_drop_22 ?_
  refine mg_if_eqB C 102 (by decide) dX12_drop_25 (fun c_25 => ?_) (fun c_ => absurd c_ (by decide))
  exact mg_vret C rfl dX12_drop_102
set_option maxHeartbeats 4000000 in
set_option maxRecDepth 100000 in
theorem w61_in (l : Launch) (v : Nat → Int32) (f : Nat → Nat → Int32) (g : Nat → Nat → Int64) (x1 : Int32) (h1 : x1 < 0) : mMi l yX12_in cX12_in 3 (some .boolean) 0 0 true [.int x1, .int (nI 0), .int (nI 1000)] v f g (fun r_ u_ => r_ = (bI false) ∧ u_ = (v, f, g)) := by
  intro D cI cJ cZ a sz
  refine mg_body (by decide +kernel) rfl (Nat.le_of_ble_eq_true rfl) ?_
  intro p e s m args below meth c hsz C
  clear hsz
  generalize va_A (mW cI cJ cZ a v f g) sz = A at C ⊢
  refine mg_lv (lv' := [(0, .int x1), (1, .int (nI 0)), (2, .int (nI 1000))]) rfl ?_
  refine mg_iload_n C (i := 0) rfl 0 rfl dX12_in_0 ?_
  refine mg_iload_n C (i := 1) rfl 1 rfl dX12_in_1 ?_
  refine mg_icmp_lt C 14 (by decide) dX12_in_2 (fun c_2 => ?_) (fun c_ => absurd (cneg_lt h1 (by omega)) c_)
  refine mg_iconst C (x := nI 0) rfl dX12_in_14 ?_
  refine mg_cast (bI false) rfl ?_
  exact mg_zret C (bI_nar _) ⟨rfl, rfl⟩ dX12_in_15
set_option maxHeartbeats 4000000 in
set_option maxRecDepth 100000 in
theorem w62_crashAt (l : Launch) (v : Nat → Int32) (f : Nat → Nat → Int32) (g : Nat → Nat → Int64) (x1 : Int32) (h1 : x1 < 0) (h2 : v 98 = (nI 0)) : mMv l yX12_crashAt cX12_crashAt 2 none 1 23 false [.int x1] v f g (fun u_ => u_ = (upd v 99 (nI 1), f, g)) := by
  intro D cI cJ cZ a sz
  refine mg_body (by decide +kernel) rfl (Nat.le_of_ble_eq_true rfl) ?_
  intro p e s m args below meth c hsz C
  clear hsz
  generalize va_A (mW cI cJ cZ a v f g) sz = A at C ⊢
  refine mg_lv (lv' := [(0, .ref (a 0)), (1, .int x1)]) rfl ?_
  refine mg_aload_n C (i := 0) rfl 0 rfl dX12_crashAt_0 ?_
  refine mg_iload_n C (i := 1) rfl 1 rfl dX12_crashAt_1 ?_
  refine mg_iconst C (x := nI 0) rfl dX12_crashAt_2 ?_
  refine mg_sipush C (x := nI 1000) rfl dX12_crashAt_3 ?_
  refine mg_dosi C (w61_in l v f g x1 h1) mCal_in rfl ⟨by decide, by decide⟩ rfl (Nat.le_of_ble_eq_true rfl) dX12_crashAt_6 ?_
  refine mg_aload_n C (i := 0) rfl 0 rfl dX12_crashAt_9 ?_
  refine mg_getI C (k := 98) (by decide) rfl mL_down rfl dX12_crashAt_10 ?_
  refine mg_cast (nI 0) h2 ?_
  refine mg_if_neN C (by omega) 20 (by decide) dX12_crashAt_13 (fun c_ => absurd c_ (by omega)) (fun c_13 => ?_)
  refine mg_iconst C (x := nI 1) rfl dX12_crashAt_16 ?_
  refine mg_goto C 21 (by decide) dX12_crashAt_17 ?_
  refine mg_iconst C (x := nI 1) rfl dX12_crashAt_21 ?_
  refine mg_doi C (w2_goes l v f g ) mCal_goes rfl ⟨by decide, by decide⟩ rfl (Nat.le_of_ble_eq_true rfl) dX12_crashAt_22 ?_
  refine mg_if_eqB C 33 (by decide) dX12_crashAt_25 (fun c_25 => ?_) (fun c_ => absurd c_ (by decide))
  exact mg_vret C rfl dX12_crashAt_33
set_option maxHeartbeats 4000000 in
set_option maxRecDepth 100000 in
theorem w63_in (l : Launch) (v : Nat → Int32) (f : Nat → Nat → Int32) (g : Nat → Nat → Int64) (n1 : Nat) (h1 : n1 ≤ 1000) : mMi l yX12_in cX12_in 3 (some .boolean) 0 0 true [.int (nI n1), .int (nI 0), .int (nI 1000)] v f g (fun r_ u_ => r_ = (bI true) ∧ u_ = (v, f, g)) := by
  intro D cI cJ cZ a sz
  refine mg_body (by decide +kernel) rfl (Nat.le_of_ble_eq_true rfl) ?_
  intro p e s m args below meth c hsz C
  clear hsz
  generalize va_A (mW cI cJ cZ a v f g) sz = A at C ⊢
  refine mg_lv (lv' := [(0, .int (nI n1)), (1, .int (nI 0)), (2, .int (nI 1000))]) rfl ?_
  refine mg_iload_n C (i := 0) rfl 0 rfl dX12_in_0 ?_
  refine mg_iload_n C (i := 1) rfl 1 rfl dX12_in_1 ?_
  refine mg_icmp_ltN C (by omega) (by omega) 14 (by decide) dX12_in_2 (fun c_ => absurd c_ (by omega)) (fun c_2 => ?_)
  refine mg_iload_n C (i := 0) rfl 0 rfl dX12_in_5 ?_
  refine mg_iload_n C (i := 2) rfl 2 rfl dX12_in_6 ?_
  refine mg_icmp_gtN C (by omega) (by omega) 14 (by decide) dX12_in_7 (fun c_ => absurd c_ (by omega)) (fun c_7 => ?_)
  refine mg_iconst C (x := nI 1) rfl dX12_in_10 ?_
  refine mg_goto C 15 (by decide) dX12_in_11 ?_
  refine mg_cast (bI true) rfl ?_
  exact mg_zret C (bI_nar _) ⟨rfl, rfl⟩ dX12_in_15
set_option maxHeartbeats 4000000 in
set_option maxRecDepth 100000 in
theorem w64_crashAt (l : Launch) (v : Nat → Int32) (f : Nat → Nat → Int32) (g : Nat → Nat → Int64) (n1 : Nat) (h1 : n1 ≤ 1000) (h2 : v 98 = (nI 0)) : mMv l yX12_crashAt cX12_crashAt 2 none 1 23 false [.int (nI n1)] v f g (fun u_ => u_ = (upd (upd v 99 (nI 0)) 97 (nI n1), f, g)) := by
  intro D cI cJ cZ a sz
  refine mg_body (by decide +kernel) rfl (Nat.le_of_ble_eq_true rfl) ?_
  intro p e s m args below meth c hsz C
  clear hsz
  generalize va_A (mW cI cJ cZ a v f g) sz = A at C ⊢
  refine mg_lv (lv' := [(0, .ref (a 0)), (1, .int (nI n1))]) rfl ?_
  refine mg_aload_n C (i := 0) rfl 0 rfl dX12_crashAt_0 ?_
  refine mg_iload_n C (i := 1) rfl 1 rfl dX12_crashAt_1 ?_
  refine mg_iconst C (x := nI 0) rfl dX12_crashAt_2 ?_
  refine mg_sipush C (x := nI 1000) rfl dX12_crashAt_3 ?_
  refine mg_dosi C (w63_in l v f g n1 (by omega)) mCal_in rfl ⟨by decide, by decide⟩ rfl (Nat.le_of_ble_eq_true rfl) dX12_crashAt_6 ?_
  refine mg_aload_n C (i := 0) rfl 0 rfl dX12_crashAt_9 ?_
  refine mg_getI C (k := 98) (by decide) rfl mL_down rfl dX12_crashAt_10 ?_
  refine mg_cast (nI 0) h2 ?_
  refine mg_if_neN C (by omega) 20 (by decide) dX12_crashAt_13 (fun c_ => absurd c_ (by omega)) (fun c_13 => ?_)
  refine mg_iconst C (x := nI 1) rfl dX12_crashAt_16 ?_
  refine mg_goto C 21 (by decide) dX12_crashAt_17 ?_
  refine mg_iconst C (x := nI 1) rfl dX12_crashAt_21 ?_
  refine mg_doi C (w6_goes l v f g ) mCal_goes rfl ⟨by decide, by decide⟩ rfl (Nat.le_of_ble_eq_true rfl) dX12_crashAt_22 ?_
  refine mg_if_eqB C 33 (by decide) dX12_crashAt_25 (fun c_ => absurd c_ (by decide)) (fun c_25 => ?_)
  refine mg_aload_n C (i := 0) rfl 0 rfl dX12_crashAt_28 ?_
  refine mg_iload_n C (i := 1) rfl 1 rfl dX12_crashAt_29 ?_
  refine mg_put C (k := 97) (by decide) rfl mL_crash rfl (by decide +kernel) mT_crash rfl rfl dX12_crashAt_30 ?_
  exact mg_vret C rfl dX12_crashAt_33
set_option maxHeartbeats 4000000 in
set_option maxRecDepth 100000 in
theorem w65_in (l : Launch) (v : Nat → Int32) (f : Nat → Nat → Int32) (g : Nat → Nat → Int64) (n1 : Nat) (h1 : 1001 ≤ n1) (h2 : n1 ≤ 2147483647) : mMi l yX12_in cX12_in 3 (some .boolean) 0 0 true [.int (nI n1), .int (nI 0), .int (nI 1000)] v f g (fun r_ u_ => r_ = (bI false) ∧ u_ = (v, f, g)) := by
  intro D cI cJ cZ a sz
  refine mg_body (by decide +kernel) rfl (Nat.le_of_ble_eq_true rfl) ?_
  intro p e s m args below meth c hsz C
  clear hsz
  generalize va_A (mW cI cJ cZ a v f g) sz = A at C ⊢
  refine mg_lv (lv' := [(0, .int (nI n1)), (1, .int (nI 0)), (2, .int (nI 1000))]) rfl ?_
  refine mg_iload_n C (i := 0) rfl 0 rfl dX12_in_0 ?_
  refine mg_iload_n C (i := 1) rfl 1 rfl dX12_in_1 ?_
  refine mg_icmp_ltN C (by omega) (by omega) 14 (by decide) dX12_in_2 (fun c_ => absurd c_ (by omega)) (fun c_2 => ?_)
  refine mg_iload_n C (i := 0) rfl 0 rfl dX12_in_5 ?_
  refine mg_iload_n C (i := 2) rfl 2 rfl dX12_in_6 ?_
  refine mg_icmp_gtN C (by omega) (by omega) 14 (by decide) dX12_in_7 (fun c_7 => ?_) (fun c_ => absurd c_ (by omega))
  refine mg_iconst C (x := nI 0) rfl dX12_in_14 ?_
  refine mg_cast (bI false) rfl ?_
  exact mg_zret C (bI_nar _) ⟨rfl, rfl⟩ dX12_in_15
set_option maxHeartbeats 4000000 in
set_option maxRecDepth 100000 in
theorem w66_crashAt (l : Launch) (v : Nat → Int32) (f : Nat → Nat → Int32) (g : Nat → Nat → Int64) (n1 : Nat) (h1 : 1001 ≤ n1) (h2 : n1 ≤ 2147483647) (h3 : v 98 = (nI 0)) : mMv l yX12_crashAt cX12_crashAt 2 none 1 23 false [.int (nI n1)] v f g (fun u_ => u_ = (upd v 99 (nI 1), f, g)) := by
  intro D cI cJ cZ a sz
  refine mg_body (by decide +kernel) rfl (Nat.le_of_ble_eq_true rfl) ?_
  intro p e s m args below meth c hsz C
  clear hsz
  generalize va_A (mW cI cJ cZ a v f g) sz = A at C ⊢
  refine mg_lv (lv' := [(0, .ref (a 0)), (1, .int (nI n1))]) rfl ?_
  refine mg_aload_n C (i := 0) rfl 0 rfl dX12_crashAt_0 ?_
  refine mg_iload_n C (i := 1) rfl 1 rfl dX12_crashAt_1 ?_
  refine mg_iconst C (x := nI 0) rfl dX12_crashAt_2 ?_
  refine mg_sipush C (x := nI 1000) rfl dX12_crashAt_3 ?_
  refine mg_dosi C (w65_in l v f g n1 (by omega) (by omega)) mCal_in rfl ⟨by decide, by decide⟩ rfl (Nat.le_of_ble_eq_true rfl) dX12_crashAt_6 ?_
  refine mg_aload_n C (i := 0) rfl 0 rfl dX12_crashAt_9 ?_
  refine mg_getI C (k := 98) (by decide) rfl mL_down rfl dX12_crashAt_10 ?_
  refine mg_cast (nI 0) h3 ?_
  refine mg_if_neN C (by omega) 20 (by decide) dX12_crashAt_13 (fun c_ => absurd c_ (by omega)) (fun c_13 => ?_)
  refine mg_iconst C (x := nI 1) rfl dX12_crashAt_16 ?_
  refine mg_goto C 21 (by decide) dX12_crashAt_17 ?_
  refine mg_iconst C (x := nI 1) rfl dX12_crashAt_21 ?_
  refine mg_doi C (w2_goes l v f g ) mCal_goes rfl ⟨by decide, by decide⟩ rfl (Nat.le_of_ble_eq_true rfl) dX12_crashAt_22 ?_
  refine mg_if_eqB C 33 (by decide) dX12_crashAt_25 (fun c_25 => ?_) (fun c_ => absurd c_ (by decide))
  exact mg_vret C rfl dX12_crashAt_33
set_option maxHeartbeats 4000000 in
set_option maxRecDepth 100000 in
theorem w67_open (l : Launch) (v : Nat → Int32) (f : Nat → Nat → Int32) (g : Nat → Nat → Int64) (h1 : v 98 = (nI 0)) : mMi l yX12_open cX12_open 3 (some .int) 1 23 false [] v f g (fun r_ u_ => r_ = (nI 0) ∧ u_ = (upd v 99 (nI 1), f, g)) := by
  intro D cI cJ cZ a sz
  refine mg_body (by decide +kernel) rfl (Nat.le_of_ble_eq_true rfl) ?_
  intro p e s m args below meth c hsz C
  clear hsz
  generalize va_A (mW cI cJ cZ a v f g) sz = A at C ⊢
  refine mg_lv (lv' := [(0, .ref (a 0))]) rfl ?_
  refine mg_aload_n C (i := 0) rfl 0 rfl dX12_open_0 ?_
  refine mg_aload_n C (i := 0) rfl 0 rfl dX12_open_1 ?_
  refine mg_getI C (k := 98) (by decide) rfl mL_down rfl dX12_open_2 ?_
  refine mg_cast (nI 0) h1 ?_
  refine mg_iconst C (x := nI 1) rfl dX12_open_5 ?_
  refine mg_iconst C (x := nI 1) rfl dX12_open_6 ?_
  refine mg_doi C (w13_goes l v f g ) mCal_goes rfl ⟨by decide, by decide⟩ rfl (Nat.le_of_ble_eq_true rfl) dX12_open_7 ?_
  refine mg_if_neB C 15 (by decide) dX12_open_10 (fun c_ => absurd c_ (by decide)) (fun c_10 => ?_)
  refine mg_iconst C (x := nI 0) rfl dX12_open_13 ?_
  exact mg_iret C ⟨rfl, rfl⟩ dX12_open_14
set_option maxHeartbeats 4000000 in
set_option maxRecDepth 100000 in
theorem w68_isDown (l : Launch) (v : Nat → Int32) (f : Nat → Nat → Int32) (g : Nat → Nat → Int64) (h1 : v 98 = (nI 0)) : mMi l yX12_isDown cX12_isDown 1 (some .boolean) 0 0 false [] v f g (fun r_ u_ => r_ = (bI false) ∧ u_ = (upd v 99 (nI 0), f, g)) := by
  intro D cI cJ cZ a sz
  refine mg_body (by decide +kernel) rfl (Nat.le_of_ble_eq_true rfl) ?_
  intro p e s m args below meth c hsz C
  clear hsz
  generalize va_A (mW cI cJ cZ a v f g) sz = A at C ⊢
  refine mg_lv (lv' := [(0, .ref (a 0))]) rfl ?_
  refine mg_aload_n C (i := 0) rfl 0 rfl dX12_isDown_0 ?_
  refine mg_iconst C (x := nI 0) rfl dX12_isDown_1 ?_
  refine mg_put C (k := 99) (by decide) rfl mL_last rfl (by decide +kernel) mT_last rfl rfl dX12_isDown_2 ?_
  refine mg_aload_n C (i := 0) rfl 0 rfl dX12_isDown_5 ?_
  refine mg_getI C (k := 98) (by decide) rfl mL_down rfl dX12_isDown_6 ?_
  refine mg_cast (nI 0) h1 ?_
  refine mg_cast (bI false) rfl ?_
  exact mg_zret C (bI_nar _) ⟨rfl, rfl⟩ dX12_isDown_9
set_option maxHeartbeats 4000000 in
set_option maxRecDepth 100000 in
theorem w69_filesNow (l : Launch) (v : Nat → Int32) (f : Nat → Nat → Int32) (g : Nat → Nat → Int64) (h1 : v 35 = (nI 0)) (h2 : v 40 = (nI 0)) (h3 : v 49 = (nI 0)) (h4 : v 29 = (nI 0)) : mMi l yX12_filesNow cX12_filesNow 9 (some .int) 0 0 false [] v f g (fun r_ u_ => r_ = (nI 0) ∧ u_ = (v, f, g)) := by
  intro D cI cJ cZ a sz
  refine mg_body (by decide +kernel) rfl (Nat.le_of_ble_eq_true rfl) ?_
  intro p e s m args below meth c hsz C
  clear hsz
  generalize va_A (mW cI cJ cZ a v f g) sz = A at C ⊢
  refine mg_lv (lv' := [(0, .ref (a 0))]) rfl ?_
  refine mg_aload_n C (i := 0) rfl 0 rfl dX12_filesNow_0 ?_
  refine mg_getI C (k := 35) (by decide) rfl mL_isCommitted rfl dX12_filesNow_1 ?_
  refine mg_cast (nI 0) h1 ?_
  refine mg_if_eqN C (by omega) 11 (by decide) dX12_filesNow_4 (fun c_4 => ?_) (fun c_ => absurd c_ (by omega))
  refine mg_iconst C (x := nI 0) rfl dX12_filesNow_11 ?_
  refine mg_aload_n C (i := 0) rfl 0 rfl dX12_filesNow_12 ?_
  refine mg_getI C (k := 40) (by decide) rfl mL_isPrepared rfl dX12_filesNow_13 ?_
  refine mg_cast (nI 0) h2 ?_
  refine mg_if_eqN C (by omega) 23 (by decide) dX12_filesNow_16 (fun c_16 => ?_) (fun c_ => absurd c_ (by omega))
  refine mg_iconst C (x := nI 0) rfl dX12_filesNow_23 ?_
  refine mg_iadd C dX12_filesNow_24 ?_
  refine mg_cast (nI 0) (by decide) ?_
  refine mg_aload_n C (i := 0) rfl 0 rfl dX12_filesNow_25 ?_
  refine mg_getI C (k := 49) (by decide) rfl mL_merging rfl dX12_filesNow_26 ?_
  refine mg_cast (nI 0) h3 ?_
  refine mg_if_eqN C (by omega) 43 (by decide) dX12_filesNow_29 (fun c_29 => ?_) (fun c_ => absurd c_ (by omega))
  refine mg_iconst C (x := nI 0) rfl dX12_filesNow_43 ?_
  refine mg_iadd C dX12_filesNow_44 ?_
  refine mg_cast (nI 0) (by decide) ?_
  refine mg_istore_n C (i := 1) (lv' := [(1, .int (nI 0)), (0, .ref (a 0))]) rfl (Nat.le_of_ble_eq_true rfl) rfl dX12_filesNow_45 ?_
  refine mg_iconst C (x := nI 0) rfl dX12_filesNow_46 ?_
  refine mg_istore_n C (i := 2) (lv' := [(2, .int (nI 0)), (1, .int (nI 0)), (0, .ref (a 0))]) rfl (Nat.le_of_ble_eq_true rfl) rfl dX12_filesNow_47 ?_
  refine mg_iload_n C (i := 2) rfl 0 rfl dX12_filesNow_48 ?_
  refine mg_aload_n C (i := 0) rfl 2 rfl dX12_filesNow_49 ?_
  refine mg_getI C (k := 29) (by decide) rfl mL_made rfl dX12_filesNow_50 ?_
  refine mg_cast (nI 0) h4 ?_
  refine mg_icmp_geN C (by omega) (by omega) 261 (by decide) dX12_filesNow_53 (fun c_53 => ?_) (fun c_ => absurd c_ (by omega))
  refine mg_iload_n C (i := 1) rfl 1 rfl dX12_filesNow_261 ?_
  exact mg_iret C ⟨rfl, rfl⟩ dX12_filesNow_262
set_option maxHeartbeats 4000000 in
set_option maxRecDepth 100000 in
theorem w70_files (l : Launch) (v : Nat → Int32) (f : Nat → Nat → Int32) (g : Nat → Nat → Int64) (h1 : v 98 = (nI 0)) (h2 : v 35 = (nI 0)) (h3 : v 40 = (nI 0)) (h4 : v 49 = (nI 0)) (h5 : v 29 = (nI 0)) : mMi l yX12_files cX12_files 1 (some .int) 1 28 false [] v f g (fun r_ u_ => r_ = (nI 0) ∧ u_ = (upd v 99 (nI 0), f, g)) := by
  intro D cI cJ cZ a sz
  refine mg_body (by decide +kernel) rfl (Nat.le_of_ble_eq_true rfl) ?_
  intro p e s m args below meth c hsz C
  clear hsz
  generalize va_A (mW cI cJ cZ a v f g) sz = A at C ⊢
  refine mg_lv (lv' := [(0, .ref (a 0))]) rfl ?_
  refine mg_aload_n C (i := 0) rfl 0 rfl dX12_files_0 ?_
  refine mg_aload_n C (i := 0) rfl 0 rfl dX12_files_1 ?_
  refine mg_getI C (k := 98) (by decide) rfl mL_down rfl dX12_files_2 ?_
  refine mg_cast (nI 0) h1 ?_
  refine mg_if_neN C (by omega) 12 (by decide) dX12_files_5 (fun c_ => absurd c_ (by omega)) (fun c_5 => ?_)
  refine mg_iconst C (x := nI 1) rfl dX12_files_8 ?_
  refine mg_goto C 13 (by decide) dX12_files_9 ?_
  refine mg_iconst C (x := nI 1) rfl dX12_files_13 ?_
  refine mg_iconst C (x := nI 1) rfl dX12_files_14 ?_
  refine mg_doi C (w30_goes l v f g ) mCal_goes rfl ⟨by decide, by decide⟩ rfl (Nat.le_of_ble_eq_true rfl) dX12_files_15 ?_
  refine mg_if_eqB C 28 (by decide) dX12_files_18 (fun c_ => absurd c_ (by decide)) (fun c_18 => ?_)
  refine mg_aload_n C (i := 0) rfl 0 rfl dX12_files_21 ?_
  refine mg_doi C (w69_filesNow l (upd v 99 (nI 0)) f g h2 h3 h4 h5) mCal_filesNow rfl ⟨by decide, by decide⟩ rfl (Nat.le_of_ble_eq_true rfl) dX12_files_22 ?_
  refine mg_goto C 29 (by decide) dX12_files_25 ?_
  exact mg_iret C ⟨rfl, rfl⟩ dX12_files_29
set_option maxHeartbeats 4000000 in
set_option maxRecDepth 100000 in
theorem w71_writes (l : Launch) (v : Nat → Int32) (f : Nat → Nat → Int32) (g : Nat → Nat → Int64) (h1 : v 96 = (nI 0)) : mMi l yX12_writes cX12_writes 1 (some .int) 0 0 false [] v f g (fun r_ u_ => r_ = (nI 0) ∧ u_ = (upd v 99 (nI 0), f, g)) := by
  intro D cI cJ cZ a sz
  refine mg_body (by decide +kernel) rfl (Nat.le_of_ble_eq_true rfl) ?_
  intro p e s m args below meth c hsz C
  clear hsz
  generalize va_A (mW cI cJ cZ a v f g) sz = A at C ⊢
  refine mg_lv (lv' := [(0, .ref (a 0))]) rfl ?_
  refine mg_aload_n C (i := 0) rfl 0 rfl dX12_writes_0 ?_
  refine mg_iconst C (x := nI 0) rfl dX12_writes_1 ?_
  refine mg_put C (k := 99) (by decide) rfl mL_last rfl (by decide +kernel) mT_last rfl rfl dX12_writes_2 ?_
  refine mg_aload_n C (i := 0) rfl 0 rfl dX12_writes_5 ?_
  refine mg_getI C (k := 96) (by decide) rfl mL_writes rfl dX12_writes_6 ?_
  refine mg_cast (nI 0) h1 ?_
  exact mg_iret C ⟨rfl, rfl⟩ dX12_writes_9
set_option maxHeartbeats 4000000 in
set_option maxRecDepth 100000 in
theorem w72_segments (l : Launch) (v : Nat → Int32) (f : Nat → Nat → Int32) (g : Nat → Nat → Int64) (h1 : v 98 = (nI 0)) (h2 : v 34 = (nI 0)) : mMi l yX12_segments cX12_segments 1 (some .int) 1 23 false [] v f g (fun r_ u_ => r_ = (nI 0) ∧ u_ = (upd v 99 (nI 0), f, g)) := by
  intro D cI cJ cZ a sz
  refine mg_body (by decide +kernel) rfl (Nat.le_of_ble_eq_true rfl) ?_
  intro p e s m args below meth c hsz C
  clear hsz
  generalize va_A (mW cI cJ cZ a v f g) sz = A at C ⊢
  refine mg_lv (lv' := [(0, .ref (a 0))]) rfl ?_
  refine mg_aload_n C (i := 0) rfl 0 rfl dX12_segments_0 ?_
  refine mg_aload_n C (i := 0) rfl 0 rfl dX12_segments_1 ?_
  refine mg_getI C (k := 98) (by decide) rfl mL_down rfl dX12_segments_2 ?_
  refine mg_cast (nI 0) h1 ?_
  refine mg_if_neN C (by omega) 12 (by decide) dX12_segments_5 (fun c_ => absurd c_ (by omega)) (fun c_5 => ?_)
  refine mg_iconst C (x := nI 1) rfl dX12_segments_8 ?_
  refine mg_goto C 13 (by decide) dX12_segments_9 ?_
  refine mg_iconst C (x := nI 1) rfl dX12_segments_13 ?_
  refine mg_iconst C (x := nI 1) rfl dX12_segments_14 ?_
  refine mg_doi C (w30_goes l v f g ) mCal_goes rfl ⟨by decide, by decide⟩ rfl (Nat.le_of_ble_eq_true rfl) dX12_segments_15 ?_
  refine mg_if_eqB C 28 (by decide) dX12_segments_18 (fun c_ => absurd c_ (by decide)) (fun c_18 => ?_)
  refine mg_aload_n C (i := 0) rfl 0 rfl dX12_segments_21 ?_
  refine mg_getI C (k := 34) (by decide) rfl mL_indexed rfl dX12_segments_22 ?_
  refine mg_cast (nI 0) h2 ?_
  refine mg_goto C 29 (by decide) dX12_segments_25 ?_
  exact mg_iret C ⟨rfl, rfl⟩ dX12_segments_29
set_option maxHeartbeats 4000000 in
set_option maxRecDepth 100000 in
theorem w73_in (l : Launch) (v : Nat → Int32) (f : Nat → Nat → Int32) (g : Nat → Nat → Int64) (x1 : Int32) (h1 : x1 < 0) : mMi l yX12_in cX12_in 3 (some .boolean) 0 0 true [.int x1, .int (nI 0), .int ((-1))] v f g (fun r_ u_ => r_ = (bI false) ∧ u_ = (v, f, g)) := by
  intro D cI cJ cZ a sz
  refine mg_body (by decide +kernel) rfl (Nat.le_of_ble_eq_true rfl) ?_
  intro p e s m args below meth c hsz C
  clear hsz
  generalize va_A (mW cI cJ cZ a v f g) sz = A at C ⊢
  refine mg_lv (lv' := [(0, .int x1), (1, .int (nI 0)), (2, .int ((-1)))]) rfl ?_
  refine mg_iload_n C (i := 0) rfl 0 rfl dX12_in_0 ?_
  refine mg_iload_n C (i := 1) rfl 1 rfl dX12_in_1 ?_
  refine mg_icmp_lt C 14 (by decide) dX12_in_2 (fun c_2 => ?_) (fun c_ => absurd (cneg_lt h1 (by omega)) c_)
  refine mg_iconst C (x := nI 0) rfl dX12_in_14 ?_
  refine mg_cast (bI false) rfl ?_
  exact mg_zret C (bI_nar _) ⟨rfl, rfl⟩ dX12_in_15
set_option maxHeartbeats 4000000 in
set_option maxRecDepth 100000 in
theorem w74_isPlace (l : Launch) (v : Nat → Int32) (f : Nat → Nat → Int32) (g : Nat → Nat → Int64) (x1 : Int32) (h1 : x1 < 0) (h2 : v 98 = (nI 0)) (h3 : v 34 = (nI 0)) : mMi l yX12_isPlace cX12_isPlace 2 (some .boolean) 1 22 false [.int x1] v f g (fun r_ u_ => r_ = (bI false) ∧ u_ = (v, f, g)) := by
  intro D cI cJ cZ a sz
  refine mg_body (by decide +kernel) rfl (Nat.le_of_ble_eq_true rfl) ?_
  intro p e s m args below meth c hsz C
  clear hsz
  generalize va_A (mW cI cJ cZ a v f g) sz = A at C ⊢
  refine mg_lv (lv' := [(0, .ref (a 0)), (1, .int x1)]) rfl ?_
  refine mg_aload_n C (i := 0) rfl 0 rfl dX12_isPlace_0 ?_
  refine mg_getI C (k := 98) (by decide) rfl mL_down rfl dX12_isPlace_1 ?_
  refine mg_cast (nI 0) h2 ?_
  refine mg_if_neN C (by omega) 25 (by decide) dX12_isPlace_4 (fun c_ => absurd c_ (by omega)) (fun c_4 => ?_)
  refine mg_iload_n C (i := 1) rfl 1 rfl dX12_isPlace_7 ?_
  refine mg_iconst C (x := nI 0) rfl dX12_isPlace_8 ?_
  refine mg_aload_n C (i := 0) rfl 0 rfl dX12_isPlace_9 ?_
  refine mg_getI C (k := 34) (by decide) rfl mL_indexed rfl dX12_isPlace_10 ?_
  refine mg_cast (nI 0) h3 ?_
  refine mg_iconst C (x := nI 1) rfl dX12_isPlace_13 ?_
  refine mg_isub C dX12_isPlace_14 ?_
  refine mg_cast ((-1)) (by decide) ?_
  refine mg_dosi C (w73_in l v f g x1 h1) mCal_in rfl ⟨by decide, by decide⟩ rfl (Nat.le_of_ble_eq_true rfl) dX12_isPlace_15 ?_
  refine mg_if_eqB C 25 (by decide) dX12_isPlace_18 (fun c_18 => ?_) (fun c_ => absurd c_ (by decide))
  refine mg_iconst C (x := nI 0) rfl dX12_isPlace_25 ?_
  refine mg_cast (bI false) rfl ?_
  exact mg_zret C (bI_nar _) ⟨rfl, rfl⟩ dX12_isPlace_26
set_option maxHeartbeats 4000000 in
set_option maxRecDepth 100000 in
theorem w75_segmentAt (l : Launch) (v : Nat → Int32) (f : Nat → Nat → Int32) (g : Nat → Nat → Int64) (x1 : Int32) (h1 : x1 < 0) (h2 : v 98 = (nI 0)) (h3 : v 34 = (nI 0)) : mMi l yX12_segmentAt cX12_segmentAt 2 (some .int) 2 43 false [.int x1] v f g (fun r_ u_ => r_ = (nI 0) ∧ u_ = (upd v 99 (nI 1), f, g)) := by
  intro D cI cJ cZ a sz
  refine mg_body (by decide +kernel) rfl (Nat.le_of_ble_eq_true rfl) ?_
  intro p e s m args below meth c hsz C
  clear hsz
  generalize va_A (mW cI cJ cZ a v f g) sz = A at C ⊢
  refine mg_lv (lv' := [(0, .ref (a 0)), (1, .int x1)]) rfl ?_
  refine mg_aload_n C (i := 0) rfl 0 rfl dX12_segmentAt_0 ?_
  refine mg_aload_n C (i := 0) rfl 0 rfl dX12_segmentAt_1 ?_
  refine mg_iload_n C (i := 1) rfl 1 rfl dX12_segmentAt_2 ?_
  refine mg_doi C (w74_isPlace l v f g x1 h1 h2 h3) mCal_isPlace rfl ⟨by decide, by decide⟩ rfl (Nat.le_of_ble_eq_true rfl) dX12_segmentAt_3 ?_
  refine mg_iconst C (x := nI 1) rfl dX12_segmentAt_6 ?_
  refine mg_iconst C (x := nI 1) rfl dX12_segmentAt_7 ?_
  refine mg_doi C (w2_goes l v f g ) mCal_goes rfl ⟨by decide, by decide⟩ rfl (Nat.le_of_ble_eq_true rfl) dX12_segmentAt_8 ?_
  refine mg_if_eqB C 23 (by decide) dX12_segmentAt_11 (fun c_11 => ?_) (fun c_ => absurd c_ (by decide))
  refine mg_iconst C (x := nI 0) rfl dX12_segmentAt_23 ?_
  exact mg_iret C ⟨rfl, rfl⟩ dX12_segmentAt_24
set_option maxHeartbeats 4000000 in
set_option maxRecDepth 100000 in
theorem w76_in (l : Launch) (v : Nat → Int32) (f : Nat → Nat → Int32) (g : Nat → Nat → Int64) (n1 : Nat) (h1 : n1 ≤ 2147483647) : mMi l yX12_in cX12_in 3 (some .boolean) 0 0 true [.int (nI n1), .int (nI 0), .int ((-1))] v f g (fun r_ u_ => r_ = (bI false) ∧ u_ = (v, f, g)) := by
  intro D cI cJ cZ a sz
  refine mg_body (by decide +kernel) rfl (Nat.le_of_ble_eq_true rfl) ?_
  intro p e s m args below meth c hsz C
  clear hsz
  generalize va_A (mW cI cJ cZ a v f g) sz = A at C ⊢
  refine mg_lv (lv' := [(0, .int (nI n1)), (1, .int (nI 0)), (2, .int ((-1)))]) rfl ?_
  refine mg_iload_n C (i := 0) rfl 0 rfl dX12_in_0 ?_
  refine mg_iload_n C (i := 1) rfl 1 rfl dX12_in_1 ?_
  refine mg_icmp_ltN C (by omega) (by omega) 14 (by decide) dX12_in_2 (fun c_ => absurd c_ (by omega)) (fun c_2 => ?_)
  refine mg_iload_n C (i := 0) rfl 0 rfl dX12_in_5 ?_
  refine mg_iload_n C (i := 2) rfl 2 rfl dX12_in_6 ?_
  refine mg_icmp_gt C 14 (by decide) dX12_in_7 (fun c_7 => ?_) (fun c_ => absurd (cneg_lt (show ((-1) : Int32) < 0 from by decide) (by omega)) c_)
  refine mg_iconst C (x := nI 0) rfl dX12_in_14 ?_
  refine mg_cast (bI false) rfl ?_
  exact mg_zret C (bI_nar _) ⟨rfl, rfl⟩ dX12_in_15
set_option maxHeartbeats 4000000 in
set_option maxRecDepth 100000 in
theorem w77_isPlace (l : Launch) (v : Nat → Int32) (f : Nat → Nat → Int32) (g : Nat → Nat → Int64) (n1 : Nat) (h1 : n1 ≤ 2147483647) (h2 : v 98 = (nI 0)) (h3 : v 34 = (nI 0)) : mMi l yX12_isPlace cX12_isPlace 2 (some .boolean) 1 22 false [.int (nI n1)] v f g (fun r_ u_ => r_ = (bI false) ∧ u_ = (v, f, g)) := by
  intro D cI cJ cZ a sz
  refine mg_body (by decide +kernel) rfl (Nat.le_of_ble_eq_true rfl) ?_
  intro p e s m args below meth c hsz C
  clear hsz
  generalize va_A (mW cI cJ cZ a v f g) sz = A at C ⊢
  refine mg_lv (lv' := [(0, .ref (a 0)), (1, .int (nI n1))]) rfl ?_
  refine mg_aload_n C (i := 0) rfl 0 rfl dX12_isPlace_0 ?_
  refine mg_getI C (k := 98) (by decide) rfl mL_down rfl dX12_isPlace_1 ?_
  refine mg_cast (nI 0) h2 ?_
  refine mg_if_neN C (by omega) 25 (by decide) dX12_isPlace_4 (fun c_ => absurd c_ (by omega)) (fun c_4 => ?_)
  refine mg_iload_n C (i := 1) rfl 1 rfl dX12_isPlace_7 ?_
  refine mg_iconst C (x := nI 0) rfl dX12_isPlace_8 ?_
  refine mg_aload_n C (i := 0) rfl 0 rfl dX12_isPlace_9 ?_
  refine mg_getI C (k := 34) (by decide) rfl mL_indexed rfl dX12_isPlace_10 ?_
  refine mg_cast (nI 0) h3 ?_
  refine mg_iconst C (x := nI 1) rfl dX12_isPlace_13 ?_
  refine mg_isub C dX12_isPlace_14 ?_
  refine mg_cast ((-1)) (by decide) ?_
  refine mg_dosi C (w76_in l v f g n1 (by omega)) mCal_in rfl ⟨by decide, by decide⟩ rfl (Nat.le_of_ble_eq_true rfl) dX12_isPlace_15 ?_
  refine mg_if_eqB C 25 (by decide) dX12_isPlace_18 (fun c_18 => ?_) (fun c_ => absurd c_ (by decide))
  refine mg_iconst C (x := nI 0) rfl dX12_isPlace_25 ?_
  refine mg_cast (bI false) rfl ?_
  exact mg_zret C (bI_nar _) ⟨rfl, rfl⟩ dX12_isPlace_26
set_option maxHeartbeats 4000000 in
set_option maxRecDepth 100000 in
theorem w78_segmentAt (l : Launch) (v : Nat → Int32) (f : Nat → Nat → Int32) (g : Nat → Nat → Int64) (n1 : Nat) (h1 : n1 ≤ 2147483647) (h2 : v 98 = (nI 0)) (h3 : v 34 = (nI 0)) : mMi l yX12_segmentAt cX12_segmentAt 2 (some .int) 2 43 false [.int (nI n1)] v f g (fun r_ u_ => r_ = (nI 0) ∧ u_ = (upd v 99 (nI 1), f, g)) := by
  intro D cI cJ cZ a sz
  refine mg_body (by decide +kernel) rfl (Nat.le_of_ble_eq_true rfl) ?_
  intro p e s m args below meth c hsz C
  clear hsz
  generalize va_A (mW cI cJ cZ a v f g) sz = A at C ⊢
  refine mg_lv (lv' := [(0, .ref (a 0)), (1, .int (nI n1))]) rfl ?_
  refine mg_aload_n C (i := 0) rfl 0 rfl dX12_segmentAt_0 ?_
  refine mg_aload_n C (i := 0) rfl 0 rfl dX12_segmentAt_1 ?_
  refine mg_iload_n C (i := 1) rfl 1 rfl dX12_segmentAt_2 ?_
  refine mg_doi C (w77_isPlace l v f g n1 (by omega) h2 h3) mCal_isPlace rfl ⟨by decide, by decide⟩ rfl (Nat.le_of_ble_eq_true rfl) dX12_segmentAt_3 ?_
  refine mg_iconst C (x := nI 1) rfl dX12_segmentAt_6 ?_
  refine mg_iconst C (x := nI 1) rfl dX12_segmentAt_7 ?_
  refine mg_doi C (w2_goes l v f g ) mCal_goes rfl ⟨by decide, by decide⟩ rfl (Nat.le_of_ble_eq_true rfl) dX12_segmentAt_8 ?_
  refine mg_if_eqB C 23 (by decide) dX12_segmentAt_11 (fun c_11 => ?_) (fun c_ => absurd c_ (by decide))
  refine mg_iconst C (x := nI 0) rfl dX12_segmentAt_23 ?_
  exact mg_iret C ⟨rfl, rfl⟩ dX12_segmentAt_24
set_option maxHeartbeats 4000000 in
set_option maxRecDepth 100000 in
theorem w79_live (l : Launch) (v : Nat → Int32) (f : Nat → Nat → Int32) (g : Nat → Nat → Int64) (x1 : Int32) (h1 : x1 < 0) (h2 : v 98 = (nI 0)) (h3 : v 34 = (nI 0)) : mMi l yX12_live cX12_live 5 (some .int) 2 43 false [.int x1] v f g (fun r_ u_ => r_ = (nI 0) ∧ u_ = (upd v 99 (nI 1), f, g)) := by
  intro D cI cJ cZ a sz
  refine mg_body (by decide +kernel) rfl (Nat.le_of_ble_eq_true rfl) ?_
  intro p e s m args below meth c hsz C
  clear hsz
  generalize va_A (mW cI cJ cZ a v f g) sz = A at C ⊢
  refine mg_lv (lv' := [(0, .ref (a 0)), (1, .int x1)]) rfl ?_
  refine mg_iconst C (x := nI 0) rfl dX12_live_0 ?_
  refine mg_istore_n C (i := 2) (lv' := [(2, .int (nI 0)), (0, .ref (a 0)), (1, .int x1)]) rfl (Nat.le_of_ble_eq_true rfl) rfl dX12_live_1 ?_
  refine mg_aload_n C (i := 0) rfl 1 rfl dX12_live_2 ?_
  refine mg_aload_n C (i := 0) rfl 1 rfl dX12_live_3 ?_
  refine mg_iload_n C (i := 1) rfl 2 rfl dX12_live_4 ?_
  refine mg_doi C (w74_isPlace l v f g x1 h1 h2 h3) mCal_isPlace rfl ⟨by decide, by decide⟩ rfl (Nat.le_of_ble_eq_true rfl) dX12_live_5 ?_
  refine mg_iconst C (x := nI 1) rfl dX12_live_8 ?_
  refine mg_iconst C (x := nI 1) rfl dX12_live_9 ?_
  refine mg_doi C (w2_goes l v f g ) mCal_goes rfl ⟨by decide, by decide⟩ rfl (Nat.le_of_ble_eq_true rfl) dX12_live_10 ?_
  refine mg_istore_n C (i := 3) (lv' := [(3, .int (bI false)), (2, .int (nI 0)), (0, .ref (a 0)), (1, .int x1)]) rfl (Nat.le_of_ble_eq_true rfl) rfl dX12_live_13 ?_
  refine mg_iconst C (x := nI 0) rfl dX12_live_14 ?_
  refine mg_istore C (lv' := [(4, .int (nI 0)), (3, .int (bI false)), (2, .int (nI 0)), (0, .ref (a 0)), (1, .int x1)]) (Nat.le_of_ble_eq_true rfl) rfl dX12_live_15 ?_
  refine mg_iload_n C (i := 3) rfl 1 rfl dX12_live_17 ?_
  refine mg_if_eqB C 71 (by decide) dX12_live_18 (fun c_18 => ?_) (fun c_ => absurd c_ (by decide))
  refine mg_iload_n C (i := 2) rfl 2 rfl dX12_live_71 ?_
  exact mg_iret C ⟨rfl, rfl⟩ dX12_live_72
set_option maxHeartbeats 4000000 in
set_option maxRecDepth 100000 in
theorem w80_live (l : Launch) (v : Nat → Int32) (f : Nat → Nat → Int32) (g : Nat → Nat → Int64) (n1 : Nat) (h1 : n1 ≤ 2147483647) (h2 : v 98 = (nI 0)) (h3 : v 34 = (nI 0)) : mMi l yX12_live cX12_live 5 (some .int) 2 43 false [.int (nI n1)] v f g (fun r_ u_ => r_ = (nI 0) ∧ u_ = (upd v 99 (nI 1), f, g)) := by
  intro D cI cJ cZ a sz
  refine mg_body (by decide +kernel) rfl (Nat.le_of_ble_eq_true rfl) ?_
  intro p e s m args below meth c hsz C
  clear hsz
  generalize va_A (mW cI cJ cZ a v f g) sz = A at C ⊢
  refine mg_lv (lv' := [(0, .ref (a 0)), (1, .int (nI n1))]) rfl ?_
  refine mg_iconst C (x := nI 0) rfl dX12_live_0 ?_
  refine mg_istore_n C (i := 2) (lv' := [(2, .int (nI 0)), (0, .ref (a 0)), (1, .int (nI n1))]) rfl (Nat.le_of_ble_eq_true rfl) rfl dX12_live_1 ?_
  refine mg_aload_n C (i := 0) rfl 1 rfl dX12_live_2 ?_
  refine mg_aload_n C (i := 0) rfl 1 rfl dX12_live_3 ?_
  refine mg_iload_n C (i := 1) rfl 2 rfl dX12_live_4 ?_
  refine mg_doi C (w77_isPlace l v f g n1 (by omega) h2 h3) mCal_isPlace rfl ⟨by decide, by decide⟩ rfl (Nat.le_of_ble_eq_true rfl) dX12_live_5 ?_
  refine mg_iconst C (x := nI 1) rfl dX12_live_8 ?_
  refine mg_iconst C (x := nI 1) rfl dX12_live_9 ?_
  refine mg_doi C (w2_goes l v f g ) mCal_goes rfl ⟨by decide, by decide⟩ rfl (Nat.le_of_ble_eq_true rfl) dX12_live_10 ?_
  refine mg_istore_n C (i := 3) (lv' := [(3, .int (bI false)), (2, .int (nI 0)), (0, .ref (a 0)), (1, .int (nI n1))]) rfl (Nat.le_of_ble_eq_true rfl) rfl dX12_live_13 ?_
  refine mg_iconst C (x := nI 0) rfl dX12_live_14 ?_
  refine mg_istore C (lv' := [(4, .int (nI 0)), (3, .int (bI false)), (2, .int (nI 0)), (0, .ref (a 0)), (1, .int (nI n1))]) (Nat.le_of_ble_eq_true rfl) rfl dX12_live_15 ?_
  refine mg_iload_n C (i := 3) rfl 1 rfl dX12_live_17 ?_
  refine mg_if_eqB C 71 (by decide) dX12_live_18 (fun c_18 => ?_) (fun c_ => absurd c_ (by decide))
  refine mg_iload_n C (i := 2) rfl 2 rfl dX12_live_71 ?_
  exact mg_iret C ⟨rfl, rfl⟩ dX12_live_72
set_option maxHeartbeats 4000000 in
set_option maxRecDepth 100000 in
theorem w81_keyAt (l : Launch) (v : Nat → Int32) (f : Nat → Nat → Int32) (g : Nat → Nat → Int64) (x1 x2 : Int32) (h1 : x1 < 0) (h2 : v 98 = (nI 0)) (h3 : v 34 = (nI 0)) : mMi l yX12_keyAt cX12_keyAt 4 (some .int) 2 43 false [.int x1, .int x2] v f g (fun r_ u_ => r_ = (nI 0) ∧ u_ = (upd v 99 (nI 1), f, g)) := by
  intro D cI cJ cZ a sz
  refine mg_body (by decide +kernel) rfl (Nat.le_of_ble_eq_true rfl) ?_
  intro p e s m args below meth c hsz C
  clear hsz
  generalize va_A (mW cI cJ cZ a v f g) sz = A at C ⊢
  refine mg_lv (lv' := [(0, .ref (a 0)), (1, .int x1), (2, .int x2)]) rfl ?_
  refine mg_aload_n C (i := 0) rfl 0 rfl dX12_keyAt_0 ?_
  refine mg_iload_n C (i := 1) rfl 1 rfl dX12_keyAt_1 ?_
  refine mg_doi C (w74_isPlace l v f g x1 h1 h2 h3) mCal_isPlace rfl ⟨by decide, by decide⟩ rfl (Nat.le_of_ble_eq_true rfl) dX12_keyAt_2 ?_
  refine mg_istore_n C (i := 3) (lv' := [(3, .int (bI false)), (0, .ref (a 0)), (1, .int x1), (2, .int x2)]) rfl (Nat.le_of_ble_eq_true rfl) rfl dX12_keyAt_5 ?_
  refine mg_aload_n C (i := 0) rfl 1 rfl dX12_keyAt_6 ?_
  refine mg_iload_n C (i := 3) rfl 0 rfl dX12_keyAt_7 ?_
  refine mg_if_eqB C 44 (by decide) dX12_keyAt_8 (fun c_8 => ?_) (fun c_ => absurd c_ (by decide))
  refine mg_iconst C (x := nI 0) rfl dX12_keyAt_44 ?_
  refine mg_iconst C (x := nI 1) rfl dX12_keyAt_45 ?_
  refine mg_iconst C (x := nI 1) rfl dX12_keyAt_46 ?_
  refine mg_doi C (w13_goes l v f g ) mCal_goes rfl ⟨by decide, by decide⟩ rfl (Nat.le_of_ble_eq_true rfl) dX12_keyAt_47 ?_
  refine mg_if_eqB C 77 (by decide) dX12_keyAt_50 (fun c_50 => ?_) (fun c_ => absurd c_ (by decide))
  refine mg_iconst C (x := nI 0) rfl dX12_keyAt_77 ?_
  exact mg_iret C ⟨rfl, rfl⟩ dX12_keyAt_78
set_option maxHeartbeats 4000000 in
set_option maxRecDepth 100000 in
theorem w82_keyAt (l : Launch) (v : Nat → Int32) (f : Nat → Nat → Int32) (g : Nat → Nat → Int64) (n1 : Nat) (x1 : Int32) (h1 : n1 ≤ 2147483647) (h2 : v 98 = (nI 0)) (h3 : v 34 = (nI 0)) : mMi l yX12_keyAt cX12_keyAt 4 (some .int) 2 43 false [.int (nI n1), .int x1] v f g (fun r_ u_ => r_ = (nI 0) ∧ u_ = (upd v 99 (nI 1), f, g)) := by
  intro D cI cJ cZ a sz
  refine mg_body (by decide +kernel) rfl (Nat.le_of_ble_eq_true rfl) ?_
  intro p e s m args below meth c hsz C
  clear hsz
  generalize va_A (mW cI cJ cZ a v f g) sz = A at C ⊢
  refine mg_lv (lv' := [(0, .ref (a 0)), (1, .int (nI n1)), (2, .int x1)]) rfl ?_
  refine mg_aload_n C (i := 0) rfl 0 rfl dX12_keyAt_0 ?_
  refine mg_iload_n C (i := 1) rfl 1 rfl dX12_keyAt_1 ?_
  refine mg_doi C (w77_isPlace l v f g n1 (by omega) h2 h3) mCal_isPlace rfl ⟨by decide, by decide⟩ rfl (Nat.le_of_ble_eq_true rfl) dX12_keyAt_2 ?_
  refine mg_istore_n C (i := 3) (lv' := [(3, .int (bI false)), (0, .ref (a 0)), (1, .int (nI n1)), (2, .int x1)]) rfl (Nat.le_of_ble_eq_true rfl) rfl dX12_keyAt_5 ?_
  refine mg_aload_n C (i := 0) rfl 1 rfl dX12_keyAt_6 ?_
  refine mg_iload_n C (i := 3) rfl 0 rfl dX12_keyAt_7 ?_
  refine mg_if_eqB C 44 (by decide) dX12_keyAt_8 (fun c_8 => ?_) (fun c_ => absurd c_ (by decide))
  refine mg_iconst C (x := nI 0) rfl dX12_keyAt_44 ?_
  refine mg_iconst C (x := nI 1) rfl dX12_keyAt_45 ?_
  refine mg_iconst C (x := nI 1) rfl dX12_keyAt_46 ?_
  refine mg_doi C (w13_goes l v f g ) mCal_goes rfl ⟨by decide, by decide⟩ rfl (Nat.le_of_ble_eq_true rfl) dX12_keyAt_47 ?_
  refine mg_if_eqB C 77 (by decide) dX12_keyAt_50 (fun c_50 => ?_) (fun c_ => absurd c_ (by decide))
  refine mg_iconst C (x := nI 0) rfl dX12_keyAt_77 ?_
  exact mg_iret C ⟨rfl, rfl⟩ dX12_keyAt_78
set_option maxHeartbeats 4000000 in
set_option maxRecDepth 100000 in
theorem w83_hasWords (l : Launch) (v : Nat → Int32) (f : Nat → Nat → Int32) (g : Nat → Nat → Int64) (x1 x2 : Int32) (h1 : x1 < 0) (h2 : v 98 = (nI 0)) (h3 : v 34 = (nI 0)) : mMi l yX12_hasWords cX12_hasWords 4 (some .boolean) 2 43 false [.int x1, .int x2] v f g (fun r_ u_ => r_ = (bI false) ∧ u_ = (v, f, g)) := by
  intro D cI cJ cZ a sz
  refine mg_body (by decide +kernel) rfl (Nat.le_of_ble_eq_true rfl) ?_
  intro p e s m args below meth c hsz C
  clear hsz
  generalize va_A (mW cI cJ cZ a v f g) sz = A at C ⊢
  refine mg_lv (lv' := [(0, .ref (a 0)), (1, .int x1), (2, .int x2)]) rfl ?_
  refine mg_aload_n C (i := 0) rfl 0 rfl dX12_hasWords_0 ?_
  refine mg_iload_n C (i := 1) rfl 1 rfl dX12_hasWords_1 ?_
  refine mg_doi C (w74_isPlace l v f g x1 h1 h2 h3) mCal_isPlace rfl ⟨by decide, by decide⟩ rfl (Nat.le_of_ble_eq_true rfl) dX12_hasWords_2 ?_
  refine mg_if_eqB C 20 (by decide) dX12_hasWords_5 (fun c_5 => ?_) (fun c_ => absurd c_ (by decide))
  refine mg_iconst C (x := nI 0) rfl dX12_hasWords_20 ?_
  refine mg_istore_n C (i := 3) (lv' := [(3, .int (nI 0)), (0, .ref (a 0)), (1, .int x1), (2, .int x2)]) rfl (Nat.le_of_ble_eq_true rfl) rfl dX12_hasWords_21 ?_
  refine mg_iload_n C (i := 3) rfl 0 rfl dX12_hasWords_22 ?_
  refine mg_if_eqN C (by omega) 37 (by decide) dX12_hasWords_23 (fun c_23 => ?_) (fun c_ => absurd c_ (by omega))
  refine mg_iload_n C (i := 3) rfl 0 rfl dX12_hasWords_37 ?_
  refine mg_cast (bI false) rfl ?_
  exact mg_zret C (bI_nar _) ⟨rfl, rfl⟩ dX12_hasWords_38
set_option maxHeartbeats 4000000 in
set_option maxRecDepth 100000 in
theorem w84_words (l : Launch) (v : Nat → Int32) (f : Nat → Nat → Int32) (g : Nat → Nat → Int64) (x1 x2 : Int32) (h1 : x1 < 0) (h2 : v 98 = (nI 0)) (h3 : v 34 = (nI 0)) : mMi l yX12_words cX12_words 3 (some .int) 3 66 false [.int x1, .int x2] v f g (fun r_ u_ => r_ = (nI 0) ∧ u_ = (upd v 99 (nI 1), f, g)) := by
  intro D cI cJ cZ a sz
  refine mg_body (by decide +kernel) rfl (Nat.le_of_ble_eq_true rfl) ?_
  intro p e s m args below meth c hsz C
  clear hsz
  generalize va_A (mW cI cJ cZ a v f g) sz = A at C ⊢
  refine mg_lv (lv' := [(0, .ref (a 0)), (1, .int x1), (2, .int x2)]) rfl ?_
  refine mg_aload_n C (i := 0) rfl 0 rfl dX12_words_0 ?_
  refine mg_aload_n C (i := 0) rfl 0 rfl dX12_words_1 ?_
  refine mg_iload_n C (i := 1) rfl 1 rfl dX12_words_2 ?_
  refine mg_iload_n C (i := 2) rfl 2 rfl dX12_words_3 ?_
  refine mg_doi C (w83_hasWords l v f g x1 x2 h1 h2 h3) mCal_hasWords rfl ⟨by decide, by decide⟩ rfl (Nat.le_of_ble_eq_true rfl) dX12_words_4 ?_
  refine mg_iconst C (x := nI 1) rfl dX12_words_7 ?_
  refine mg_iconst C (x := nI 1) rfl dX12_words_8 ?_
  refine mg_doi C (w2_goes l v f g ) mCal_goes rfl ⟨by decide, by decide⟩ rfl (Nat.le_of_ble_eq_true rfl) dX12_words_9 ?_
  refine mg_if_eqB C 22 (by decide) dX12_words_12 (fun c_12 => ?_) (fun c_ => absurd c_ (by decide))
  refine mg_iconst C (x := nI 0) rfl dX12_words_22 ?_
  exact mg_iret C ⟨rfl, rfl⟩ dX12_words_23
set_option maxHeartbeats 4000000 in
set_option maxRecDepth 100000 in
theorem w85_hasWords (l : Launch) (v : Nat → Int32) (f : Nat → Nat → Int32) (g : Nat → Nat → Int64) (n1 : Nat) (x1 : Int32) (h1 : n1 ≤ 2147483647) (h2 : v 98 = (nI 0)) (h3 : v 34 = (nI 0)) : mMi l yX12_hasWords cX12_hasWords 4 (some .boolean) 2 43 false [.int (nI n1), .int x1] v f g (fun r_ u_ => r_ = (bI false) ∧ u_ = (v, f, g)) := by
  intro D cI cJ cZ a sz
  refine mg_body (by decide +kernel) rfl (Nat.le_of_ble_eq_true rfl) ?_
  intro p e s m args below meth c hsz C
  clear hsz
  generalize va_A (mW cI cJ cZ a v f g) sz = A at C ⊢
  refine mg_lv (lv' := [(0, .ref (a 0)), (1, .int (nI n1)), (2, .int x1)]) rfl ?_
  refine mg_aload_n C (i := 0) rfl 0 rfl dX12_hasWords_0 ?_
  refine mg_iload_n C (i := 1) rfl 1 rfl dX12_hasWords_1 ?_
  refine mg_doi C (w77_isPlace l v f g n1 (by omega) h2 h3) mCal_isPlace rfl ⟨by decide, by decide⟩ rfl (Nat.le_of_ble_eq_true rfl) dX12_hasWords_2 ?_
  refine mg_if_eqB C 20 (by decide) dX12_hasWords_5 (fun c_5 => ?_) (fun c_ => absurd c_ (by decide))
  refine mg_iconst C (x := nI 0) rfl dX12_hasWords_20 ?_
  refine mg_istore_n C (i := 3) (lv' := [(3, .int (nI 0)), (0, .ref (a 0)), (1, .int (nI n1)), (2, .int x1)]) rfl (Nat.le_of_ble_eq_true rfl) rfl dX12_hasWords_21 ?_
  refine mg_iload_n C (i := 3) rfl 0 rfl dX12_hasWords_22 ?_
  refine mg_if_eqN C (by omega) 37 (by decide) dX12_hasWords_23 (fun c_23 => ?_) (fun c_ => absurd c_ (by omega))
  refine mg_iload_n C (i := 3) rfl 0 rfl dX12_hasWords_37 ?_
  refine mg_cast (bI false) rfl ?_
  exact mg_zret C (bI_nar _) ⟨rfl, rfl⟩ dX12_hasWords_38
set_option maxHeartbeats 4000000 in
set_option maxRecDepth 100000 in
theorem w86_words (l : Launch) (v : Nat → Int32) (f : Nat → Nat → Int32) (g : Nat → Nat → Int64) (n1 : Nat) (x1 : Int32) (h1 : n1 ≤ 2147483647) (h2 : v 98 = (nI 0)) (h3 : v 34 = (nI 0)) : mMi l yX12_words cX12_words 3 (some .int) 3 66 false [.int (nI n1), .int x1] v f g (fun r_ u_ => r_ = (nI 0) ∧ u_ = (upd v 99 (nI 1), f, g)) := by
  intro D cI cJ cZ a sz
  refine mg_body (by decide +kernel) rfl (Nat.le_of_ble_eq_true rfl) ?_
  intro p e s m args below meth c hsz C
  clear hsz
  generalize va_A (mW cI cJ cZ a v f g) sz = A at C ⊢
  refine mg_lv (lv' := [(0, .ref (a 0)), (1, .int (nI n1)), (2, .int x1)]) rfl ?_
  refine mg_aload_n C (i := 0) rfl 0 rfl dX12_words_0 ?_
  refine mg_aload_n C (i := 0) rfl 0 rfl dX12_words_1 ?_
  refine mg_iload_n C (i := 1) rfl 1 rfl dX12_words_2 ?_
  refine mg_iload_n C (i := 2) rfl 2 rfl dX12_words_3 ?_
  refine mg_doi C (w85_hasWords l v f g n1 x1 (by omega) h2 h3) mCal_hasWords rfl ⟨by decide, by decide⟩ rfl (Nat.le_of_ble_eq_true rfl) dX12_words_4 ?_
  refine mg_iconst C (x := nI 1) rfl dX12_words_7 ?_
  refine mg_iconst C (x := nI 1) rfl dX12_words_8 ?_
  refine mg_doi C (w2_goes l v f g ) mCal_goes rfl ⟨by decide, by decide⟩ rfl (Nat.le_of_ble_eq_true rfl) dX12_words_9 ?_
  refine mg_if_eqB C 22 (by decide) dX12_words_12 (fun c_12 => ?_) (fun c_ => absurd c_ (by decide))
  refine mg_iconst C (x := nI 0) rfl dX12_words_22 ?_
  exact mg_iret C ⟨rfl, rfl⟩ dX12_words_23
set_option maxHeartbeats 4000000 in
set_option maxRecDepth 100000 in
theorem w87_hasWord (l : Launch) (v : Nat → Int32) (f : Nat → Nat → Int32) (g : Nat → Nat → Int64) (x1 x2 x3 : Int32) (h1 : x1 < 0) (h2 : v 98 = (nI 0)) (h3 : v 34 = (nI 0)) : mMi l yX12_hasWord cX12_hasWord 4 (some .boolean) 3 66 false [.int x1, .int x2, .int x3] v f g (fun r_ u_ => r_ = (bI false) ∧ u_ = (v, f, g)) := by
  intro D cI cJ cZ a sz
  refine mg_body (by decide +kernel) rfl (Nat.le_of_ble_eq_true rfl) ?_
  intro p e s m args below meth c hsz C
  clear hsz
  generalize va_A (mW cI cJ cZ a v f g) sz = A at C ⊢
  refine mg_lv (lv' := [(0, .ref (a 0)), (1, .int x1), (2, .int x2), (3, .int x3)]) rfl ?_
  refine mg_aload_n C (i := 0) rfl 0 rfl dX12_hasWord_0 ?_
  refine mg_iload_n C (i := 1) rfl 1 rfl dX12_hasWord_1 ?_
  refine mg_iload_n C (i := 2) rfl 2 rfl dX12_hasWord_2 ?_
  refine mg_doi C (w83_hasWords l v f g x1 x2 h1 h2 h3) mCal_hasWords rfl ⟨by decide, by decide⟩ rfl (Nat.le_of_ble_eq_true rfl) dX12_hasWord_3 ?_
  refine mg_if_eqB C 27 (by decide) dX12_hasWord_6 (fun c_6 => ?_) (fun c_ => absurd c_ (by decide))
  refine mg_iconst C (x := nI 0) rfl dX12_hasWord_27 ?_
  refine mg_cast (bI false) rfl ?_
  exact mg_zret C (bI_nar _) ⟨rfl, rfl⟩ dX12_hasWord_28
set_option maxHeartbeats 4000000 in
set_option maxRecDepth 100000 in
theorem w88_shared (l : Launch) (v : Nat → Int32) (f : Nat → Nat → Int32) (g : Nat → Nat → Int64) (x1 x2 x3 : Int32) (h1 : x1 < 0) (h2 : v 98 = (nI 0)) (h3 : v 34 = (nI 0)) : mMi l yX12_shared cX12_shared 4 (some .int) 4 89 false [.int x1, .int x2, .int x3] v f g (fun r_ u_ => r_ = (nI 0) ∧ u_ = (upd v 99 (nI 1), f, g)) := by
  intro D cI cJ cZ a sz
  refine mg_body (by decide +kernel) rfl (Nat.le_of_ble_eq_true rfl) ?_
  intro p e s m args below meth c hsz C
  clear hsz
  generalize va_A (mW cI cJ cZ a v f g) sz = A at C ⊢
  refine mg_lv (lv' := [(0, .ref (a 0)), (1, .int x1), (2, .int x2), (3, .int x3)]) rfl ?_
  refine mg_aload_n C (i := 0) rfl 0 rfl dX12_shared_0 ?_
  refine mg_aload_n C (i := 0) rfl 0 rfl dX12_shared_1 ?_
  refine mg_iload_n C (i := 1) rfl 1 rfl dX12_shared_2 ?_
  refine mg_iload_n C (i := 2) rfl 2 rfl dX12_shared_3 ?_
  refine mg_iload_n C (i := 3) rfl 3 rfl dX12_shared_4 ?_
  refine mg_doi C (w87_hasWord l v f g x1 x2 x3 h1 h2 h3) mCal_hasWord rfl ⟨by decide, by decide⟩ rfl (Nat.le_of_ble_eq_true rfl) dX12_shared_5 ?_
  refine mg_iconst C (x := nI 1) rfl dX12_shared_8 ?_
  refine mg_iconst C (x := nI 1) rfl dX12_shared_9 ?_
  refine mg_doi C (w2_goes l v f g ) mCal_goes rfl ⟨by decide, by decide⟩ rfl (Nat.le_of_ble_eq_true rfl) dX12_shared_10 ?_
  refine mg_if_eqB C 24 (by decide) dX12_shared_13 (fun c_13 => ?_) (fun c_ => absurd c_ (by decide))
  refine mg_iconst C (x := nI 0) rfl dX12_shared_24 ?_
  exact mg_iret C ⟨rfl, rfl⟩ dX12_shared_25
set_option maxHeartbeats 4000000 in
set_option maxRecDepth 100000 in
theorem w89_hasWord (l : Launch) (v : Nat → Int32) (f : Nat → Nat → Int32) (g : Nat → Nat → Int64) (n1 : Nat) (x1 x2 : Int32) (h1 : n1 ≤ 2147483647) (h2 : v 98 = (nI 0)) (h3 : v 34 = (nI 0)) : mMi l yX12_hasWord cX12_hasWord 4 (some .boolean) 3 66 false [.int (nI n1), .int x1, .int x2] v f g (fun r_ u_ => r_ = (bI false) ∧ u_ = (v, f, g)) := by
  intro D cI cJ cZ a sz
  refine mg_body (by decide +kernel) rfl (Nat.le_of_ble_eq_true rfl) ?_
  intro p e s m args below meth c hsz C
  clear hsz
  generalize va_A (mW cI cJ cZ a v f g) sz = A at C ⊢
  refine mg_lv (lv' := [(0, .ref (a 0)), (1, .int (nI n1)), (2, .int x1), (3, .int x2)]) rfl ?_
  refine mg_aload_n C (i := 0) rfl 0 rfl dX12_hasWord_0 ?_
  refine mg_iload_n C (i := 1) rfl 1 rfl dX12_hasWord_1 ?_
  refine mg_iload_n C (i := 2) rfl 2 rfl dX12_hasWord_2 ?_
  refine mg_doi C (w85_hasWords l v f g n1 x1 (by omega) h2 h3) mCal_hasWords rfl ⟨by decide, by decide⟩ rfl (Nat.le_of_ble_eq_true rfl) dX12_hasWord_3 ?_
  refine mg_if_eqB C 27 (by decide) dX12_hasWord_6 (fun c_6 => ?_) (fun c_ => absurd c_ (by decide))
  refine mg_iconst C (x := nI 0) rfl dX12_hasWord_27 ?_
  refine mg_cast (bI false) rfl ?_
  exact mg_zret C (bI_nar _) ⟨rfl, rfl⟩ dX12_hasWord_28
set_option maxHeartbeats 4000000 in
set_option maxRecDepth 100000 in
theorem w90_shared (l : Launch) (v : Nat → Int32) (f : Nat → Nat → Int32) (g : Nat → Nat → Int64) (n1 : Nat) (x1 x2 : Int32) (h1 : n1 ≤ 2147483647) (h2 : v 98 = (nI 0)) (h3 : v 34 = (nI 0)) : mMi l yX12_shared cX12_shared 4 (some .int) 4 89 false [.int (nI n1), .int x1, .int x2] v f g (fun r_ u_ => r_ = (nI 0) ∧ u_ = (upd v 99 (nI 1), f, g)) := by
  intro D cI cJ cZ a sz
  refine mg_body (by decide +kernel) rfl (Nat.le_of_ble_eq_true rfl) ?_
  intro p e s m args below meth c hsz C
  clear hsz
  generalize va_A (mW cI cJ cZ a v f g) sz = A at C ⊢
  refine mg_lv (lv' := [(0, .ref (a 0)), (1, .int (nI n1)), (2, .int x1), (3, .int x2)]) rfl ?_
  refine mg_aload_n C (i := 0) rfl 0 rfl dX12_shared_0 ?_
  refine mg_aload_n C (i := 0) rfl 0 rfl dX12_shared_1 ?_
  refine mg_iload_n C (i := 1) rfl 1 rfl dX12_shared_2 ?_
  refine mg_iload_n C (i := 2) rfl 2 rfl dX12_shared_3 ?_
  refine mg_iload_n C (i := 3) rfl 3 rfl dX12_shared_4 ?_
  refine mg_doi C (w89_hasWord l v f g n1 x1 x2 (by omega) h2 h3) mCal_hasWord rfl ⟨by decide, by decide⟩ rfl (Nat.le_of_ble_eq_true rfl) dX12_shared_5 ?_
  refine mg_iconst C (x := nI 1) rfl dX12_shared_8 ?_
  refine mg_iconst C (x := nI 1) rfl dX12_shared_9 ?_
  refine mg_doi C (w2_goes l v f g ) mCal_goes rfl ⟨by decide, by decide⟩ rfl (Nat.le_of_ble_eq_true rfl) dX12_shared_10 ?_
  refine mg_if_eqB C 24 (by decide) dX12_shared_13 (fun c_13 => ?_) (fun c_ => absurd c_ (by decide))
  refine mg_iconst C (x := nI 0) rfl dX12_shared_24 ?_
  exact mg_iret C ⟨rfl, rfl⟩ dX12_shared_25
set_option maxHeartbeats 4000000 in
set_option maxRecDepth 100000 in
theorem w91_wordBytes (l : Launch) (v : Nat → Int32) (f : Nat → Nat → Int32) (g : Nat → Nat → Int64) (x1 x2 : Int32) (h1 : x1 < 0) (h2 : v 98 = (nI 0)) (h3 : v 34 = (nI 0)) : mMi l yX12_wordBytes cX12_wordBytes 6 (some .int) 3 66 false [.int x1, .int x2] v f g (fun r_ u_ => r_ = (nI 0) ∧ u_ = (upd v 99 (nI 1), f, g)) := by
  intro D cI cJ cZ a sz
  refine mg_body (by decide +kernel) rfl (Nat.le_of_ble_eq_true rfl) ?_
  intro p e s m args below meth c hsz C
  clear hsz
  generalize va_A (mW cI cJ cZ a v f g) sz = A at C ⊢
  refine mg_lv (lv' := [(0, .ref (a 0)), (1, .int x1), (2, .int x2)]) rfl ?_
  refine mg_iconst C (x := nI 0) rfl dX12_wordBytes_0 ?_
  refine mg_istore_n C (i := 3) (lv' := [(3, .int (nI 0)), (0, .ref (a 0)), (1, .int x1), (2, .int x2)]) rfl (Nat.le_of_ble_eq_true rfl) rfl dX12_wordBytes_1 ?_
  refine mg_aload_n C (i := 0) rfl 1 rfl dX12_wordBytes_2 ?_
  refine mg_aload_n C (i := 0) rfl 1 rfl dX12_wordBytes_3 ?_
  refine mg_iload_n C (i := 1) rfl 2 rfl dX12_wordBytes_4 ?_
  refine mg_iload_n C (i := 2) rfl 3 rfl dX12_wordBytes_5 ?_
  refine mg_doi C (w83_hasWords l v f g x1 x2 h1 h2 h3) mCal_hasWords rfl ⟨by decide, by decide⟩ rfl (Nat.le_of_ble_eq_true rfl) dX12_wordBytes_6 ?_
  refine mg_iconst C (x := nI 1) rfl dX12_wordBytes_9 ?_
  refine mg_iconst C (x := nI 1) rfl dX12_wordBytes_10 ?_
  refine mg_doi C (w2_goes l v f g ) mCal_goes rfl ⟨by decide, by decide⟩ rfl (Nat.le_of_ble_eq_true rfl) dX12_wordBytes_11 ?_
  refine mg_istore C (lv' := [(4, .int (bI false)), (3, .int (nI 0)), (0, .ref (a 0)), (1, .int x1), (2, .int x2)]) (Nat.le_of_ble_eq_true rfl) rfl dX12_wordBytes_14 ?_
  refine mg_iconst C (x := nI 0) rfl dX12_wordBytes_16 ?_
  refine mg_istore C (lv' := [(5, .int (nI 0)), (4, .int (bI false)), (3, .int (nI 0)), (0, .ref (a 0)), (1, .int x1), (2, .int x2)]) (Nat.le_of_ble_eq_true rfl) rfl dX12_wordBytes_17 ?_
  refine mg_iload C 1 rfl dX12_wordBytes_19 ?_
  refine mg_if_eqB C 62 (by decide) dX12_wordBytes_21 (fun c_21 => ?_) (fun c_ => absurd c_ (by decide))
  refine mg_iload_n C (i := 3) rfl 2 rfl dX12_wordBytes_62 ?_
  exact mg_iret C ⟨rfl, rfl⟩ dX12_wordBytes_63
set_option maxHeartbeats 4000000 in
set_option maxRecDepth 100000 in
theorem w92_wordBytes (l : Launch) (v : Nat → Int32) (f : Nat → Nat → Int32) (g : Nat → Nat → Int64) (n1 : Nat) (x1 : Int32) (h1 : n1 ≤ 2147483647) (h2 : v 98 = (nI 0)) (h3 : v 34 = (nI 0)) : mMi l yX12_wordBytes cX12_wordBytes 6 (some .int) 3 66 false [.int (nI n1), .int x1] v f g (fun r_ u_ => r_ = (nI 0) ∧ u_ = (upd v 99 (nI 1), f, g)) := by
  intro D cI cJ cZ a sz
  refine mg_body (by decide +kernel) rfl (Nat.le_of_ble_eq_true rfl) ?_
  intro p e s m args below meth c hsz C
  clear hsz
  generalize va_A (mW cI cJ cZ a v f g) sz = A at C ⊢
  refine mg_lv (lv' := [(0, .ref (a 0)), (1, .int (nI n1)), (2, .int x1)]) rfl ?_
  refine mg_iconst C (x := nI 0) rfl dX12_wordBytes_0 ?_
  refine mg_istore_n C (i := 3) (lv' := [(3, .int (nI 0)), (0, .ref (a 0)), (1, .int (nI n1)), (2, .int x1)]) rfl (Nat.le_of_ble_eq_true rfl) rfl dX12_wordBytes_1 ?_
  refine mg_aload_n C (i := 0) rfl 1 rfl dX12_wordBytes_2 ?_
  refine mg_aload_n C (i := 0) rfl 1 rfl dX12_wordBytes_3 ?_
  refine mg_iload_n C (i := 1) rfl 2 rfl dX12_wordBytes_4 ?_
  refine mg_iload_n C (i := 2) rfl 3 rfl dX12_wordBytes_5 ?_
  refine mg_doi C (w85_hasWords l v f g n1 x1 (by omega) h2 h3) mCal_hasWords rfl ⟨by decide, by decide⟩ rfl (Nat.le_of_ble_eq_true rfl) dX12_wordBytes_6 ?_
  refine mg_iconst C (x := nI 1) rfl dX12_wordBytes_9 ?_
  refine mg_iconst C (x := nI 1) rfl dX12_wordBytes_10 ?_
  refine mg_doi C (w2_goes l v f g ) mCal_goes rfl ⟨by decide, by decide⟩ rfl (Nat.le_of_ble_eq_true rfl) dX12_wordBytes_11 ?_
  refine mg_istore C (lv' := [(4, .int (bI false)), (3, .int (nI 0)), (0, .ref (a 0)), (1, .int (nI n1)), (2, .int x1)]) (Nat.le_of_ble_eq_true rfl) rfl dX12_wordBytes_14 ?_
  refine mg_iconst C (x := nI 0) rfl dX12_wordBytes_16 ?_
  refine mg_istore C (lv' := [(5, .int (nI 0)), (4, .int (bI false)), (3, .int (nI 0)), (0, .ref (a 0)), (1, .int (nI n1)), (2, .int x1)]) (Nat.le_of_ble_eq_true rfl) rfl dX12_wordBytes_17 ?_
  refine mg_iload C 1 rfl dX12_wordBytes_19 ?_
  refine mg_if_eqB C 62 (by decide) dX12_wordBytes_21 (fun c_21 => ?_) (fun c_ => absurd c_ (by decide))
  refine mg_iload_n C (i := 3) rfl 2 rfl dX12_wordBytes_62 ?_
  exact mg_iret C ⟨rfl, rfl⟩ dX12_wordBytes_63
set_option maxHeartbeats 4000000 in
set_option maxRecDepth 100000 in
theorem w93_signAt (l : Launch) (v : Nat → Int32) (f : Nat → Nat → Int32) (g : Nat → Nat → Int64) (x1 x2 x3 x4 : Int32) (h1 : x1 < 0) (h2 : v 98 = (nI 0)) (h3 : v 34 = (nI 0)) : mMi l yX12_signAt cX12_signAt 6 (some .char) 4 89 false [.int x1, .int x2, .int x3, .int x4] v f g (fun r_ u_ => r_ = (nI 32) ∧ u_ = (upd v 99 (nI 1), f, g)) := by
  intro D cI cJ cZ a sz
  refine mg_body (by decide +kernel) rfl (Nat.le_of_ble_eq_true rfl) ?_
  intro p e s m args below meth c hsz C
  clear hsz
  generalize va_A (mW cI cJ cZ a v f g) sz = A at C ⊢
  refine mg_lv (lv' := [(0, .ref (a 0)), (1, .int x1), (2, .int x2), (3, .int x3), (4, .int x4)]) rfl ?_
  refine mg_aload_n C (i := 0) rfl 0 rfl dX12_signAt_0 ?_
  refine mg_aload_n C (i := 0) rfl 0 rfl dX12_signAt_1 ?_
  refine mg_iload_n C (i := 1) rfl 1 rfl dX12_signAt_2 ?_
  refine mg_iload_n C (i := 2) rfl 2 rfl dX12_signAt_3 ?_
  refine mg_iload_n C (i := 3) rfl 3 rfl dX12_signAt_4 ?_
  refine mg_doi C (w87_hasWord l v f g x1 x2 x3 h1 h2 h3) mCal_hasWord rfl ⟨by decide, by decide⟩ rfl (Nat.le_of_ble_eq_true rfl) dX12_signAt_5 ?_
  refine mg_iconst C (x := nI 1) rfl dX12_signAt_8 ?_
  refine mg_iconst C (x := nI 1) rfl dX12_signAt_9 ?_
  refine mg_doi C (w2_goes l v f g ) mCal_goes rfl ⟨by decide, by decide⟩ rfl (Nat.le_of_ble_eq_true rfl) dX12_signAt_10 ?_
  refine mg_if_neB C 19 (by decide) dX12_signAt_13 (fun c_ => absurd c_ (by decide)) (fun c_13 => ?_)
  refine mg_bipush C (x := nI 32) rfl dX12_signAt_16 ?_
  exact mg_cret C rfl ⟨rfl, rfl⟩ dX12_signAt_18
set_option maxHeartbeats 4000000 in
set_option maxRecDepth 100000 in
theorem w94_signAt (l : Launch) (v : Nat → Int32) (f : Nat → Nat → Int32) (g : Nat → Nat → Int64) (n1 : Nat) (x1 x2 x3 : Int32) (h1 : n1 ≤ 2147483647) (h2 : v 98 = (nI 0)) (h3 : v 34 = (nI 0)) : mMi l yX12_signAt cX12_signAt 6 (some .char) 4 89 false [.int (nI n1), .int x1, .int x2, .int x3] v f g (fun r_ u_ => r_ = (nI 32) ∧ u_ = (upd v 99 (nI 1), f, g)) := by
  intro D cI cJ cZ a sz
  refine mg_body (by decide +kernel) rfl (Nat.le_of_ble_eq_true rfl) ?_
  intro p e s m args below meth c hsz C
  clear hsz
  generalize va_A (mW cI cJ cZ a v f g) sz = A at C ⊢
  refine mg_lv (lv' := [(0, .ref (a 0)), (1, .int (nI n1)), (2, .int x1), (3, .int x2), (4, .int x3)]) rfl ?_
  refine mg_aload_n C (i := 0) rfl 0 rfl dX12_signAt_0 ?_
  refine mg_aload_n C (i := 0) rfl 0 rfl dX12_signAt_1 ?_
  refine mg_iload_n C (i := 1) rfl 1 rfl dX12_signAt_2 ?_
  refine mg_iload_n C (i := 2) rfl 2 rfl dX12_signAt_3 ?_
  refine mg_iload_n C (i := 3) rfl 3 rfl dX12_signAt_4 ?_
  refine mg_doi C (w89_hasWord l v f g n1 x1 x2 (by omega) h2 h3) mCal_hasWord rfl ⟨by decide, by decide⟩ rfl (Nat.le_of_ble_eq_true rfl) dX12_signAt_5 ?_
  refine mg_iconst C (x := nI 1) rfl dX12_signAt_8 ?_
  refine mg_iconst C (x := nI 1) rfl dX12_signAt_9 ?_
  refine mg_doi C (w2_goes l v f g ) mCal_goes rfl ⟨by decide, by decide⟩ rfl (Nat.le_of_ble_eq_true rfl) dX12_signAt_10 ?_
  refine mg_if_neB C 19 (by decide) dX12_signAt_13 (fun c_ => absurd c_ (by decide)) (fun c_13 => ?_)
  refine mg_bipush C (x := nI 32) rfl dX12_signAt_16 ?_
  exact mg_cret C rfl ⟨rfl, rfl⟩ dX12_signAt_18
set_option maxHeartbeats 4000000 in
set_option maxRecDepth 100000 in
theorem w95_bytes (l : Launch) (v : Nat → Int32) (f : Nat → Nat → Int32) (g : Nat → Nat → Int64) (x1 x2 x3 : Int32) (h1 : x1 < 0) (h2 : v 98 = (nI 0)) (h3 : v 34 = (nI 0)) : mMi l yX12_bytes cX12_bytes 4 (some .int) 4 89 false [.int x1, .int x2, .int x3] v f g (fun r_ u_ => r_ = (nI 0) ∧ u_ = (upd v 99 (nI 1), f, g)) := by
  intro D cI cJ cZ a sz
  refine mg_body (by decide +kernel) rfl (Nat.le_of_ble_eq_true rfl) ?_
  intro p e s m args below meth c hsz C
  clear hsz
  generalize va_A (mW cI cJ cZ a v f g) sz = A at C ⊢
  refine mg_lv (lv' := [(0, .ref (a 0)), (1, .int x1), (2, .int x2), (3, .int x3)]) rfl ?_
  refine mg_aload_n C (i := 0) rfl 0 rfl dX12_bytes_0 ?_
  refine mg_aload_n C (i := 0) rfl 0 rfl dX12_bytes_1 ?_
  refine mg_iload_n C (i := 1) rfl 1 rfl dX12_bytes_2 ?_
  refine mg_iload_n C (i := 2) rfl 2 rfl dX12_bytes_3 ?_
  refine mg_iload_n C (i := 3) rfl 3 rfl dX12_bytes_4 ?_
  refine mg_doi C (w87_hasWord l v f g x1 x2 x3 h1 h2 h3) mCal_hasWord rfl ⟨by decide, by decide⟩ rfl (Nat.le_of_ble_eq_true rfl) dX12_bytes_5 ?_
  refine mg_iconst C (x := nI 1) rfl dX12_bytes_8 ?_
  refine mg_iconst C (x := nI 1) rfl dX12_bytes_9 ?_
  refine mg_doi C (w2_goes l v f g ) mCal_goes rfl ⟨by decide, by decide⟩ rfl (Nat.le_of_ble_eq_true rfl) dX12_bytes_10 ?_
  refine mg_if_neB C 18 (by decide) dX12_bytes_13 (fun c_ => absurd c_ (by decide)) (fun c_13 => ?_)
  refine mg_iconst C (x := nI 0) rfl dX12_bytes_16 ?_
  exact mg_iret C ⟨rfl, rfl⟩ dX12_bytes_17
set_option maxHeartbeats 4000000 in
set_option maxRecDepth 100000 in
theorem w96_bytes (l : Launch) (v : Nat → Int32) (f : Nat → Nat → Int32) (g : Nat → Nat → Int64) (n1 : Nat) (x1 x2 : Int32) (h1 : n1 ≤ 2147483647) (h2 : v 98 = (nI 0)) (h3 : v 34 = (nI 0)) : mMi l yX12_bytes cX12_bytes 4 (some .int) 4 89 false [.int (nI n1), .int x1, .int x2] v f g (fun r_ u_ => r_ = (nI 0) ∧ u_ = (upd v 99 (nI 1), f, g)) := by
  intro D cI cJ cZ a sz
  refine mg_body (by decide +kernel) rfl (Nat.le_of_ble_eq_true rfl) ?_
  intro p e s m args below meth c hsz C
  clear hsz
  generalize va_A (mW cI cJ cZ a v f g) sz = A at C ⊢
  refine mg_lv (lv' := [(0, .ref (a 0)), (1, .int (nI n1)), (2, .int x1), (3, .int x2)]) rfl ?_
  refine mg_aload_n C (i := 0) rfl 0 rfl dX12_bytes_0 ?_
  refine mg_aload_n C (i := 0) rfl 0 rfl dX12_bytes_1 ?_
  refine mg_iload_n C (i := 1) rfl 1 rfl dX12_bytes_2 ?_
  refine mg_iload_n C (i := 2) rfl 2 rfl dX12_bytes_3 ?_
  refine mg_iload_n C (i := 3) rfl 3 rfl dX12_bytes_4 ?_
  refine mg_doi C (w89_hasWord l v f g n1 x1 x2 (by omega) h2 h3) mCal_hasWord rfl ⟨by decide, by decide⟩ rfl (Nat.le_of_ble_eq_true rfl) dX12_bytes_5 ?_
  refine mg_iconst C (x := nI 1) rfl dX12_bytes_8 ?_
  refine mg_iconst C (x := nI 1) rfl dX12_bytes_9 ?_
  refine mg_doi C (w2_goes l v f g ) mCal_goes rfl ⟨by decide, by decide⟩ rfl (Nat.le_of_ble_eq_true rfl) dX12_bytes_10 ?_
  refine mg_if_neB C 18 (by decide) dX12_bytes_13 (fun c_ => absurd c_ (by decide)) (fun c_13 => ?_)
  refine mg_iconst C (x := nI 0) rfl dX12_bytes_16 ?_
  exact mg_iret C ⟨rfl, rfl⟩ dX12_bytes_17
set_option maxHeartbeats 4000000 in
set_option maxRecDepth 100000 in
theorem w97_byteAt (l : Launch) (v : Nat → Int32) (f : Nat → Nat → Int32) (g : Nat → Nat → Int64) (x1 x2 x3 x4 : Int32) (h1 : x1 < 0) (h2 : v 98 = (nI 0)) (h3 : v 34 = (nI 0)) : mMi l yX12_byteAt cX12_byteAt 6 (some .int) 4 89 false [.int x1, .int x2, .int x3, .int x4] v f g (fun r_ u_ => r_ = (nI 0) ∧ u_ = (upd v 99 (nI 1), f, g)) := by
  intro D cI cJ cZ a sz
  refine mg_body (by decide +kernel) rfl (Nat.le_of_ble_eq_true rfl) ?_
  intro p e s m args below meth c hsz C
  clear hsz
  generalize va_A (mW cI cJ cZ a v f g) sz = A at C ⊢
  refine mg_lv (lv' := [(0, .ref (a 0)), (1, .int x1), (2, .int x2), (3, .int x3), (4, .int x4)]) rfl ?_
  refine mg_aload_n C (i := 0) rfl 0 rfl dX12_byteAt_0 ?_
  refine mg_iload_n C (i := 1) rfl 1 rfl dX12_byteAt_1 ?_
  refine mg_iload_n C (i := 2) rfl 2 rfl dX12_byteAt_2 ?_
  refine mg_iload_n C (i := 3) rfl 3 rfl dX12_byteAt_3 ?_
  refine mg_doi C (w87_hasWord l v f g x1 x2 x3 h1 h2 h3) mCal_hasWord rfl ⟨by decide, by decide⟩ rfl (Nat.le_of_ble_eq_true rfl) dX12_byteAt_4 ?_
  refine mg_istore C (lv' := [(5, .int (bI false)), (0, .ref (a 0)), (1, .int x1), (2, .int x2), (3, .int x3), (4, .int x4)]) (Nat.le_of_ble_eq_true rfl) rfl dX12_byteAt_7 ?_
  refine mg_iload C 0 rfl dX12_byteAt_9 ?_
  refine mg_if_eqB C 31 (by decide) dX12_byteAt_11 (fun c_11 => ?_) (fun c_ => absurd c_ (by decide))
  refine mg_aload_n C (i := 0) rfl 1 rfl dX12_byteAt_31 ?_
  refine mg_iload C 0 rfl dX12_byteAt_32 ?_
  refine mg_if_eqB C 62 (by decide) dX12_byteAt_34 (fun c_34 => ?_) (fun c_ => absurd c_ (by decide))
  refine mg_iconst C (x := nI 0) rfl dX12_byteAt_62 ?_
  refine mg_iconst C (x := nI 1) rfl dX12_byteAt_63 ?_
  refine mg_iconst C (x := nI 1) rfl dX12_byteAt_64 ?_
  refine mg_doi C (w13_goes l v f g ) mCal_goes rfl ⟨by decide, by decide⟩ rfl (Nat.le_of_ble_eq_true rfl) dX12_byteAt_65 ?_
  refine mg_if_neB C 73 (by decide) dX12_byteAt_68 (fun c_ => absurd c_ (by decide)) (fun c_68 => ?_)
  refine mg_iconst C (x := nI 0) rfl dX12_byteAt_71 ?_
  exact mg_iret C ⟨rfl, rfl⟩ dX12_byteAt_72
set_option maxHeartbeats 4000000 in
set_option maxRecDepth 100000 in
theorem w98_byteAt (l : Launch) (v : Nat → Int32) (f : Nat → Nat → Int32) (g : Nat → Nat → Int64) (n1 : Nat) (x1 x2 x3 : Int32) (h1 : n1 ≤ 2147483647) (h2 : v 98 = (nI 0)) (h3 : v 34 = (nI 0)) : mMi l yX12_byteAt cX12_byteAt 6 (some .int) 4 89 false [.int (nI n1), .int x1, .int x2, .int x3] v f g (fun r_ u_ => r_ = (nI 0) ∧ u_ = (upd v 99 (nI 1), f, g)) := by
  intro D cI cJ cZ a sz
  refine mg_body (by decide +kernel) rfl (Nat.le_of_ble_eq_true rfl) ?_
  intro p e s m args below meth c hsz C
  clear hsz
  generalize va_A (mW cI cJ cZ a v f g) sz = A at C ⊢
  refine mg_lv (lv' := [(0, .ref (a 0)), (1, .int (nI n1)), (2, .int x1), (3, .int x2), (4, .int x3)]) rfl ?_
  refine mg_aload_n C (i := 0) rfl 0 rfl dX12_byteAt_0 ?_
  refine mg_iload_n C (i := 1) rfl 1 rfl dX12_byteAt_1 ?_
  refine mg_iload_n C (i := 2) rfl 2 rfl dX12_byteAt_2 ?_
  refine mg_iload_n C (i := 3) rfl 3 rfl dX12_byteAt_3 ?_
  refine mg_doi C (w89_hasWord l v f g n1 x1 x2 (by omega) h2 h3) mCal_hasWord rfl ⟨by decide, by decide⟩ rfl (Nat.le_of_ble_eq_true rfl) dX12_byteAt_4 ?_
  refine mg_istore C (lv' := [(5, .int (bI false)), (0, .ref (a 0)), (1, .int (nI n1)), (2, .int x1), (3, .int x2), (4, .int x3)]) (Nat.le_of_ble_eq_true rfl) rfl dX12_byteAt_7 ?_
  refine mg_iload C 0 rfl dX12_byteAt_9 ?_
  refine mg_if_eqB C 31 (by decide) dX12_byteAt_11 (fun c_11 => ?_) (fun c_ => absurd c_ (by decide))
  refine mg_aload_n C (i := 0) rfl 1 rfl dX12_byteAt_31 ?_
  refine mg_iload C 0 rfl dX12_byteAt_32 ?_
  refine mg_if_eqB C 62 (by decide) dX12_byteAt_34 (fun c_34 => ?_) (fun c_ => absurd c_ (by decide))
  refine mg_iconst C (x := nI 0) rfl dX12_byteAt_62 ?_
  refine mg_iconst C (x := nI 1) rfl dX12_byteAt_63 ?_
  refine mg_iconst C (x := nI 1) rfl dX12_byteAt_64 ?_
  refine mg_doi C (w13_goes l v f g ) mCal_goes rfl ⟨by decide, by decide⟩ rfl (Nat.le_of_ble_eq_true rfl) dX12_byteAt_65 ?_
  refine mg_if_neB C 73 (by decide) dX12_byteAt_68 (fun c_ => absurd c_ (by decide)) (fun c_68 => ?_)
  refine mg_iconst C (x := nI 0) rfl dX12_byteAt_71 ?_
  exact mg_iret C ⟨rfl, rfl⟩ dX12_byteAt_72
set_option maxHeartbeats 4000000 in
set_option maxRecDepth 100000 in
theorem w99_look (l : Launch) (v : Nat → Int32) (f : Nat → Nat → Int32) (g : Nat → Nat → Int64) (h1 : f 29 4 = ((-1))) (h2 : f 29 3 = ((-1))) (h3 : f 29 2 = ((-1))) (h4 : f 29 1 = ((-1))) (h5 : f 29 0 = ((-1))) (h6 : v 98 = (nI 0)) (h7 : v 48 = (nI 0)) (h8 : v 34 = (nI 0)) : mMi l yX12_look cX12_look 6 (some .int) 1 23 false [.int (nI 1)] v f g (fun r_ u_ => r_ = (nI 0) ∧ u_ = (upd (upd v 99 (nI 0)) 48 (nI 1), mU (mU f 29 0 (nI 0)) 31 0 (nI 0), g)) := by
  intro D cI cJ cZ a sz
  refine mg_body (by decide +kernel) rfl (Nat.le_of_ble_eq_true rfl) ?_
  intro p e s m args below meth c hsz C
  clear hsz
  generalize va_A (mW cI cJ cZ a v f g) sz = A at C ⊢
  refine mg_lv (lv' := [(0, .ref (a 0)), (1, .int (nI 1))]) rfl ?_
  refine mg_iconst C (x := (-1)) rfl dX12_look_0 ?_
  refine mg_istore_n C (i := 2) (lv' := [(2, .int ((-1))), (0, .ref (a 0)), (1, .int (nI 1))]) rfl (Nat.le_of_ble_eq_true rfl) rfl dX12_look_1 ?_
  refine mg_iconst C (x := nI 4) rfl dX12_look_2 ?_
  refine mg_istore_n C (i := 3) (lv' := [(3, .int (nI 4)), (2, .int ((-1))), (0, .ref (a 0)), (1, .int (nI 1))]) rfl (Nat.le_of_ble_eq_true rfl) rfl dX12_look_3 ?_
  refine mg_iload_n C (i := 3) rfl 0 rfl dX12_look_4 ?_
  refine mg_if_ltN C (by omega) 30 (by decide) dX12_look_5 ?_
  refine mg_aload_n C (i := 0) rfl 2 rfl dX12_look_8 ?_
  refine mg_arr C 29 (by decide) (by decide) rfl mL_lookNumbers rfl dX12_look_9 ?_
  refine mg_iload_n C (i := 3) rfl 0 rfl dX12_look_12 ?_
  refine mg_iaload C (n := 5) 29 4 (by decide) (by decide) rfl rfl (by decide) (by decide) dX12_look_13 ?_
  refine mg_cast ((-1)) h1 ?_
  refine mg_iconst C (x := (-1)) rfl dX12_look_14 ?_
  refine mg_icmp_ne C 22 (by decide) dX12_look_15 (fun c_ => absurd c_ (by decide)) (fun c_15 => ?_)
  refine mg_iload_n C (i := 3) rfl 0 rfl dX12_look_18 ?_
  refine mg_goto C 23 (by decide) dX12_look_19 ?_
  refine mg_istore_n C (i := 2) (lv' := [(2, .int (nI 4)), (3, .int (nI 4)), (0, .ref (a 0)), (1, .int (nI 1))]) rfl (Nat.le_of_ble_eq_true rfl) rfl dX12_look_23 ?_
  refine mg_iinc C (lv' := [(3, .int (nI 3)), (2, .int (nI 4)), (0, .ref (a 0)), (1, .int (nI 1))]) 1 rfl (by decide) (Nat.le_of_ble_eq_true rfl) rfl dX12_look_24 ?_
  refine mg_goto C 4 (by decide) dX12_look_27 ?_
  refine mg_iload_n C (i := 3) rfl 0 rfl dX12_look_4 ?_
  refine mg_if_ltN C (by omega) 30 (by decide) dX12_look_5 ?_
  refine mg_aload_n C (i := 0) rfl 2 rfl dX12_look_8 ?_
  refine mg_arr C 29 (by decide) (by decide) rfl mL_lookNumbers rfl dX12_look_9 ?_
  refine mg_iload_n C (i := 3) rfl 0 rfl dX12_look_12 ?_
  refine mg_iaload C (n := 5) 29 3 (by decide) (by decide) rfl rfl (by decide) (by decide) dX12_look_13 ?_
  refine mg_cast ((-1)) h2 ?_
  refine mg_iconst C (x := (-1)) rfl dX12_look_14 ?_
  refine mg_icmp_ne C 22 (by decide) dX12_look_15 (fun c_ => absurd c_ (by decide)) (fun c_15 => ?_)
  refine mg_iload_n C (i := 3) rfl 0 rfl dX12_look_18 ?_
  refine mg_goto C 23 (by decide) dX12_look_19 ?_
  refine mg_istore_n C (i := 2) (lv' := [(2, .int (nI 3)), (3, .int (nI 3)), (0, .ref (a 0)), (1, .int (nI 1))]) rfl (Nat.le_of_ble_eq_true rfl) rfl dX12_look_23 ?_
  refine mg_iinc C (lv' := [(3, .int (nI 2)), (2, .int (nI 3)), (0, .ref (a 0)), (1, .int (nI 1))]) 1 rfl (by decide) (Nat.le_of_ble_eq_true rfl) rfl dX12_look_24 ?_
  refine mg_goto C 4 (by decide) dX12_look_27 ?_
  refine mg_iload_n C (i := 3) rfl 0 rfl dX12_look_4 ?_
  refine mg_if_ltN C (by omega) 30 (by decide) dX12_look_5 ?_
  refine mg_aload_n C (i := 0) rfl 2 rfl dX12_look_8 ?_
  refine mg_arr C 29 (by decide) (by decide) rfl mL_lookNumbers rfl dX12_look_9 ?_
  refine mg_iload_n C (i := 3) rfl 0 rfl dX12_look_12 ?_
  refine mg_iaload C (n := 5) 29 2 (by decide) (by decide) rfl rfl (by decide) (by decide) dX12_look_13 ?_
  refine mg_cast ((-1)) h3 ?_
  refine mg_iconst C (x := (-1)) rfl dX12_look_14 ?_
  refine mg_icmp_ne C 22 (by decide) dX12_look_15 (fun c_ => absurd c_ (by decide)) (fun c_15 => ?_)
  refine mg_iload_n C (i := 3) rfl 0 rfl dX12_look_18 ?_
  refine mg_goto C 23 (by decide) dX12_look_19 ?_
  refine mg_istore_n C (i := 2) (lv' := [(2, .int (nI 2)), (3, .int (nI 2)), (0, .ref (a 0)), (1, .int (nI 1))]) rfl (Nat.le_of_ble_eq_true rfl) rfl dX12_look_23 ?_
  refine mg_iinc C (lv' := [(3, .int (nI 1)), (2, .int (nI 2)), (0, .ref (a 0)), (1, .int (nI 1))]) 1 rfl (by decide) (Nat.le_of_ble_eq_true rfl) rfl dX12_look_24 ?_
  refine mg_goto C 4 (by decide) dX12_look_27 ?_
  refine mg_iload_n C (i := 3) rfl 0 rfl dX12_look_4 ?_
  refine mg_if_ltN C (by omega) 30 (by decide) dX12_look_5 ?_
  refine mg_aload_n C (i := 0) rfl 2 rfl dX12_look_8 ?_
  refine mg_arr C 29 (by decide) (by decide) rfl mL_lookNumbers rfl dX12_look_9 ?_
  refine mg_iload_n C (i := 3) rfl 0 rfl dX12_look_12 ?_
  refine mg_iaload C (n := 5) 29 1 (by decide) (by decide) rfl rfl (by decide) (by decide) dX12_look_13 ?_
  refine mg_cast ((-1)) h4 ?_
  refine mg_iconst C (x := (-1)) rfl dX12_look_14 ?_
  refine mg_icmp_ne C 22 (by decide) dX12_look_15 (fun c_ => absurd c_ (by decide)) (fun c_15 => ?_)
  refine mg_iload_n C (i := 3) rfl 0 rfl dX12_look_18 ?_
  refine mg_goto C 23 (by decide) dX12_look_19 ?_
  refine mg_istore_n C (i := 2) (lv' := [(2, .int (nI 1)), (3, .int (nI 1)), (0, .ref (a 0)), (1, .int (nI 1))]) rfl (Nat.le_of_ble_eq_true rfl) rfl dX12_look_23 ?_
  refine mg_iinc C (lv' := [(3, .int (nI 0)), (2, .int (nI 1)), (0, .ref (a 0)), (1, .int (nI 1))]) 1 rfl (by decide) (Nat.le_of_ble_eq_true rfl) rfl dX12_look_24 ?_
  refine mg_goto C 4 (by decide) dX12_look_27 ?_
  refine mg_iload_n C (i := 3) rfl 0 rfl dX12_look_4 ?_
  refine mg_if_ltN C (by omega) 30 (by decide) dX12_look_5 ?_
  refine mg_aload_n C (i := 0) rfl 2 rfl dX12_look_8 ?_
  refine mg_arr C 29 (by decide) (by decide) rfl mL_lookNumbers rfl dX12_look_9 ?_
  refine mg_iload_n C (i := 3) rfl 0 rfl dX12_look_12 ?_
  refine mg_iaload C (n := 5) 29 0 (by decide) (by decide) rfl rfl (by decide) (by decide) dX12_look_13 ?_
  refine mg_cast ((-1)) h5 ?_
  refine mg_iconst C (x := (-1)) rfl dX12_look_14 ?_
  refine mg_icmp_ne C 22 (by decide) dX12_look_15 (fun c_ => absurd c_ (by decide)) (fun c_15 => ?_)
  refine mg_iload_n C (i := 3) rfl 0 rfl dX12_look_18 ?_
  refine mg_goto C 23 (by decide) dX12_look_19 ?_
  refine mg_istore_n C (i := 2) (lv' := [(2, .int (nI 0)), (3, .int (nI 0)), (0, .ref (a 0)), (1, .int (nI 1))]) rfl (Nat.le_of_ble_eq_true rfl) rfl dX12_look_23 ?_
  refine mg_iinc C (lv' := [(3, .int ((-1))), (2, .int (nI 0)), (0, .ref (a 0)), (1, .int (nI 1))]) 1 rfl (by decide) (Nat.le_of_ble_eq_true rfl) rfl dX12_look_24 ?_
  refine mg_goto C 4 (by decide) dX12_look_27 ?_
  refine mg_iload_n C (i := 3) rfl 0 rfl dX12_look_4 ?_
  refine mg_if_lt C 30 (by decide) dX12_look_5 (fun c_5 => ?_) (fun c_ => absurd c_ (by decide))
  refine mg_aload_n C (i := 0) rfl 2 rfl dX12_look_30 ?_
  refine mg_aload_n C (i := 0) rfl 2 rfl dX12_look_31 ?_
  refine mg_getI C (k := 98) (by decide) rfl mL_down rfl dX12_look_32 ?_
  refine mg_cast (nI 0) h6 ?_
  refine mg_if_neN C (by omega) 47 (by decide) dX12_look_35 (fun c_ => absurd c_ (by omega)) (fun c_35 => ?_)
  refine mg_iload_n C (i := 2) rfl 1 rfl dX12_look_38 ?_
  refine mg_iconst C (x := (-1)) rfl dX12_look_39 ?_
  refine mg_icmp_eq C 47 (by decide) dX12_look_40 (fun c_ => absurd c_ (by decide)) (fun c_40 => ?_)
  refine mg_iconst C (x := nI 1) rfl dX12_look_43 ?_
  refine mg_goto C 48 (by decide) dX12_look_44 ?_
  refine mg_iconst C (x := nI 1) rfl dX12_look_48 ?_
  refine mg_iconst C (x := nI 1) rfl dX12_look_49 ?_
  refine mg_doi C (w30_goes l v f g ) mCal_goes rfl ⟨by decide, by decide⟩ rfl (Nat.le_of_ble_eq_true rfl) dX12_look_50 ?_
  refine mg_if_neB C 58 (by decide) dX12_look_53 (fun c_53 => ?_) (fun c_ => absurd c_ (by decide))
  refine mg_aload_n C (i := 0) rfl 2 rfl dX12_look_58 ?_
  refine mg_arr C 29 (by decide) (by decide) rfl mL_lookNumbers rfl dX12_look_59 ?_
  refine mg_iload_n C (i := 2) rfl 1 rfl dX12_look_62 ?_
  refine mg_aload_n C (i := 0) rfl 2 rfl dX12_look_63 ?_
  refine mg_getI C (k := 48) (by decide) rfl mL_looks rfl dX12_look_64 ?_
  refine mg_cast (nI 0) h7 ?_
  refine mg_iastore C (n := 5) 29 0 (by decide) (by decide) rfl rfl (by omega) (by decide) dX12_look_67 ?_
  refine mg_aload_n C (i := 0) rfl 2 rfl dX12_look_68 ?_
  refine mg_arr C 31 (by decide) (by decide) rfl mL_lookedMany rfl dX12_look_69 ?_
  refine mg_iload_n C (i := 2) rfl 1 rfl dX12_look_72 ?_
  refine mg_iload_n C (i := 1) rfl 3 rfl dX12_look_73 ?_
  refine mg_if_eqN C (by omega) 84 (by decide) dX12_look_74 (fun c_ => absurd c_ (by omega)) (fun c_74 => ?_)
  refine mg_aload_n C (i := 0) rfl 2 rfl dX12_look_77 ?_
  refine mg_getI C (k := 34) (by decide) rfl mL_indexed rfl dX12_look_78 ?_
  refine mg_cast (nI 0) h8 ?_
  refine mg_goto C 99 (by decide) dX12_look_81 ?_
  refine mg_iastore C (n := 5) 31 0 (by decide) (by decide) rfl rfl (by omega) (by decide) dX12_look_99 ?_
  refine mg_iconst C (x := nI 0) rfl dX12_look_100 ?_
  refine mg_istore_n C (i := 3) (lv' := [(3, .int (nI 0)), (2, .int (nI 0)), (0, .ref (a 0)), (1, .int (nI 1))]) rfl (Nat.le_of_ble_eq_true rfl) rfl dX12_look_101 ?_
  refine mg_iload_n C (i := 3) rfl 0 rfl dX12_look_102 ?_
  refine mg_aload_n C (i := 0) rfl 2 rfl dX12_look_103 ?_
  refine mg_arr C 31 (by decide) (by decide) rfl mL_lookedMany rfl dX12_look_104 ?_
  refine mg_iload_n C (i := 2) rfl 1 rfl dX12_look_107 ?_
  refine mg_iaload C (n := 5) 31 0 (by decide) (by decide) rfl rfl (by decide) (by decide) dX12_look_108 ?_
  refine mg_cast (nI 0) rfl ?_
  refine mg_icmp_geN C (by omega) (by omega) 218 (by decide) dX12_look_109 (fun c_109 => ?_) (fun c_ => absurd c_ (by omega))
  refine mg_aload_n C (i := 0) rfl 2 rfl dX12_look_218 ?_
  refine mg_dup C rfl dX12_look_219 ?_
  refine mg_getI C (k := 48) (by decide) rfl mL_looks rfl dX12_look_220 ?_
  refine mg_cast (nI 0) h7 ?_
  refine mg_iconst C (x := nI 1) rfl dX12_look_223 ?_
  refine mg_iadd C dX12_look_224 ?_
  refine mg_cast (nI 1) (by decide) ?_
  refine mg_put C (k := 48) (by decide) rfl mL_looks rfl (by decide +kernel) mT_looks rfl rfl dX12_look_225 ?_
  refine mg_aload_n C (i := 0) rfl 2 rfl dX12_look_228 ?_
  refine mg_getI C (k := 48) (by decide) rfl mL_looks rfl dX12_look_229 ?_
  refine mg_cast (nI 1) rfl ?_
  refine mg_iconst C (x := nI 1) rfl dX12_look_232 ?_
  refine mg_isub C dX12_look_233 ?_
  refine mg_cast (nI 0) (by decide) ?_
  exact mg_iret C ⟨rfl, rfl⟩ dX12_look_234
set_option maxHeartbeats 4000000 in
set_option maxRecDepth 100000 in
theorem w100_look (l : Launch) (v : Nat → Int32) (f : Nat → Nat → Int32) (g : Nat → Nat → Int64) (h1 : f 29 4 = ((-1))) (h2 : f 29 3 = ((-1))) (h3 : f 29 2 = ((-1))) (h4 : f 29 1 = ((-1))) (h5 : f 29 0 = ((-1))) (h6 : v 98 = (nI 0)) (h7 : v 48 = (nI 0)) (h8 : v 35 = (nI 0)) : mMi l yX12_look cX12_look 6 (some .int) 1 23 false [.int (nI 0)] v f g (fun r_ u_ => r_ = (nI 0) ∧ u_ = (upd (upd v 99 (nI 0)) 48 (nI 1), mU (mU f 29 0 (nI 0)) 31 0 (nI 0), g)) := by
  intro D cI cJ cZ a sz
  refine mg_body (by decide +kernel) rfl (Nat.le_of_ble_eq_true rfl) ?_
  intro p e s m args below meth c hsz C
  clear hsz
  generalize va_A (mW cI cJ cZ a v f g) sz = A at C ⊢
  refine mg_lv (lv' := [(0, .ref (a 0)), (1, .int (nI 0))]) rfl ?_
  refine mg_iconst C (x := (-1)) rfl dX12_look_0 ?_
  refine mg_istore_n C (i := 2) (lv' := [(2, .int ((-1))), (0, .ref (a 0)), (1, .int (nI 0))]) rfl (Nat.le_of_ble_eq_true rfl) rfl dX12_look_1 ?_
  refine mg_iconst C (x := nI 4) rfl dX12_look_2 ?_
  refine mg_istore_n C (i := 3) (lv' := [(3, .int (nI 4)), (2, .int ((-1))), (0, .ref (a 0)), (1, .int (nI 0))]) rfl (Nat.le_of_ble_eq_true rfl) rfl dX12_look_3 ?_
  refine mg_iload_n C (i := 3) rfl 0 rfl dX12_look_4 ?_
  refine mg_if_ltN C (by omega) 30 (by decide) dX12_look_5 ?_
  refine mg_aload_n C (i := 0) rfl 2 rfl dX12_look_8 ?_
  refine mg_arr C 29 (by decide) (by decide) rfl mL_lookNumbers rfl dX12_look_9 ?_
  refine mg_iload_n C (i := 3) rfl 0 rfl dX12_look_12 ?_
  refine mg_iaload C (n := 5) 29 4 (by decide) (by decide) rfl rfl (by decide) (by decide) dX12_look_13 ?_
  refine mg_cast ((-1)) h1 ?_
  refine mg_iconst C (x := (-1)) rfl dX12_look_14 ?_
  refine mg_icmp_ne C 22 (by decide) dX12_look_15 (fun c_ => absurd c_ (by decide)) (fun c_15 => ?_)
  refine mg_iload_n C (i := 3) rfl 0 rfl dX12_look_18 ?_
  refine mg_goto C 23 (by decide) dX12_look_19 ?_
  refine mg_istore_n C (i := 2) (lv' := [(2, .int (nI 4)), (3, .int (nI 4)), (0, .ref (a 0)), (1, .int (nI 0))]) rfl (Nat.le_of_ble_eq_true rfl) rfl dX12_look_23 ?_
  refine mg_iinc C (lv' := [(3, .int (nI 3)), (2, .int (nI 4)), (0, .ref (a 0)), (1, .int (nI 0))]) 1 rfl (by decide) (Nat.le_of_ble_eq_true rfl) rfl dX12_look_24 ?_
  refine mg_goto C 4 (by decide) dX12_look_27 ?_
  refine mg_iload_n C (i := 3) rfl 0 rfl dX12_look_4 ?_
  refine mg_if_ltN C (by omega) 30 (by decide) dX12_look_5 ?_
  refine mg_aload_n C (i := 0) rfl 2 rfl dX12_look_8 ?_
  refine mg_arr C 29 (by decide) (by decide) rfl mL_lookNumbers rfl dX12_look_9 ?_
  refine mg_iload_n C (i := 3) rfl 0 rfl dX12_look_12 ?_
  refine mg_iaload C (n := 5) 29 3 (by decide) (by decide) rfl rfl (by decide) (by decide) dX12_look_13 ?_
  refine mg_cast ((-1)) h2 ?_
  refine mg_iconst C (x := (-1)) rfl dX12_look_14 ?_
  refine mg_icmp_ne C 22 (by decide) dX12_look_15 (fun c_ => absurd c_ (by decide)) (fun c_15 => ?_)
  refine mg_iload_n C (i := 3) rfl 0 rfl dX12_look_18 ?_
  refine mg_goto C 23 (by decide) dX12_look_19 ?_
  refine mg_istore_n C (i := 2) (lv' := [(2, .int (nI 3)), (3, .int (nI 3)), (0, .ref (a 0)), (1, .int (nI 0))]) rfl (Nat.le_of_ble_eq_true rfl) rfl dX12_look_23 ?_
  refine mg_iinc C (lv' := [(3, .int (nI 2)), (2, .int (nI 3)), (0, .ref (a 0)), (1, .int (nI 0))]) 1 rfl (by decide) (Nat.le_of_ble_eq_true rfl) rfl dX12_look_24 ?_
  refine mg_goto C 4 (by decide) dX12_look_27 ?_
  refine mg_iload_n C (i := 3) rfl 0 rfl dX12_look_4 ?_
  refine mg_if_ltN C (by omega) 30 (by decide) dX12_look_5 ?_
  refine mg_aload_n C (i := 0) rfl 2 rfl dX12_look_8 ?_
  refine mg_arr C 29 (by decide) (by decide) rfl mL_lookNumbers rfl dX12_look_9 ?_
  refine mg_iload_n C (i := 3) rfl 0 rfl dX12_look_12 ?_
  refine mg_iaload C (n := 5) 29 2 (by decide) (by decide) rfl rfl (by decide) (by decide) dX12_look_13 ?_
  refine mg_cast ((-1)) h3 ?_
  refine mg_iconst C (x := (-1)) rfl dX12_look_14 ?_
  refine mg_icmp_ne C 22 (by decide) dX12_look_15 (fun c_ => absurd c_ (by decide)) (fun c_15 => ?_)
  refine mg_iload_n C (i := 3) rfl 0 rfl dX12_look_18 ?_
  refine mg_goto C 23 (by decide) dX12_look_19 ?_
  refine mg_istore_n C (i := 2) (lv' := [(2, .int (nI 2)), (3, .int (nI 2)), (0, .ref (a 0)), (1, .int (nI 0))]) rfl (Nat.le_of_ble_eq_true rfl) rfl dX12_look_23 ?_
  refine mg_iinc C (lv' := [(3, .int (nI 1)), (2, .int (nI 2)), (0, .ref (a 0)), (1, .int (nI 0))]) 1 rfl (by decide) (Nat.le_of_ble_eq_true rfl) rfl dX12_look_24 ?_
  refine mg_goto C 4 (by decide) dX12_look_27 ?_
  refine mg_iload_n C (i := 3) rfl 0 rfl dX12_look_4 ?_
  refine mg_if_ltN C (by omega) 30 (by decide) dX12_look_5 ?_
  refine mg_aload_n C (i := 0) rfl 2 rfl dX12_look_8 ?_
  refine mg_arr C 29 (by decide) (by decide) rfl mL_lookNumbers rfl dX12_look_9 ?_
  refine mg_iload_n C (i := 3) rfl 0 rfl dX12_look_12 ?_
  refine mg_iaload C (n := 5) 29 1 (by decide) (by decide) rfl rfl (by decide) (by decide) dX12_look_13 ?_
  refine mg_cast ((-1)) h4 ?_
  refine mg_iconst C (x := (-1)) rfl dX12_look_14 ?_
  refine mg_icmp_ne C 22 (by decide) dX12_look_15 (fun c_ => absurd c_ (by decide)) (fun c_15 => ?_)
  refine mg_iload_n C (i := 3) rfl 0 rfl dX12_look_18 ?_
  refine mg_goto C 23 (by decide) dX12_look_19 ?_
  refine mg_istore_n C (i := 2) (lv' := [(2, .int (nI 1)), (3, .int (nI 1)), (0, .ref (a 0)), (1, .int (nI 0))]) rfl (Nat.le_of_ble_eq_true rfl) rfl dX12_look_23 ?_
  refine mg_iinc C (lv' := [(3, .int (nI 0)), (2, .int (nI 1)), (0, .ref (a 0)), (1, .int (nI 0))]) 1 rfl (by decide) (Nat.le_of_ble_eq_true rfl) rfl dX12_look_24 ?_
  refine mg_goto C 4 (by decide) dX12_look_27 ?_
  refine mg_iload_n C (i := 3) rfl 0 rfl dX12_look_4 ?_
  refine mg_if_ltN C (by omega) 30 (by decide) dX12_look_5 ?_
  refine mg_aload_n C (i := 0) rfl 2 rfl dX12_look_8 ?_
  refine mg_arr C 29 (by decide) (by decide) rfl mL_lookNumbers rfl dX12_look_9 ?_
  refine mg_iload_n C (i := 3) rfl 0 rfl dX12_look_12 ?_
  refine mg_iaload C (n := 5) 29 0 (by decide) (by decide) rfl rfl (by decide) (by decide) dX12_look_13 ?_
  refine mg_cast ((-1)) h5 ?_
  refine mg_iconst C (x := (-1)) rfl dX12_look_14 ?_
  refine mg_icmp_ne C 22 (by decide) dX12_look_15 (fun c_ => absurd c_ (by decide)) (fun c_15 => ?_)
  refine mg_iload_n C (i := 3) rfl 0 rfl dX12_look_18 ?_
  refine mg_goto C 23 (by decide) dX12_look_19 ?_
  refine mg_istore_n C (i := 2) (lv' := [(2, .int (nI 0)), (3, .int (nI 0)), (0, .ref (a 0)), (1, .int (nI 0))]) rfl (Nat.le_of_ble_eq_true rfl) rfl dX12_look_23 ?_
  refine mg_iinc C (lv' := [(3, .int ((-1))), (2, .int (nI 0)), (0, .ref (a 0)), (1, .int (nI 0))]) 1 rfl (by decide) (Nat.le_of_ble_eq_true rfl) rfl dX12_look_24 ?_
  refine mg_goto C 4 (by decide) dX12_look_27 ?_
  refine mg_iload_n C (i := 3) rfl 0 rfl dX12_look_4 ?_
  refine mg_if_lt C 30 (by decide) dX12_look_5 (fun c_5 => ?_) (fun c_ => absurd c_ (by decide))
  refine mg_aload_n C (i := 0) rfl 2 rfl dX12_look_30 ?_
  refine mg_aload_n C (i := 0) rfl 2 rfl dX12_look_31 ?_
  refine mg_getI C (k := 98) (by decide) rfl mL_down rfl dX12_look_32 ?_
  refine mg_cast (nI 0) h6 ?_
  refine mg_if_neN C (by omega) 47 (by decide) dX12_look_35 (fun c_ => absurd c_ (by omega)) (fun c_35 => ?_)
  refine mg_iload_n C (i := 2) rfl 1 rfl dX12_look_38 ?_
  refine mg_iconst C (x := (-1)) rfl dX12_look_39 ?_
  refine mg_icmp_eq C 47 (by decide) dX12_look_40 (fun c_ => absurd c_ (by decide)) (fun c_40 => ?_)
  refine mg_iconst C (x := nI 1) rfl dX12_look_43 ?_
  refine mg_goto C 48 (by decide) dX12_look_44 ?_
  refine mg_iconst C (x := nI 1) rfl dX12_look_48 ?_
  refine mg_iconst C (x := nI 1) rfl dX12_look_49 ?_
  refine mg_doi C (w30_goes l v f g ) mCal_goes rfl ⟨by decide, by decide⟩ rfl (Nat.le_of_ble_eq_true rfl) dX12_look_50 ?_
  refine mg_if_neB C 58 (by decide) dX12_look_53 (fun c_53 => ?_) (fun c_ => absurd c_ (by decide))
  refine mg_aload_n C (i := 0) rfl 2 rfl dX12_look_58 ?_
  refine mg_arr C 29 (by decide) (by decide) rfl mL_lookNumbers rfl dX12_look_59 ?_
  refine mg_iload_n C (i := 2) rfl 1 rfl dX12_look_62 ?_
  refine mg_aload_n C (i := 0) rfl 2 rfl dX12_look_63 ?_
  refine mg_getI C (k := 48) (by decide) rfl mL_looks rfl dX12_look_64 ?_
  refine mg_cast (nI 0) h7 ?_
  refine mg_iastore C (n := 5) 29 0 (by decide) (by decide) rfl rfl (by omega) (by decide) dX12_look_67 ?_
  refine mg_aload_n C (i := 0) rfl 2 rfl dX12_look_68 ?_
  refine mg_arr C 31 (by decide) (by decide) rfl mL_lookedMany rfl dX12_look_69 ?_
  refine mg_iload_n C (i := 2) rfl 1 rfl dX12_look_72 ?_
  refine mg_iload_n C (i := 1) rfl 3 rfl dX12_look_73 ?_
  refine mg_if_eqN C (by omega) 84 (by decide) dX12_look_74 (fun c_74 => ?_) (fun c_ => absurd c_ (by omega))
  refine mg_aload_n C (i := 0) rfl 2 rfl dX12_look_84 ?_
  refine mg_getI C (k := 35) (by decide) rfl mL_isCommitted rfl dX12_look_85 ?_
  refine mg_cast (nI 0) h8 ?_
  refine mg_if_eqN C (by omega) 98 (by decide) dX12_look_88 (fun c_88 => ?_) (fun c_ => absurd c_ (by omega))
  refine mg_iconst C (x := nI 0) rfl dX12_look_98 ?_
  refine mg_iastore C (n := 5) 31 0 (by decide) (by decide) rfl rfl (by omega) (by decide) dX12_look_99 ?_
  refine mg_iconst C (x := nI 0) rfl dX12_look_100 ?_
  refine mg_istore_n C (i := 3) (lv' := [(3, .int (nI 0)), (2, .int (nI 0)), (0, .ref (a 0)), (1, .int (nI 0))]) rfl (Nat.le_of_ble_eq_true rfl) rfl dX12_look_101 ?_
  refine mg_iload_n C (i := 3) rfl 0 rfl dX12_look_102 ?_
  refine mg_aload_n C (i := 0) rfl 2 rfl dX12_look_103 ?_
  refine mg_arr C 31 (by decide) (by decide) rfl mL_lookedMany rfl dX12_look_104 ?_
  refine mg_iload_n C (i := 2) rfl 1 rfl dX12_look_107 ?_
  refine mg_iaload C (n := 5) 31 0 (by decide) (by decide) rfl rfl (by decide) (by decide) dX12_look_108 ?_
  refine mg_cast (nI 0) rfl ?_
  refine mg_icmp_geN C (by omega) (by omega) 218 (by decide) dX12_look_109 (fun c_109 => ?_) (fun c_ => absurd c_ (by omega))
  refine mg_aload_n C (i := 0) rfl 2 rfl dX12_look_218 ?_
  refine mg_dup C rfl dX12_look_219 ?_
  refine mg_getI C (k := 48) (by decide) rfl mL_looks rfl dX12_look_220 ?_
  refine mg_cast (nI 0) h7 ?_
  refine mg_iconst C (x := nI 1) rfl dX12_look_223 ?_
  refine mg_iadd C dX12_look_224 ?_
  refine mg_cast (nI 1) (by decide) ?_
  refine mg_put C (k := 48) (by decide) rfl mL_looks rfl (by decide +kernel) mT_looks rfl rfl dX12_look_225 ?_
  refine mg_aload_n C (i := 0) rfl 2 rfl dX12_look_228 ?_
  refine mg_getI C (k := 48) (by decide) rfl mL_looks rfl dX12_look_229 ?_
  refine mg_cast (nI 1) rfl ?_
  refine mg_iconst C (x := nI 1) rfl dX12_look_232 ?_
  refine mg_isub C dX12_look_233 ?_
  refine mg_cast (nI 0) (by decide) ?_
  exact mg_iret C ⟨rfl, rfl⟩ dX12_look_234
set_option maxHeartbeats 4000000 in
set_option maxRecDepth 100000 in
theorem w101_slotOf (l : Launch) (v : Nat → Int32) (f : Nat → Nat → Int32) (g : Nat → Nat → Int64) (x1 : Int32) (h1 : x1 < 0) : mMi l yX12_slotOf cX12_slotOf 4 (some .int) 0 0 false [.int x1] v f g (fun r_ u_ => r_ = ((-1)) ∧ u_ = (v, f, g)) := by
  intro D cI cJ cZ a sz
  refine mg_body (by decide +kernel) rfl (Nat.le_of_ble_eq_true rfl) ?_
  intro p e s m args below meth c hsz C
  clear hsz
  generalize va_A (mW cI cJ cZ a v f g) sz = A at C ⊢
  refine mg_lv (lv' := [(0, .ref (a 0)), (1, .int x1)]) rfl ?_
  refine mg_iconst C (x := (-1)) rfl dX12_slotOf_0 ?_
  refine mg_istore_n C (i := 2) (lv' := [(2, .int ((-1))), (0, .ref (a 0)), (1, .int x1)]) rfl (Nat.le_of_ble_eq_true rfl) rfl dX12_slotOf_1 ?_
  refine mg_iconst C (x := nI 0) rfl dX12_slotOf_2 ?_
  refine mg_istore_n C (i := 3) (lv' := [(3, .int (nI 0)), (2, .int ((-1))), (0, .ref (a 0)), (1, .int x1)]) rfl (Nat.le_of_ble_eq_true rfl) rfl dX12_slotOf_3 ?_
  refine mg_iload_n C (i := 3) rfl 0 rfl dX12_slotOf_4 ?_
  refine mg_iconst C (x := nI 5) rfl dX12_slotOf_5 ?_
  refine mg_icmp_geN C (by omega) (by omega) 35 (by decide) dX12_slotOf_6 (fun c_ => absurd c_ (by omega)) (fun c_6 => ?_)
  refine mg_iload_n C (i := 1) rfl 3 rfl dX12_slotOf_9 ?_
  refine mg_if_lt C 27 (by decide) dX12_slotOf_10 (fun c_10 => ?_) (fun c_ => absurd (cneg0_lt h1) c_)
  refine mg_iload_n C (i := 2) rfl 1 rfl dX12_slotOf_27 ?_
  refine mg_istore_n C (i := 2) (lv' := [(2, .int ((-1))), (3, .int (nI 0)), (0, .ref (a 0)), (1, .int x1)]) rfl (Nat.le_of_ble_eq_true rfl) rfl dX12_slotOf_28 ?_
  refine mg_iincN C (lv' := [(3, .int (nI 1)), (2, .int ((-1))), (0, .ref (a 0)), (1, .int x1)]) 1 1 rfl rfl (Nat.le_of_ble_eq_true rfl) rfl dX12_slotOf_29 ?_
  refine mg_goto C 4 (by decide) dX12_slotOf_32 ?_
  refine mg_iload_n C (i := 3) rfl 0 rfl dX12_slotOf_4 ?_
  refine mg_iconst C (x := nI 5) rfl dX12_slotOf_5 ?_
  refine mg_icmp_geN C (by omega) (by omega) 35 (by decide) dX12_slotOf_6 (fun c_ => absurd c_ (by omega)) (fun c_6 => ?_)
  refine mg_iload_n C (i := 1) rfl 3 rfl dX12_slotOf_9 ?_
  refine mg_if_lt C 27 (by decide) dX12_slotOf_10 (fun c_10 => ?_) (fun c_ => absurd (cneg0_lt h1) c_)
  refine mg_iload_n C (i := 2) rfl 1 rfl dX12_slotOf_27 ?_
  refine mg_istore_n C (i := 2) (lv' := [(2, .int ((-1))), (3, .int (nI 1)), (0, .ref (a 0)), (1, .int x1)]) rfl (Nat.le_of_ble_eq_true rfl) rfl dX12_slotOf_28 ?_
  refine mg_iincN C (lv' := [(3, .int (nI 2)), (2, .int ((-1))), (0, .ref (a 0)), (1, .int x1)]) 1 1 rfl rfl (Nat.le_of_ble_eq_true rfl) rfl dX12_slotOf_29 ?_
  refine mg_goto C 4 (by decide) dX12_slotOf_32 ?_
  refine mg_iload_n C (i := 3) rfl 0 rfl dX12_slotOf_4 ?_
  refine mg_iconst C (x := nI 5) rfl dX12_slotOf_5 ?_
  refine mg_icmp_geN C (by omega) (by omega) 35 (by decide) dX12_slotOf_6 (fun c_ => absurd c_ (by omega)) (fun c_6 => ?_)
  refine mg_iload_n C (i := 1) rfl 3 rfl dX12_slotOf_9 ?_
  refine mg_if_lt C 27 (by decide) dX12_slotOf_10 (fun c_10 => ?_) (fun c_ => absurd (cneg0_lt h1) c_)
  refine mg_iload_n C (i := 2) rfl 1 rfl dX12_slotOf_27 ?_
  refine mg_istore_n C (i := 2) (lv' := [(2, .int ((-1))), (3, .int (nI 2)), (0, .ref (a 0)), (1, .int x1)]) rfl (Nat.le_of_ble_eq_true rfl) rfl dX12_slotOf_28 ?_
  refine mg_iincN C (lv' := [(3, .int (nI 3)), (2, .int ((-1))), (0, .ref (a 0)), (1, .int x1)]) 1 1 rfl rfl (Nat.le_of_ble_eq_true rfl) rfl dX12_slotOf_29 ?_
  refine mg_goto C 4 (by decide) dX12_slotOf_32 ?_
  refine mg_iload_n C (i := 3) rfl 0 rfl dX12_slotOf_4 ?_
  refine mg_iconst C (x := nI 5) rfl dX12_slotOf_5 ?_
  refine mg_icmp_geN C (by omega) (by omega) 35 (by decide) dX12_slotOf_6 (fun c_ => absurd c_ (by omega)) (fun c_6 => ?_)
  refine mg_iload_n C (i := 1) rfl 3 rfl dX12_slotOf_9 ?_
  refine mg_if_lt C 27 (by decide) dX12_slotOf_10 (fun c_10 => ?_) (fun c_ => absurd (cneg0_lt h1) c_)
  refine mg_iload_n C (i := 2) rfl 1 rfl dX12_slotOf_27 ?_
  refine mg_istore_n C (i := 2) (lv' := [(2, .int ((-1))), (3, .int (nI 3)), (0, .ref (a 0)), (1, .int x1)]) rfl (Nat.le_of_ble_eq_true rfl) rfl dX12_slotOf_28 ?_
  refine mg_iincN C (lv' := [(3, .int (nI 4)), (2, .int ((-1))), (0, .ref (a 0)), (1, .int x1)]) 1 1 rfl rfl (Nat.le_of_ble_eq_true rfl) rfl dX12_slotOf_29 ?_
  refine mg_goto C 4 (by decide) dX12_slotOf_32 ?_
  refine mg_iload_n C (i := 3) rfl 0 rfl dX12_slotOf_4 ?_
  refine mg_iconst C (x := nI 5) rfl dX12_slotOf_5 ?_
  refine mg_icmp_geN C (by omega) (by omega) 35 (by decide) dX12_slotOf_6 (fun c_ => absurd c_ (by omega)) (fun c_6 => ?_)
  refine mg_iload_n C (i := 1) rfl 3 rfl dX12_slotOf_9 ?_
  refine mg_if_lt C 27 (by decide) dX12_slotOf_10 (fun c_10 => ?_) (fun c_ => absurd (cneg0_lt h1) c_)
  refine mg_iload_n C (i := 2) rfl 1 rfl dX12_slotOf_27 ?_
  refine mg_istore_n C (i := 2) (lv' := [(2, .int ((-1))), (3, .int (nI 4)), (0, .ref (a 0)), (1, .int x1)]) rfl (Nat.le_of_ble_eq_true rfl) rfl dX12_slotOf_28 ?_
  refine mg_iincN C (lv' := [(3, .int (nI 5)), (2, .int ((-1))), (0, .ref (a 0)), (1, .int x1)]) 1 1 rfl rfl (Nat.le_of_ble_eq_true rfl) rfl dX12_slotOf_29 ?_
  refine mg_goto C 4 (by decide) dX12_slotOf_32 ?_
  refine mg_iload_n C (i := 3) rfl 0 rfl dX12_slotOf_4 ?_
  refine mg_iconst C (x := nI 5) rfl dX12_slotOf_5 ?_
  refine mg_icmp_geN C (by omega) (by omega) 35 (by decide) dX12_slotOf_6 (fun c_6 => ?_) (fun c_ => absurd c_ (by omega))
  refine mg_iload_n C (i := 2) rfl 1 rfl dX12_slotOf_35 ?_
  exact mg_iret C ⟨rfl, rfl⟩ dX12_slotOf_36
set_option maxHeartbeats 4000000 in
set_option maxRecDepth 100000 in
theorem w102_shut (l : Launch) (v : Nat → Int32) (f : Nat → Nat → Int32) (g : Nat → Nat → Int64) (x1 : Int32) (h1 : x1 < 0) : mMi l yX12_shut cX12_shut 3 (some .int) 1 23 false [.int x1] v f g (fun r_ u_ => r_ = (nI 0) ∧ u_ = (upd v 99 (nI 1), f, g)) := by
  intro D cI cJ cZ a sz
  refine mg_body (by decide +kernel) rfl (Nat.le_of_ble_eq_true rfl) ?_
  intro p e s m args below meth c hsz C
  clear hsz
  generalize va_A (mW cI cJ cZ a v f g) sz = A at C ⊢
  refine mg_lv (lv' := [(0, .ref (a 0)), (1, .int x1)]) rfl ?_
  refine mg_aload_n C (i := 0) rfl 0 rfl dX12_shut_0 ?_
  refine mg_iload_n C (i := 1) rfl 1 rfl dX12_shut_1 ?_
  refine mg_doi C (w101_slotOf l v f g x1 h1) mCal_slotOf rfl ⟨by decide, by decide⟩ rfl (Nat.le_of_ble_eq_true rfl) dX12_shut_2 ?_
  refine mg_istore_n C (i := 2) (lv' := [(2, .int ((-1))), (0, .ref (a 0)), (1, .int x1)]) rfl (Nat.le_of_ble_eq_true rfl) rfl dX12_shut_5 ?_
  refine mg_aload_n C (i := 0) rfl 1 rfl dX12_shut_6 ?_
  refine mg_iload_n C (i := 2) rfl 0 rfl dX12_shut_7 ?_
  refine mg_iconst C (x := (-1)) rfl dX12_shut_8 ?_
  refine mg_icmp_eq C 16 (by decide) dX12_shut_9 (fun c_9 => ?_) (fun c_ => absurd c_ (by decide))
  refine mg_iconst C (x := nI 0) rfl dX12_shut_16 ?_
  refine mg_iconst C (x := nI 1) rfl dX12_shut_17 ?_
  refine mg_iconst C (x := nI 1) rfl dX12_shut_18 ?_
  refine mg_doi C (w13_goes l v f g ) mCal_goes rfl ⟨by decide, by decide⟩ rfl (Nat.le_of_ble_eq_true rfl) dX12_shut_19 ?_
  refine mg_if_neB C 27 (by decide) dX12_shut_22 (fun c_ => absurd c_ (by decide)) (fun c_22 => ?_)
  refine mg_iconst C (x := nI 0) rfl dX12_shut_25 ?_
  exact mg_iret C ⟨rfl, rfl⟩ dX12_shut_26
set_option maxHeartbeats 4000000 in
set_option maxRecDepth 100000 in
theorem w103_slotOf (l : Launch) (v : Nat → Int32) (f : Nat → Nat → Int32) (g : Nat → Nat → Int64) (n1 : Nat) (h1 : n1 ≤ 2147483647) (h2 : f 29 0 = ((-1))) (h3 : f 29 1 = ((-1))) (h4 : f 29 2 = ((-1))) (h5 : f 29 3 = ((-1))) (h6 : f 29 4 = ((-1))) : mMi l yX12_slotOf cX12_slotOf 4 (some .int) 0 0 false [.int (nI n1)] v f g (fun r_ u_ => r_ = ((-1)) ∧ u_ = (v, f, g)) := by
  intro D cI cJ cZ a sz
  refine mg_body (by decide +kernel) rfl (Nat.le_of_ble_eq_true rfl) ?_
  intro p e s m args below meth c hsz C
  clear hsz
  generalize va_A (mW cI cJ cZ a v f g) sz = A at C ⊢
  refine mg_lv (lv' := [(0, .ref (a 0)), (1, .int (nI n1))]) rfl ?_
  refine mg_iconst C (x := (-1)) rfl dX12_slotOf_0 ?_
  refine mg_istore_n C (i := 2) (lv' := [(2, .int ((-1))), (0, .ref (a 0)), (1, .int (nI n1))]) rfl (Nat.le_of_ble_eq_true rfl) rfl dX12_slotOf_1 ?_
  refine mg_iconst C (x := nI 0) rfl dX12_slotOf_2 ?_
  refine mg_istore_n C (i := 3) (lv' := [(3, .int (nI 0)), (2, .int ((-1))), (0, .ref (a 0)), (1, .int (nI n1))]) rfl (Nat.le_of_ble_eq_true rfl) rfl dX12_slotOf_3 ?_
  refine mg_iload_n C (i := 3) rfl 0 rfl dX12_slotOf_4 ?_
  refine mg_iconst C (x := nI 5) rfl dX12_slotOf_5 ?_
  refine mg_icmp_geN C (by omega) (by omega) 35 (by decide) dX12_slotOf_6 (fun c_ => absurd c_ (by omega)) (fun c_6 => ?_)
  refine mg_iload_n C (i := 1) rfl 3 rfl dX12_slotOf_9 ?_
  refine mg_if_ltN C (by omega) 27 (by decide) dX12_slotOf_10 ?_
  refine mg_aload_n C (i := 0) rfl 2 rfl dX12_slotOf_13 ?_
  refine mg_arr C 29 (by decide) (by decide) rfl mL_lookNumbers rfl dX12_slotOf_14 ?_
  refine mg_iload_n C (i := 3) rfl 0 rfl dX12_slotOf_17 ?_
  refine mg_iaload C (n := 5) 29 0 (by decide) (by decide) rfl rfl (by decide) (by decide) dX12_slotOf_18 ?_
  refine mg_cast ((-1)) h2 ?_
  refine mg_iload_n C (i := 1) rfl 3 rfl dX12_slotOf_19 ?_
  refine mg_icmp_ne C 27 (by decide) dX12_slotOf_20 (fun c_20 => ?_) (fun c_ => absurd c_ (cneg_ne (show ((-1) : Int32) < 0 from by decide) (by omega)))
  refine mg_iload_n C (i := 2) rfl 1 rfl dX12_slotOf_27 ?_
  refine mg_istore_n C (i := 2) (lv' := [(2, .int ((-1))), (3, .int (nI 0)), (0, .ref (a 0)), (1, .int (nI n1))]) rfl (Nat.le_of_ble_eq_true rfl) rfl dX12_slotOf_28 ?_
  refine mg_iincN C (lv' := [(3, .int (nI 1)), (2, .int ((-1))), (0, .ref (a 0)), (1, .int (nI n1))]) 1 1 rfl rfl (Nat.le_of_ble_eq_true rfl) rfl dX12_slotOf_29 ?_
  refine mg_goto C 4 (by decide) dX12_slotOf_32 ?_
  refine mg_iload_n C (i := 3) rfl 0 rfl dX12_slotOf_4 ?_
  refine mg_iconst C (x := nI 5) rfl dX12_slotOf_5 ?_
  refine mg_icmp_geN C (by omega) (by omega) 35 (by decide) dX12_slotOf_6 (fun c_ => absurd c_ (by omega)) (fun c_6 => ?_)
  refine mg_iload_n C (i := 1) rfl 3 rfl dX12_slotOf_9 ?_
  refine mg_if_ltN C (by omega) 27 (by decide) dX12_slotOf_10 ?_
  refine mg_aload_n C (i := 0) rfl 2 rfl dX12_slotOf_13 ?_
  refine mg_arr C 29 (by decide) (by decide) rfl mL_lookNumbers rfl dX12_slotOf_14 ?_
  refine mg_iload_n C (i := 3) rfl 0 rfl dX12_slotOf_17 ?_
  refine mg_iaload C (n := 5) 29 1 (by decide) (by decide) rfl rfl (by decide) (by decide) dX12_slotOf_18 ?_
  refine mg_cast ((-1)) h3 ?_
  refine mg_iload_n C (i := 1) rfl 3 rfl dX12_slotOf_19 ?_
  refine mg_icmp_ne C 27 (by decide) dX12_slotOf_20 (fun c_20 => ?_) (fun c_ => absurd c_ (cneg_ne (show ((-1) : Int32) < 0 from by decide) (by omega)))
  refine mg_iload_n C (i := 2) rfl 1 rfl dX12_slotOf_27 ?_
  refine mg_istore_n C (i := 2) (lv' := [(2, .int ((-1))), (3, .int (nI 1)), (0, .ref (a 0)), (1, .int (nI n1))]) rfl (Nat.le_of_ble_eq_true rfl) rfl dX12_slotOf_28 ?_
  refine mg_iincN C (lv' := [(3, .int (nI 2)), (2, .int ((-1))), (0, .ref (a 0)), (1, .int (nI n1))]) 1 1 rfl rfl (Nat.le_of_ble_eq_true rfl) rfl dX12_slotOf_29 ?_
  refine mg_goto C 4 (by decide) dX12_slotOf_32 ?_
  refine mg_iload_n C (i := 3) rfl 0 rfl dX12_slotOf_4 ?_
  refine mg_iconst C (x := nI 5) rfl dX12_slotOf_5 ?_
  refine mg_icmp_geN C (by omega) (by omega) 35 (by decide) dX12_slotOf_6 (fun c_ => absurd c_ (by omega)) (fun c_6 => ?_)
  refine mg_iload_n C (i := 1) rfl 3 rfl dX12_slotOf_9 ?_
  refine mg_if_ltN C (by omega) 27 (by decide) dX12_slotOf_10 ?_
  refine mg_aload_n C (i := 0) rfl 2 rfl dX12_slotOf_13 ?_
  refine mg_arr C 29 (by decide) (by decide) rfl mL_lookNumbers rfl dX12_slotOf_14 ?_
  refine mg_iload_n C (i := 3) rfl 0 rfl dX12_slotOf_17 ?_
  refine mg_iaload C (n := 5) 29 2 (by decide) (by decide) rfl rfl (by decide) (by decide) dX12_slotOf_18 ?_
  refine mg_cast ((-1)) h4 ?_
  refine mg_iload_n C (i := 1) rfl 3 rfl dX12_slotOf_19 ?_
  refine mg_icmp_ne C 27 (by decide) dX12_slotOf_20 (fun c_20 => ?_) (fun c_ => absurd c_ (cneg_ne (show ((-1) : Int32) < 0 from by decide) (by omega)))
  refine mg_iload_n C (i := 2) rfl 1 rfl dX12_slotOf_27 ?_
  refine mg_istore_n C (i := 2) (lv' := [(2, .int ((-1))), (3, .int (nI 2)), (0, .ref (a 0)), (1, .int (nI n1))]) rfl (Nat.le_of_ble_eq_true rfl) rfl dX12_slotOf_28 ?_
  refine mg_iincN C (lv' := [(3, .int (nI 3)), (2, .int ((-1))), (0, .ref (a 0)), (1, .int (nI n1))]) 1 1 rfl rfl (Nat.le_of_ble_eq_true rfl) rfl dX12_slotOf_29 ?_
  refine mg_goto C 4 (by decide) dX12_slotOf_32 ?_
  refine mg_iload_n C (i := 3) rfl 0 rfl dX12_slotOf_4 ?_
  refine mg_iconst C (x := nI 5) rfl dX12_slotOf_5 ?_
  refine mg_icmp_geN C (by omega) (by omega) 35 (by decide) dX12_slotOf_6 (fun c_ => absurd c_ (by omega)) (fun c_6 => ?_)
  refine mg_iload_n C (i := 1) rfl 3 rfl dX12_slotOf_9 ?_
  refine mg_if_ltN C (by omega) 27 (by decide) dX12_slotOf_10 ?_
  refine mg_aload_n C (i := 0) rfl 2 rfl dX12_slotOf_13 ?_
  refine mg_arr C 29 (by decide) (by decide) rfl mL_lookNumbers rfl dX12_slotOf_14 ?_
  refine mg_iload_n C (i := 3) rfl 0 rfl dX12_slotOf_17 ?_
  refine mg_iaload C (n := 5) 29 3 (by decide) (by decide) rfl rfl (by decide) (by decide) dX12_slotOf_18 ?_
  refine mg_cast ((-1)) h5 ?_
  refine mg_iload_n C (i := 1) rfl 3 rfl dX12_slotOf_19 ?_
  refine mg_icmp_ne C 27 (by decide) dX12_slotOf_20 (fun c_20 => ?_) (fun c_ => absurd c_ (cneg_ne (show ((-1) : Int32) < 0 from by decide) (by omega)))
  refine mg_iload_n C (i := 2) rfl 1 rfl dX12_slotOf_27 ?_
  refine mg_istore_n C (i := 2) (lv' := [(2, .int ((-1))), (3, .int (nI 3)), (0, .ref (a 0)), (1, .int (nI n1))]) rfl (Nat.le_of_ble_eq_true rfl) rfl dX12_slotOf_28 ?_
  refine mg_iincN C (lv' := [(3, .int (nI 4)), (2, .int ((-1))), (0, .ref (a 0)), (1, .int (nI n1))]) 1 1 rfl rfl (Nat.le_of_ble_eq_true rfl) rfl dX12_slotOf_29 ?_
  refine mg_goto C 4 (by decide) dX12_slotOf_32 ?_
  refine mg_iload_n C (i := 3) rfl 0 rfl dX12_slotOf_4 ?_
  refine mg_iconst C (x := nI 5) rfl dX12_slotOf_5 ?_
  refine mg_icmp_geN C (by omega) (by omega) 35 (by decide) dX12_slotOf_6 (fun c_ => absurd c_ (by omega)) (fun c_6 => ?_)
  refine mg_iload_n C (i := 1) rfl 3 rfl dX12_slotOf_9 ?_
  refine mg_if_ltN C (by omega) 27 (by decide) dX12_slotOf_10 ?_
  refine mg_aload_n C (i := 0) rfl 2 rfl dX12_slotOf_13 ?_
  refine mg_arr C 29 (by decide) (by decide) rfl mL_lookNumbers rfl dX12_slotOf_14 ?_
  refine mg_iload_n C (i := 3) rfl 0 rfl dX12_slotOf_17 ?_
  refine mg_iaload C (n := 5) 29 4 (by decide) (by decide) rfl rfl (by decide) (by decide) dX12_slotOf_18 ?_
  refine mg_cast ((-1)) h6 ?_
  refine mg_iload_n C (i := 1) rfl 3 rfl dX12_slotOf_19 ?_
  refine mg_icmp_ne C 27 (by decide) dX12_slotOf_20 (fun c_20 => ?_) (fun c_ => absurd c_ (cneg_ne (show ((-1) : Int32) < 0 from by decide) (by omega)))
  refine mg_iload_n C (i := 2) rfl 1 rfl dX12_slotOf_27 ?_
  refine mg_istore_n C (i := 2) (lv' := [(2, .int ((-1))), (3, .int (nI 4)), (0, .ref (a 0)), (1, .int (nI n1))]) rfl (Nat.le_of_ble_eq_true rfl) rfl dX12_slotOf_28 ?_
  refine mg_iincN C (lv' := [(3, .int (nI 5)), (2, .int ((-1))), (0, .ref (a 0)), (1, .int (nI n1))]) 1 1 rfl rfl (Nat.le_of_ble_eq_true rfl) rfl dX12_slotOf_29 ?_
  refine mg_goto C 4 (by decide) dX12_slotOf_32 ?_
  refine mg_iload_n C (i := 3) rfl 0 rfl dX12_slotOf_4 ?_
  refine mg_iconst C (x := nI 5) rfl dX12_slotOf_5 ?_
  refine mg_icmp_geN C (by omega) (by omega) 35 (by decide) dX12_slotOf_6 (fun c_6 => ?_) (fun c_ => absurd c_ (by omega))
  refine mg_iload_n C (i := 2) rfl 1 rfl dX12_slotOf_35 ?_
  exact mg_iret C ⟨rfl, rfl⟩ dX12_slotOf_36
set_option maxHeartbeats 4000000 in
set_option maxRecDepth 100000 in
theorem w104_shut (l : Launch) (v : Nat → Int32) (f : Nat → Nat → Int32) (g : Nat → Nat → Int64) (n1 : Nat) (h1 : n1 ≤ 2147483647) (h2 : f 29 0 = ((-1))) (h3 : f 29 1 = ((-1))) (h4 : f 29 2 = ((-1))) (h5 : f 29 3 = ((-1))) (h6 : f 29 4 = ((-1))) : mMi l yX12_shut cX12_shut 3 (some .int) 1 23 false [.int (nI n1)] v f g (fun r_ u_ => r_ = (nI 0) ∧ u_ = (upd v 99 (nI 1), f, g)) := by
  intro D cI cJ cZ a sz
  refine mg_body (by decide +kernel) rfl (Nat.le_of_ble_eq_true rfl) ?_
  intro p e s m args below meth c hsz C
  clear hsz
  generalize va_A (mW cI cJ cZ a v f g) sz = A at C ⊢
  refine mg_lv (lv' := [(0, .ref (a 0)), (1, .int (nI n1))]) rfl ?_
  refine mg_aload_n C (i := 0) rfl 0 rfl dX12_shut_0 ?_
  refine mg_iload_n C (i := 1) rfl 1 rfl dX12_shut_1 ?_
  refine mg_doi C (w103_slotOf l v f g n1 (by omega) h2 h3 h4 h5 h6) mCal_slotOf rfl ⟨by decide, by decide⟩ rfl (Nat.le_of_ble_eq_true rfl) dX12_shut_2 ?_
  refine mg_istore_n C (i := 2) (lv' := [(2, .int ((-1))), (0, .ref (a 0)), (1, .int (nI n1))]) rfl (Nat.le_of_ble_eq_true rfl) rfl dX12_shut_5 ?_
  refine mg_aload_n C (i := 0) rfl 1 rfl dX12_shut_6 ?_
  refine mg_iload_n C (i := 2) rfl 0 rfl dX12_shut_7 ?_
  refine mg_iconst C (x := (-1)) rfl dX12_shut_8 ?_
  refine mg_icmp_eq C 16 (by decide) dX12_shut_9 (fun c_9 => ?_) (fun c_ => absurd c_ (by decide))
  refine mg_iconst C (x := nI 0) rfl dX12_shut_16 ?_
  refine mg_iconst C (x := nI 1) rfl dX12_shut_17 ?_
  refine mg_iconst C (x := nI 1) rfl dX12_shut_18 ?_
  refine mg_doi C (w13_goes l v f g ) mCal_goes rfl ⟨by decide, by decide⟩ rfl (Nat.le_of_ble_eq_true rfl) dX12_shut_19 ?_
  refine mg_if_neB C 27 (by decide) dX12_shut_22 (fun c_ => absurd c_ (by decide)) (fun c_22 => ?_)
  refine mg_iconst C (x := nI 0) rfl dX12_shut_25 ?_
  exact mg_iret C ⟨rfl, rfl⟩ dX12_shut_26
set_option maxHeartbeats 4000000 in
set_option maxRecDepth 100000 in
theorem w105_documents (l : Launch) (v : Nat → Int32) (f : Nat → Nat → Int32) (g : Nat → Nat → Int64) (x1 : Int32) (h1 : x1 < 0) : mMi l yX12_documents cX12_documents 3 (some .int) 1 23 false [.int x1] v f g (fun r_ u_ => r_ = (nI 0) ∧ u_ = (upd v 99 (nI 1), f, g)) := by
  intro D cI cJ cZ a sz
  refine mg_body (by decide +kernel) rfl (Nat.le_of_ble_eq_true rfl) ?_
  intro p e s m args below meth c hsz C
  clear hsz
  generalize va_A (mW cI cJ cZ a v f g) sz = A at C ⊢
  refine mg_lv (lv' := [(0, .ref (a 0)), (1, .int x1)]) rfl ?_
  refine mg_aload_n C (i := 0) rfl 0 rfl dX12_documents_0 ?_
  refine mg_iload_n C (i := 1) rfl 1 rfl dX12_documents_1 ?_
  refine mg_doi C (w101_slotOf l v f g x1 h1) mCal_slotOf rfl ⟨by decide, by decide⟩ rfl (Nat.le_of_ble_eq_true rfl) dX12_documents_2 ?_
  refine mg_istore_n C (i := 2) (lv' := [(2, .int ((-1))), (0, .ref (a 0)), (1, .int x1)]) rfl (Nat.le_of_ble_eq_true rfl) rfl dX12_documents_5 ?_
  refine mg_aload_n C (i := 0) rfl 1 rfl dX12_documents_6 ?_
  refine mg_iload_n C (i := 2) rfl 0 rfl dX12_documents_7 ?_
  refine mg_iconst C (x := (-1)) rfl dX12_documents_8 ?_
  refine mg_icmp_eq C 16 (by decide) dX12_documents_9 (fun c_9 => ?_) (fun c_ => absurd c_ (by decide))
  refine mg_iconst C (x := nI 0) rfl dX12_documents_16 ?_
  refine mg_iconst C (x := nI 1) rfl dX12_documents_17 ?_
  refine mg_iconst C (x := nI 1) rfl dX12_documents_18 ?_
  refine mg_doi C (w13_goes l v f g ) mCal_goes rfl ⟨by decide, by decide⟩ rfl (Nat.le_of_ble_eq_true rfl) dX12_documents_19 ?_
  refine mg_if_neB C 27 (by decide) dX12_documents_22 (fun c_ => absurd c_ (by decide)) (fun c_22 => ?_)
  refine mg_iconst C (x := nI 0) rfl dX12_documents_25 ?_
  exact mg_iret C ⟨rfl, rfl⟩ dX12_documents_26
set_option maxHeartbeats 4000000 in
set_option maxRecDepth 100000 in
theorem w106_documents (l : Launch) (v : Nat → Int32) (f : Nat → Nat → Int32) (g : Nat → Nat → Int64) (n1 : Nat) (h1 : n1 ≤ 2147483647) (h2 : f 29 0 = ((-1))) (h3 : f 29 1 = ((-1))) (h4 : f 29 2 = ((-1))) (h5 : f 29 3 = ((-1))) (h6 : f 29 4 = ((-1))) : mMi l yX12_documents cX12_documents 3 (some .int) 1 23 false [.int (nI n1)] v f g (fun r_ u_ => r_ = (nI 0) ∧ u_ = (upd v 99 (nI 1), f, g)) := by
  intro D cI cJ cZ a sz
  refine mg_body (by decide +kernel) rfl (Nat.le_of_ble_eq_true rfl) ?_
  intro p e s m args below meth c hsz C
  clear hsz
  generalize va_A (mW cI cJ cZ a v f g) sz = A at C ⊢
  refine mg_lv (lv' := [(0, .ref (a 0)), (1, .int (nI n1))]) rfl ?_
  refine mg_aload_n C (i := 0) rfl 0 rfl dX12_documents_0 ?_
  refine mg_iload_n C (i := 1) rfl 1 rfl dX12_documents_1 ?_
  refine mg_doi C (w103_slotOf l v f g n1 (by omega) h2 h3 h4 h5 h6) mCal_slotOf rfl ⟨by decide, by decide⟩ rfl (Nat.le_of_ble_eq_true rfl) dX12_documents_2 ?_
  refine mg_istore_n C (i := 2) (lv' := [(2, .int ((-1))), (0, .ref (a 0)), (1, .int (nI n1))]) rfl (Nat.le_of_ble_eq_true rfl) rfl dX12_documents_5 ?_
  refine mg_aload_n C (i := 0) rfl 1 rfl dX12_documents_6 ?_
  refine mg_iload_n C (i := 2) rfl 0 rfl dX12_documents_7 ?_
  refine mg_iconst C (x := (-1)) rfl dX12_documents_8 ?_
  refine mg_icmp_eq C 16 (by decide) dX12_documents_9 (fun c_9 => ?_) (fun c_ => absurd c_ (by decide))
  refine mg_iconst C (x := nI 0) rfl dX12_documents_16 ?_
  refine mg_iconst C (x := nI 1) rfl dX12_documents_17 ?_
  refine mg_iconst C (x := nI 1) rfl dX12_documents_18 ?_
  refine mg_doi C (w13_goes l v f g ) mCal_goes rfl ⟨by decide, by decide⟩ rfl (Nat.le_of_ble_eq_true rfl) dX12_documents_19 ?_
  refine mg_if_neB C 27 (by decide) dX12_documents_22 (fun c_ => absurd c_ (by decide)) (fun c_22 => ?_)
  refine mg_iconst C (x := nI 0) rfl dX12_documents_25 ?_
  exact mg_iret C ⟨rfl, rfl⟩ dX12_documents_26
set_option maxHeartbeats 4000000 in
set_option maxRecDepth 100000 in
theorem w107_isField (l : Launch) (v : Nat → Int32) (f : Nat → Nat → Int32) (g : Nat → Nat → Int64) (x1 : Int32) (h1 : x1 < 0) : mMi l yX12_isField cX12_isField 2 (some .boolean) 1 22 false [.int x1] v f g (fun r_ u_ => r_ = (bI false) ∧ u_ = (v, f, g)) := by
  intro D cI cJ cZ a sz
  refine mg_body (by decide +kernel) rfl (Nat.le_of_ble_eq_true rfl) ?_
  intro p e s m args below meth c hsz C
  clear hsz
  generalize va_A (mW cI cJ cZ a v f g) sz = A at C ⊢
  refine mg_lv (lv' := [(0, .ref (a 0)), (1, .int x1)]) rfl ?_
  refine mg_iload_n C (i := 1) rfl 1 rfl dX12_isField_0 ?_
  refine mg_iconst C (x := nI 0) rfl dX12_isField_1 ?_
  refine mg_iconst C (x := nI 1) rfl dX12_isField_2 ?_
  refine mg_dosi C (w16_in l v f g x1 h1) mCal_in rfl ⟨by decide, by decide⟩ rfl (Nat.le_of_ble_eq_true rfl) dX12_isField_3 ?_
  exact mg_zret C (bI_nar _) ⟨rfl, rfl⟩ dX12_isField_6
set_option maxHeartbeats 4000000 in
set_option maxRecDepth 100000 in
theorem w108_in (l : Launch) (v : Nat → Int32) (f : Nat → Nat → Int32) (g : Nat → Nat → Int64) : mMi l yX12_in cX12_in 3 (some .boolean) 0 0 true [.int (nI 0), .int (nI 1), .int (nI 1)] v f g (fun r_ u_ => r_ = (bI false) ∧ u_ = (v, f, g)) := by
  intro D cI cJ cZ a sz
  refine mg_body (by decide +kernel) rfl (Nat.le_of_ble_eq_true rfl) ?_
  intro p e s m args below meth c hsz C
  clear hsz
  generalize va_A (mW cI cJ cZ a v f g) sz = A at C ⊢
  refine mg_lv (lv' := [(0, .int (nI 0)), (1, .int (nI 1)), (2, .int (nI 1))]) rfl ?_
  refine mg_iload_n C (i := 0) rfl 0 rfl dX12_in_0 ?_
  refine mg_iload_n C (i := 1) rfl 1 rfl dX12_in_1 ?_
  refine mg_icmp_ltN C (by omega) (by omega) 14 (by decide) dX12_in_2 (fun c_2 => ?_) (fun c_ => absurd c_ (by omega))
  refine mg_iconst C (x := nI 0) rfl dX12_in_14 ?_
  refine mg_cast (bI false) rfl ?_
  exact mg_zret C (bI_nar _) ⟨rfl, rfl⟩ dX12_in_15
set_option maxHeartbeats 4000000 in
set_option maxRecDepth 100000 in
theorem w109_hasTokens (l : Launch) (v : Nat → Int32) (f : Nat → Nat → Int32) (g : Nat → Nat → Int64) (h1 : v 2 = (nI 0)) : mMi l yX12_hasTokens cX12_hasTokens 4 (some .boolean) 1 23 false [.int (nI 1), .int (nI 1)] v f g (fun r_ u_ => r_ = (bI false) ∧ u_ = (upd (upd v 4 (nI 0)) 77 (nI 0), f, g)) := by
  intro D cI cJ cZ a sz
  refine mg_body (by decide +kernel) rfl (Nat.le_of_ble_eq_true rfl) ?_
  intro p e s m args below meth c hsz C
  clear hsz
  generalize va_A (mW cI cJ cZ a v f g) sz = A at C ⊢
  refine mg_lv (lv' := [(0, .ref (a 0)), (1, .int (nI 1)), (2, .int (nI 1))]) rfl ?_
  refine mg_aload_n C (i := 0) rfl 0 rfl dX12_hasTokens_0 ?_
  refine mg_dov C (w12_reads l v f g h1) mCal_reads rfl ⟨by decide, by decide⟩ rfl (Nat.le_of_ble_eq_true rfl) dX12_hasTokens_1 ?_
  refine mg_aload_n C (i := 0) rfl 0 rfl dX12_hasTokens_4 ?_
  refine mg_iconst C (x := nI 0) rfl dX12_hasTokens_5 ?_
  refine mg_put C (k := 77) (by decide) rfl mL_tokened rfl (by decide +kernel) mT_tokened rfl rfl dX12_hasTokens_6 ?_
  refine mg_iconst C (x := nI 0) rfl dX12_hasTokens_9 ?_
  refine mg_istore_n C (i := 3) (lv' := [(3, .int (nI 0)), (0, .ref (a 0)), (1, .int (nI 1)), (2, .int (nI 1))]) rfl (Nat.le_of_ble_eq_true rfl) rfl dX12_hasTokens_10 ?_
  refine mg_iload_n C (i := 3) rfl 0 rfl dX12_hasTokens_11 ?_
  refine mg_aload_n C (i := 0) rfl 1 rfl dX12_hasTokens_12 ?_
  refine mg_getI C (k := 4) (by decide) rfl mL_worded rfl dX12_hasTokens_13 ?_
  refine mg_cast (nI 0) rfl ?_
  refine mg_icmp_geN C (by omega) (by omega) 81 (by decide) dX12_hasTokens_16 (fun c_16 => ?_) (fun c_ => absurd c_ (by omega))
  refine mg_aload_n C (i := 0) rfl 1 rfl dX12_hasTokens_81 ?_
  refine mg_getI C (k := 77) (by decide) rfl mL_tokened rfl dX12_hasTokens_82 ?_
  refine mg_cast (nI 0) rfl ?_
  refine mg_iload_n C (i := 1) rfl 2 rfl dX12_hasTokens_85 ?_
  refine mg_iload_n C (i := 2) rfl 3 rfl dX12_hasTokens_86 ?_
  refine mg_dosi C (w108_in l (upd (upd v 4 (nI 0)) 77 (nI 0)) f g ) mCal_in rfl ⟨by decide, by decide⟩ rfl (Nat.le_of_ble_eq_true rfl) dX12_hasTokens_87 ?_
  exact mg_zret C (bI_nar _) ⟨rfl, rfl⟩ dX12_hasTokens_90
set_option maxHeartbeats 4000000 in
set_option maxRecDepth 100000 in
theorem w110_goes (l : Launch) (v : Nat → Int32) (f : Nat → Nat → Int32) (g : Nat → Nat → Int64) : mMi l yX12_goes cX12_goes 4 (some .boolean) 0 0 false [.int (bI false), .int (nI 0), .int (nI 1)] v f g (fun r_ u_ => r_ = (bI false) ∧ u_ = (upd v 99 (nI 1), f, g)) := by
  intro D cI cJ cZ a sz
  refine mg_body (by decide +kernel) rfl (Nat.le_of_ble_eq_true rfl) ?_
  intro p e s m args below meth c hsz C
  clear hsz
  generalize va_A (mW cI cJ cZ a v f g) sz = A at C ⊢
  refine mg_lv (lv' := [(0, .ref (a 0)), (1, .int (bI false)), (2, .int (nI 0)), (3, .int (nI 1))]) rfl ?_
  refine mg_aload_n C (i := 0) rfl 0 rfl dX12_goes_0 ?_
  refine mg_iload_n C (i := 1) rfl 1 rfl dX12_goes_1 ?_
  refine mg_if_neB C 9 (by decide) dX12_goes_2 (fun c_ => absurd c_ (by decide)) (fun c_2 => ?_)
  refine mg_iconst C (x := nI 1) rfl dX12_goes_5 ?_
  refine mg_goto C 26 (by decide) dX12_goes_6 ?_
  refine mg_put C (k := 99) (by decide) rfl mL_last rfl (by decide +kernel) mT_last rfl rfl dX12_goes_26 ?_
  refine mg_aload_n C (i := 0) rfl 0 rfl dX12_goes_29 ?_
  refine mg_getI C (k := 99) (by decide) rfl mL_last rfl dX12_goes_30 ?_
  refine mg_cast (nI 1) rfl ?_
  refine mg_if_neN C (by omega) 40 (by decide) dX12_goes_33 (fun c_33 => ?_) (fun c_ => absurd c_ (by omega))
  refine mg_iconst C (x := nI 0) rfl dX12_goes_40 ?_
  refine mg_cast (bI false) rfl ?_
  exact mg_zret C (bI_nar _) ⟨rfl, rfl⟩ dX12_goes_41
set_option maxHeartbeats 4000000 in
set_option maxRecDepth 100000 in
theorem w111_term (l : Launch) (v : Nat → Int32) (f : Nat → Nat → Int32) (g : Nat → Nat → Int64) (x1 : Int32) (h1 : x1 < 0) (h2 : v 2 = (nI 0)) : mMi l yX12_term cX12_term 2 (some .int) 2 46 false [.int x1] v f g (fun r_ u_ => r_ = (nI 0) ∧ u_ = (upd (upd (upd v 4 (nI 0)) 77 (nI 0)) 99 (nI 1), f, g)) := by
  intro D cI cJ cZ a sz
  refine mg_body (by decide +kernel) rfl (Nat.le_of_ble_eq_true rfl) ?_
  intro p e s m args below meth c hsz C
  clear hsz
  generalize va_A (mW cI cJ cZ a v f g) sz = A at C ⊢
  refine mg_lv (lv' := [(0, .ref (a 0)), (1, .int x1)]) rfl ?_
  refine mg_aload_n C (i := 0) rfl 0 rfl dX12_term_0 ?_
  refine mg_aload_n C (i := 0) rfl 0 rfl dX12_term_1 ?_
  refine mg_iload_n C (i := 1) rfl 1 rfl dX12_term_2 ?_
  refine mg_doi C (w107_isField l v f g x1 h1) mCal_isField rfl ⟨by decide, by decide⟩ rfl (Nat.le_of_ble_eq_true rfl) dX12_term_3 ?_
  refine mg_aload_n C (i := 0) rfl 0 rfl dX12_term_6 ?_
  refine mg_iconst C (x := nI 1) rfl dX12_term_7 ?_
  refine mg_iconst C (x := nI 1) rfl dX12_term_8 ?_
  refine mg_doi C (w109_hasTokens l v f g h2) mCal_hasTokens rfl ⟨by decide, by decide⟩ rfl (Nat.le_of_ble_eq_true rfl) dX12_term_9 ?_
  refine mg_if_eqB C 26 (by decide) dX12_term_12 (fun c_12 => ?_) (fun c_ => absurd c_ (by decide))
  refine mg_iconst C (x := nI 0) rfl dX12_term_26 ?_
  refine mg_iconst C (x := nI 1) rfl dX12_term_27 ?_
  refine mg_doi C (w110_goes l (upd (upd v 4 (nI 0)) 77 (nI 0)) f g ) mCal_goes rfl ⟨by decide, by decide⟩ rfl (Nat.le_of_ble_eq_true rfl) dX12_term_28 ?_
  refine mg_if_eqB C 45 (by decide) dX12_term_31 (fun c_31 => ?_) (fun c_ => absurd c_ (by decide))
  refine mg_iconst C (x := nI 0) rfl dX12_term_45 ?_
  exact mg_iret C ⟨rfl, rfl⟩ dX12_term_46
set_option maxHeartbeats 4000000 in
set_option maxRecDepth 100000 in
theorem w112_in (l : Launch) (v : Nat → Int32) (f : Nat → Nat → Int32) (g : Nat → Nat → Int64) (n1 : Nat) (h1 : n1 ≤ 1) : mMi l yX12_in cX12_in 3 (some .boolean) 0 0 true [.int (nI n1), .int (nI 0), .int (nI 1)] v f g (fun r_ u_ => r_ = (bI true) ∧ u_ = (v, f, g)) := by
  intro D cI cJ cZ a sz
  refine mg_body (by decide +kernel) rfl (Nat.le_of_ble_eq_true rfl) ?_
  intro p e s m args below meth c hsz C
  clear hsz
  generalize va_A (mW cI cJ cZ a v f g) sz = A at C ⊢
  refine mg_lv (lv' := [(0, .int (nI n1)), (1, .int (nI 0)), (2, .int (nI 1))]) rfl ?_
  refine mg_iload_n C (i := 0) rfl 0 rfl dX12_in_0 ?_
  refine mg_iload_n C (i := 1) rfl 1 rfl dX12_in_1 ?_
  refine mg_icmp_ltN C (by omega) (by omega) 14 (by decide) dX12_in_2 (fun c_ => absurd c_ (by omega)) (fun c_2 => ?_)
  refine mg_iload_n C (i := 0) rfl 0 rfl dX12_in_5 ?_
  refine mg_iload_n C (i := 2) rfl 2 rfl dX12_in_6 ?_
  refine mg_icmp_gtN C (by omega) (by omega) 14 (by decide) dX12_in_7 (fun c_ => absurd c_ (by omega)) (fun c_7 => ?_)
  refine mg_iconst C (x := nI 1) rfl dX12_in_10 ?_
  refine mg_goto C 15 (by decide) dX12_in_11 ?_
  refine mg_cast (bI true) rfl ?_
  exact mg_zret C (bI_nar _) ⟨rfl, rfl⟩ dX12_in_15
set_option maxHeartbeats 4000000 in
set_option maxRecDepth 100000 in
theorem w113_isField (l : Launch) (v : Nat → Int32) (f : Nat → Nat → Int32) (g : Nat → Nat → Int64) (n1 : Nat) (h1 : n1 ≤ 1) : mMi l yX12_isField cX12_isField 2 (some .boolean) 1 22 false [.int (nI n1)] v f g (fun r_ u_ => r_ = (bI true) ∧ u_ = (v, f, g)) := by
  intro D cI cJ cZ a sz
  refine mg_body (by decide +kernel) rfl (Nat.le_of_ble_eq_true rfl) ?_
  intro p e s m args below meth c hsz C
  clear hsz
  generalize va_A (mW cI cJ cZ a v f g) sz = A at C ⊢
  refine mg_lv (lv' := [(0, .ref (a 0)), (1, .int (nI n1))]) rfl ?_
  refine mg_iload_n C (i := 1) rfl 1 rfl dX12_isField_0 ?_
  refine mg_iconst C (x := nI 0) rfl dX12_isField_1 ?_
  refine mg_iconst C (x := nI 1) rfl dX12_isField_2 ?_
  refine mg_dosi C (w112_in l v f g n1 (by omega)) mCal_in rfl ⟨by decide, by decide⟩ rfl (Nat.le_of_ble_eq_true rfl) dX12_isField_3 ?_
  exact mg_zret C (bI_nar _) ⟨rfl, rfl⟩ dX12_isField_6
set_option maxHeartbeats 4000000 in
set_option maxRecDepth 100000 in
theorem w114_goes (l : Launch) (v : Nat → Int32) (f : Nat → Nat → Int32) (g : Nat → Nat → Int64) : mMi l yX12_goes cX12_goes 4 (some .boolean) 0 0 false [.int (bI true), .int (nI 0), .int (nI 1)] v f g (fun r_ u_ => r_ = (bI false) ∧ u_ = (upd v 99 (nI 2), f, g)) := by
  intro D cI cJ cZ a sz
  refine mg_body (by decide +kernel) rfl (Nat.le_of_ble_eq_true rfl) ?_
  intro p e s m args below meth c hsz C
  clear hsz
  generalize va_A (mW cI cJ cZ a v f g) sz = A at C ⊢
  refine mg_lv (lv' := [(0, .ref (a 0)), (1, .int (bI true)), (2, .int (nI 0)), (3, .int (nI 1))]) rfl ?_
  refine mg_aload_n C (i := 0) rfl 0 rfl dX12_goes_0 ?_
  refine mg_iload_n C (i := 1) rfl 1 rfl dX12_goes_1 ?_
  refine mg_if_neB C 9 (by decide) dX12_goes_2 (fun c_2 => ?_) (fun c_ => absurd c_ (by decide))
  refine mg_iload_n C (i := 2) rfl 2 rfl dX12_goes_9 ?_
  refine mg_if_neN C (by omega) 17 (by decide) dX12_goes_10 (fun c_ => absurd c_ (by omega)) (fun c_10 => ?_)
  refine mg_iconst C (x := nI 2) rfl dX12_goes_13 ?_
  refine mg_goto C 26 (by decide) dX12_goes_14 ?_
  refine mg_put C (k := 99) (by decide) rfl mL_last rfl (by decide +kernel) mT_last rfl rfl dX12_goes_26 ?_
  refine mg_aload_n C (i := 0) rfl 0 rfl dX12_goes_29 ?_
  refine mg_getI C (k := 99) (by decide) rfl mL_last rfl dX12_goes_30 ?_
  refine mg_cast (nI 2) rfl ?_
  refine mg_if_neN C (by omega) 40 (by decide) dX12_goes_33 (fun c_33 => ?_) (fun c_ => absurd c_ (by omega))
  refine mg_iconst C (x := nI 0) rfl dX12_goes_40 ?_
  refine mg_cast (bI false) rfl ?_
  exact mg_zret C (bI_nar _) ⟨rfl, rfl⟩ dX12_goes_41
set_option maxHeartbeats 4000000 in
set_option maxRecDepth 100000 in
theorem w115_term (l : Launch) (v : Nat → Int32) (f : Nat → Nat → Int32) (g : Nat → Nat → Int64) (n1 : Nat) (h1 : n1 ≤ 1) (h2 : v 2 = (nI 0)) : mMi l yX12_term cX12_term 2 (some .int) 2 46 false [.int (nI n1)] v f g (fun r_ u_ => r_ = (nI 0) ∧ u_ = (upd (upd (upd v 4 (nI 0)) 77 (nI 0)) 99 (nI 2), f, g)) := by
  intro D cI cJ cZ a sz
  refine mg_body (by decide +kernel) rfl (Nat.le_of_ble_eq_true rfl) ?_
  intro p e s m args below meth c hsz C
  clear hsz
  generalize va_A (mW cI cJ cZ a v f g) sz = A at C ⊢
  refine mg_lv (lv' := [(0, .ref (a 0)), (1, .int (nI n1))]) rfl ?_
  refine mg_aload_n C (i := 0) rfl 0 rfl dX12_term_0 ?_
  refine mg_aload_n C (i := 0) rfl 0 rfl dX12_term_1 ?_
  refine mg_iload_n C (i := 1) rfl 1 rfl dX12_term_2 ?_
  refine mg_doi C (w113_isField l v f g n1 (by omega)) mCal_isField rfl ⟨by decide, by decide⟩ rfl (Nat.le_of_ble_eq_true rfl) dX12_term_3 ?_
  refine mg_aload_n C (i := 0) rfl 0 rfl dX12_term_6 ?_
  refine mg_iconst C (x := nI 1) rfl dX12_term_7 ?_
  refine mg_iconst C (x := nI 1) rfl dX12_term_8 ?_
  refine mg_doi C (w109_hasTokens l v f g h2) mCal_hasTokens rfl ⟨by decide, by decide⟩ rfl (Nat.le_of_ble_eq_true rfl) dX12_term_9 ?_
  refine mg_if_eqB C 26 (by decide) dX12_term_12 (fun c_12 => ?_) (fun c_ => absurd c_ (by decide))
  refine mg_iconst C (x := nI 0) rfl dX12_term_26 ?_
  refine mg_iconst C (x := nI 1) rfl dX12_term_27 ?_
  refine mg_doi C (w114_goes l (upd (upd v 4 (nI 0)) 77 (nI 0)) f g ) mCal_goes rfl ⟨by decide, by decide⟩ rfl (Nat.le_of_ble_eq_true rfl) dX12_term_28 ?_
  refine mg_if_eqB C 45 (by decide) dX12_term_31 (fun c_31 => ?_) (fun c_ => absurd c_ (by decide))
  refine mg_iconst C (x := nI 0) rfl dX12_term_45 ?_
  exact mg_iret C ⟨rfl, rfl⟩ dX12_term_46
set_option maxHeartbeats 4000000 in
set_option maxRecDepth 100000 in
theorem w116_thrown (l : Launch) (v : Nat → Int32) (f : Nat → Nat → Int32) (g : Nat → Nat → Int64) (h1 : v 99 = (nI 2)) : mMi l yX12_thrown cX12_thrown 1 (some .int) 0 0 false [] v f g (fun r_ u_ => r_ = (nI 2) ∧ u_ = (v, f, g)) := by
  intro D cI cJ cZ a sz
  refine mg_body (by decide +kernel) rfl (Nat.le_of_ble_eq_true rfl) ?_
  intro p e s m args below meth c hsz C
  clear hsz
  generalize va_A (mW cI cJ cZ a v f g) sz = A at C ⊢
  refine mg_lv (lv' := [(0, .ref (a 0))]) rfl ?_
  refine mg_aload_n C (i := 0) rfl 0 rfl dX12_thrown_0 ?_
  refine mg_getI C (k := 99) (by decide) rfl mL_last rfl dX12_thrown_1 ?_
  refine mg_cast (nI 2) h1 ?_
  exact mg_iret C ⟨rfl, rfl⟩ dX12_thrown_4
set_option maxHeartbeats 4000000 in
set_option maxRecDepth 100000 in
theorem w117_isField (l : Launch) (v : Nat → Int32) (f : Nat → Nat → Int32) (g : Nat → Nat → Int64) (n1 : Nat) (h1 : 2 ≤ n1) (h2 : n1 ≤ 2147483647) : mMi l yX12_isField cX12_isField 2 (some .boolean) 1 22 false [.int (nI n1)] v f g (fun r_ u_ => r_ = (bI false) ∧ u_ = (v, f, g)) := by
  intro D cI cJ cZ a sz
  refine mg_body (by decide +kernel) rfl (Nat.le_of_ble_eq_true rfl) ?_
  intro p e s m args below meth c hsz C
  clear hsz
  generalize va_A (mW cI cJ cZ a v f g) sz = A at C ⊢
  refine mg_lv (lv' := [(0, .ref (a 0)), (1, .int (nI n1))]) rfl ?_
  refine mg_iload_n C (i := 1) rfl 1 rfl dX12_isField_0 ?_
  refine mg_iconst C (x := nI 0) rfl dX12_isField_1 ?_
  refine mg_iconst C (x := nI 1) rfl dX12_isField_2 ?_
  refine mg_dosi C (w22_in l v f g n1 (by omega) (by omega)) mCal_in rfl ⟨by decide, by decide⟩ rfl (Nat.le_of_ble_eq_true rfl) dX12_isField_3 ?_
  exact mg_zret C (bI_nar _) ⟨rfl, rfl⟩ dX12_isField_6
set_option maxHeartbeats 4000000 in
set_option maxRecDepth 100000 in
theorem w118_term (l : Launch) (v : Nat → Int32) (f : Nat → Nat → Int32) (g : Nat → Nat → Int64) (n1 : Nat) (h1 : 2 ≤ n1) (h2 : n1 ≤ 2147483647) (h3 : v 2 = (nI 0)) : mMi l yX12_term cX12_term 2 (some .int) 2 46 false [.int (nI n1)] v f g (fun r_ u_ => r_ = (nI 0) ∧ u_ = (upd (upd (upd v 4 (nI 0)) 77 (nI 0)) 99 (nI 1), f, g)) := by
  intro D cI cJ cZ a sz
  refine mg_body (by decide +kernel) rfl (Nat.le_of_ble_eq_true rfl) ?_
  intro p e s m args below meth c hsz C
  clear hsz
  generalize va_A (mW cI cJ cZ a v f g) sz = A at C ⊢
  refine mg_lv (lv' := [(0, .ref (a 0)), (1, .int (nI n1))]) rfl ?_
  refine mg_aload_n C (i := 0) rfl 0 rfl dX12_term_0 ?_
  refine mg_aload_n C (i := 0) rfl 0 rfl dX12_term_1 ?_
  refine mg_iload_n C (i := 1) rfl 1 rfl dX12_term_2 ?_
  refine mg_doi C (w117_isField l v f g n1 (by omega) (by omega)) mCal_isField rfl ⟨by decide, by decide⟩ rfl (Nat.le_of_ble_eq_true rfl) dX12_term_3 ?_
  refine mg_aload_n C (i := 0) rfl 0 rfl dX12_term_6 ?_
  refine mg_iconst C (x := nI 1) rfl dX12_term_7 ?_
  refine mg_iconst C (x := nI 1) rfl dX12_term_8 ?_
  refine mg_doi C (w109_hasTokens l v f g h3) mCal_hasTokens rfl ⟨by decide, by decide⟩ rfl (Nat.le_of_ble_eq_true rfl) dX12_term_9 ?_
  refine mg_if_eqB C 26 (by decide) dX12_term_12 (fun c_12 => ?_) (fun c_ => absurd c_ (by decide))
  refine mg_iconst C (x := nI 0) rfl dX12_term_26 ?_
  refine mg_iconst C (x := nI 1) rfl dX12_term_27 ?_
  refine mg_doi C (w110_goes l (upd (upd v 4 (nI 0)) 77 (nI 0)) f g ) mCal_goes rfl ⟨by decide, by decide⟩ rfl (Nat.le_of_ble_eq_true rfl) dX12_term_28 ?_
  refine mg_if_eqB C 45 (by decide) dX12_term_31 (fun c_31 => ?_) (fun c_ => absurd c_ (by decide))
  refine mg_iconst C (x := nI 0) rfl dX12_term_45 ?_
  exact mg_iret C ⟨rfl, rfl⟩ dX12_term_46
set_option maxHeartbeats 4000000 in
set_option maxRecDepth 100000 in
theorem w119_in (l : Launch) (v : Nat → Int32) (f : Nat → Nat → Int32) (g : Nat → Nat → Int64) (x1 : Int32) (h1 : x1 < 0) : mMi l yX12_in cX12_in 3 (some .boolean) 0 0 true [.int x1, .int (nI 0), .int (nI 20)] v f g (fun r_ u_ => r_ = (bI false) ∧ u_ = (v, f, g)) := by
  intro D cI cJ cZ a sz
  refine mg_body (by decide +kernel) rfl (Nat.le_of_ble_eq_true rfl) ?_
  intro p e s m args below meth c hsz C
  clear hsz
  generalize va_A (mW cI cJ cZ a v f g) sz = A at C ⊢
  refine mg_lv (lv' := [(0, .int x1), (1, .int (nI 0)), (2, .int (nI 20))]) rfl ?_
  refine mg_iload_n C (i := 0) rfl 0 rfl dX12_in_0 ?_
  refine mg_iload_n C (i := 1) rfl 1 rfl dX12_in_1 ?_
  refine mg_icmp_lt C 14 (by decide) dX12_in_2 (fun c_2 => ?_) (fun c_ => absurd (cneg_lt h1 (by omega)) c_)
  refine mg_iconst C (x := nI 0) rfl dX12_in_14 ?_
  refine mg_cast (bI false) rfl ?_
  exact mg_zret C (bI_nar _) ⟨rfl, rfl⟩ dX12_in_15
set_option maxHeartbeats 4000000 in
set_option maxRecDepth 100000 in
theorem w120_in (l : Launch) (v : Nat → Int32) (f : Nat → Nat → Int32) (g : Nat → Nat → Int64) : mMi l yX12_in cX12_in 3 (some .boolean) 0 0 true [.int (nI 0), .int (nI 1), .int (nI 6)] v f g (fun r_ u_ => r_ = (bI false) ∧ u_ = (v, f, g)) := by
  intro D cI cJ cZ a sz
  refine mg_body (by decide +kernel) rfl (Nat.le_of_ble_eq_true rfl) ?_
  intro p e s m args below meth c hsz C
  clear hsz
  generalize va_A (mW cI cJ cZ a v f g) sz = A at C ⊢
  refine mg_lv (lv' := [(0, .int (nI 0)), (1, .int (nI 1)), (2, .int (nI 6))]) rfl ?_
  refine mg_iload_n C (i := 0) rfl 0 rfl dX12_in_0 ?_
  refine mg_iload_n C (i := 1) rfl 1 rfl dX12_in_1 ?_
  refine mg_icmp_ltN C (by omega) (by omega) 14 (by decide) dX12_in_2 (fun c_2 => ?_) (fun c_ => absurd c_ (by omega))
  refine mg_iconst C (x := nI 0) rfl dX12_in_14 ?_
  refine mg_cast (bI false) rfl ?_
  exact mg_zret C (bI_nar _) ⟨rfl, rfl⟩ dX12_in_15
set_option maxHeartbeats 4000000 in
set_option maxRecDepth 100000 in
theorem w121_hasTokens (l : Launch) (v : Nat → Int32) (f : Nat → Nat → Int32) (g : Nat → Nat → Int64) (h1 : v 2 = (nI 0)) : mMi l yX12_hasTokens cX12_hasTokens 4 (some .boolean) 1 23 false [.int (nI 1), .int (nI 6)] v f g (fun r_ u_ => r_ = (bI false) ∧ u_ = (upd (upd v 4 (nI 0)) 77 (nI 0), f, g)) := by
  intro D cI cJ cZ a sz
  refine mg_body (by decide +kernel) rfl (Nat.le_of_ble_eq_true rfl) ?_
  intro p e s m args below meth c hsz C
  clear hsz
  generalize va_A (mW cI cJ cZ a v f g) sz = A at C ⊢
  refine mg_lv (lv' := [(0, .ref (a 0)), (1, .int (nI 1)), (2, .int (nI 6))]) rfl ?_
  refine mg_aload_n C (i := 0) rfl 0 rfl dX12_hasTokens_0 ?_
  refine mg_dov C (w12_reads l v f g h1) mCal_reads rfl ⟨by decide, by decide⟩ rfl (Nat.le_of_ble_eq_true rfl) dX12_hasTokens_1 ?_
  refine mg_aload_n C (i := 0) rfl 0 rfl dX12_hasTokens_4 ?_
  refine mg_iconst C (x := nI 0) rfl dX12_hasTokens_5 ?_
  refine mg_put C (k := 77) (by decide) rfl mL_tokened rfl (by decide +kernel) mT_tokened rfl rfl dX12_hasTokens_6 ?_
  refine mg_iconst C (x := nI 0) rfl dX12_hasTokens_9 ?_
  refine mg_istore_n C (i := 3) (lv' := [(3, .int (nI 0)), (0, .ref (a 0)), (1, .int (nI 1)), (2, .int (nI 6))]) rfl (Nat.le_of_ble_eq_true rfl) rfl dX12_hasTokens_10 ?_
  refine mg_iload_n C (i := 3) rfl 0 rfl dX12_hasTokens_11 ?_
  refine mg_aload_n C (i := 0) rfl 1 rfl dX12_hasTokens_12 ?_
  refine mg_getI C (k := 4) (by decide) rfl mL_worded rfl dX12_hasTokens_13 ?_
  refine mg_cast (nI 0) rfl ?_
  refine mg_icmp_geN C (by omega) (by omega) 81 (by decide) dX12_hasTokens_16 (fun c_16 => ?_) (fun c_ => absurd c_ (by omega))
  refine mg_aload_n C (i := 0) rfl 1 rfl dX12_hasTokens_81 ?_
  refine mg_getI C (k := 77) (by decide) rfl mL_tokened rfl dX12_hasTokens_82 ?_
  refine mg_cast (nI 0) rfl ?_
  refine mg_iload_n C (i := 1) rfl 2 rfl dX12_hasTokens_85 ?_
  refine mg_iload_n C (i := 2) rfl 3 rfl dX12_hasTokens_86 ?_
  refine mg_dosi C (w120_in l (upd (upd v 4 (nI 0)) 77 (nI 0)) f g ) mCal_in rfl ⟨by decide, by decide⟩ rfl (Nat.le_of_ble_eq_true rfl) dX12_hasTokens_87 ?_
  exact mg_zret C (bI_nar _) ⟨rfl, rfl⟩ dX12_hasTokens_90
set_option maxHeartbeats 4000000 in
set_option maxRecDepth 100000 in
theorem w122_goes (l : Launch) (v : Nat → Int32) (f : Nat → Nat → Int32) (g : Nat → Nat → Int64) : mMi l yX12_goes cX12_goes 4 (some .boolean) 0 0 false [.int (bI false), .int (bI false), .int (nI 0)] v f g (fun r_ u_ => r_ = (bI false) ∧ u_ = (upd v 99 (nI 1), f, g)) := by
  intro D cI cJ cZ a sz
  refine mg_body (by decide +kernel) rfl (Nat.le_of_ble_eq_true rfl) ?_
  intro p e s m args below meth c hsz C
  clear hsz
  generalize va_A (mW cI cJ cZ a v f g) sz = A at C ⊢
  refine mg_lv (lv' := [(0, .ref (a 0)), (1, .int (bI false)), (2, .int (bI false)), (3, .int (nI 0))]) rfl ?_
  refine mg_aload_n C (i := 0) rfl 0 rfl dX12_goes_0 ?_
  refine mg_iload_n C (i := 1) rfl 1 rfl dX12_goes_1 ?_
  refine mg_if_neB C 9 (by decide) dX12_goes_2 (fun c_ => absurd c_ (by decide)) (fun c_2 => ?_)
  refine mg_iconst C (x := nI 1) rfl dX12_goes_5 ?_
  refine mg_goto C 26 (by decide) dX12_goes_6 ?_
  refine mg_put C (k := 99) (by decide) rfl mL_last rfl (by decide +kernel) mT_last rfl rfl dX12_goes_26 ?_
  refine mg_aload_n C (i := 0) rfl 0 rfl dX12_goes_29 ?_
  refine mg_getI C (k := 99) (by decide) rfl mL_last rfl dX12_goes_30 ?_
  refine mg_cast (nI 1) rfl ?_
  refine mg_if_neN C (by omega) 40 (by decide) dX12_goes_33 (fun c_33 => ?_) (fun c_ => absurd c_ (by omega))
  refine mg_iconst C (x := nI 0) rfl dX12_goes_40 ?_
  refine mg_cast (bI false) rfl ?_
  exact mg_zret C (bI_nar _) ⟨rfl, rfl⟩ dX12_goes_41
set_option maxHeartbeats 4000000 in
set_option maxRecDepth 100000 in
theorem w123_phrase (l : Launch) (v : Nat → Int32) (f : Nat → Nat → Int32) (g : Nat → Nat → Int64) (x1 x2 : Int32) (h1 : x1 < 0) (h2 : x2 < 0) (h3 : v 2 = (nI 0)) : mMi l yX12_phrase cX12_phrase 3 (some .int) 2 46 false [.int x1, .int x2] v f g (fun r_ u_ => r_ = (nI 0) ∧ u_ = (upd (upd (upd v 4 (nI 0)) 77 (nI 0)) 99 (nI 1), f, g)) := by
  intro D cI cJ cZ a sz
  refine mg_body (by decide +kernel) rfl (Nat.le_of_ble_eq_true rfl) ?_
  intro p e s m args below meth c hsz C
  clear hsz
  generalize va_A (mW cI cJ cZ a v f g) sz = A at C ⊢
  refine mg_lv (lv' := [(0, .ref (a 0)), (1, .int x1), (2, .int x2)]) rfl ?_
  refine mg_aload_n C (i := 0) rfl 0 rfl dX12_phrase_0 ?_
  refine mg_aload_n C (i := 0) rfl 0 rfl dX12_phrase_1 ?_
  refine mg_iload_n C (i := 1) rfl 1 rfl dX12_phrase_2 ?_
  refine mg_doi C (w107_isField l v f g x1 h1) mCal_isField rfl ⟨by decide, by decide⟩ rfl (Nat.le_of_ble_eq_true rfl) dX12_phrase_3 ?_
  refine mg_iload_n C (i := 2) rfl 2 rfl dX12_phrase_6 ?_
  refine mg_iconst C (x := nI 0) rfl dX12_phrase_7 ?_
  refine mg_bipush C (x := nI 20) rfl dX12_phrase_8 ?_
  refine mg_dosi C (w119_in l v f g x2 h2) mCal_in rfl ⟨by decide, by decide⟩ rfl (Nat.le_of_ble_eq_true rfl) dX12_phrase_10 ?_
  refine mg_aload_n C (i := 0) rfl 0 rfl dX12_phrase_13 ?_
  refine mg_iconst C (x := nI 1) rfl dX12_phrase_14 ?_
  refine mg_bipush C (x := nI 6) rfl dX12_phrase_15 ?_
  refine mg_doi C (w121_hasTokens l v f g h3) mCal_hasTokens rfl ⟨by decide, by decide⟩ rfl (Nat.le_of_ble_eq_true rfl) dX12_phrase_17 ?_
  refine mg_if_eqB C 34 (by decide) dX12_phrase_20 (fun c_20 => ?_) (fun c_ => absurd c_ (by decide))
  refine mg_iconst C (x := nI 0) rfl dX12_phrase_34 ?_
  refine mg_doi C (w122_goes l (upd (upd v 4 (nI 0)) 77 (nI 0)) f g ) mCal_goes rfl ⟨by decide, by decide⟩ rfl (Nat.le_of_ble_eq_true rfl) dX12_phrase_35 ?_
  refine mg_if_eqB C 52 (by decide) dX12_phrase_38 (fun c_38 => ?_) (fun c_ => absurd c_ (by decide))
  refine mg_iconst C (x := nI 0) rfl dX12_phrase_52 ?_
  exact mg_iret C ⟨rfl, rfl⟩ dX12_phrase_53
set_option maxHeartbeats 4000000 in
set_option maxRecDepth 100000 in
theorem w124_in (l : Launch) (v : Nat → Int32) (f : Nat → Nat → Int32) (g : Nat → Nat → Int64) (n1 : Nat) (h1 : n1 ≤ 20) : mMi l yX12_in cX12_in 3 (some .boolean) 0 0 true [.int (nI n1), .int (nI 0), .int (nI 20)] v f g (fun r_ u_ => r_ = (bI true) ∧ u_ = (v, f, g)) := by
  intro D cI cJ cZ a sz
  refine mg_body (by decide +kernel) rfl (Nat.le_of_ble_eq_true rfl) ?_
  intro p e s m args below meth c hsz C
  clear hsz
  generalize va_A (mW cI cJ cZ a v f g) sz = A at C ⊢
  refine mg_lv (lv' := [(0, .int (nI n1)), (1, .int (nI 0)), (2, .int (nI 20))]) rfl ?_
  refine mg_iload_n C (i := 0) rfl 0 rfl dX12_in_0 ?_
  refine mg_iload_n C (i := 1) rfl 1 rfl dX12_in_1 ?_
  refine mg_icmp_ltN C (by omega) (by omega) 14 (by decide) dX12_in_2 (fun c_ => absurd c_ (by omega)) (fun c_2 => ?_)
  refine mg_iload_n C (i := 0) rfl 0 rfl dX12_in_5 ?_
  refine mg_iload_n C (i := 2) rfl 2 rfl dX12_in_6 ?_
  refine mg_icmp_gtN C (by omega) (by omega) 14 (by decide) dX12_in_7 (fun c_ => absurd c_ (by omega)) (fun c_7 => ?_)
  refine mg_iconst C (x := nI 1) rfl dX12_in_10 ?_
  refine mg_goto C 15 (by decide) dX12_in_11 ?_
  refine mg_cast (bI true) rfl ?_
  exact mg_zret C (bI_nar _) ⟨rfl, rfl⟩ dX12_in_15
set_option maxHeartbeats 4000000 in
set_option maxRecDepth 100000 in
theorem w125_goes (l : Launch) (v : Nat → Int32) (f : Nat → Nat → Int32) (g : Nat → Nat → Int64) : mMi l yX12_goes cX12_goes 4 (some .boolean) 0 0 false [.int (bI false), .int (bI true), .int (nI 0)] v f g (fun r_ u_ => r_ = (bI false) ∧ u_ = (upd v 99 (nI 1), f, g)) := by
  intro D cI cJ cZ a sz
  refine mg_body (by decide +kernel) rfl (Nat.le_of_ble_eq_true rfl) ?_
  intro p e s m args below meth c hsz C
  clear hsz
  generalize va_A (mW cI cJ cZ a v f g) sz = A at C ⊢
  refine mg_lv (lv' := [(0, .ref (a 0)), (1, .int (bI false)), (2, .int (bI true)), (3, .int (nI 0))]) rfl ?_
  refine mg_aload_n C (i := 0) rfl 0 rfl dX12_goes_0 ?_
  refine mg_iload_n C (i := 1) rfl 1 rfl dX12_goes_1 ?_
  refine mg_if_neB C 9 (by decide) dX12_goes_2 (fun c_ => absurd c_ (by decide)) (fun c_2 => ?_)
  refine mg_iconst C (x := nI 1) rfl dX12_goes_5 ?_
  refine mg_goto C 26 (by decide) dX12_goes_6 ?_
  refine mg_put C (k := 99) (by decide) rfl mL_last rfl (by decide +kernel) mT_last rfl rfl dX12_goes_26 ?_
  refine mg_aload_n C (i := 0) rfl 0 rfl dX12_goes_29 ?_
  refine mg_getI C (k := 99) (by decide) rfl mL_last rfl dX12_goes_30 ?_
  refine mg_cast (nI 1) rfl ?_
  refine mg_if_neN C (by omega) 40 (by decide) dX12_goes_33 (fun c_33 => ?_) (fun c_ => absurd c_ (by omega))
  refine mg_iconst C (x := nI 0) rfl dX12_goes_40 ?_
  refine mg_cast (bI false) rfl ?_
  exact mg_zret C (bI_nar _) ⟨rfl, rfl⟩ dX12_goes_41
set_option maxHeartbeats 4000000 in
set_option maxRecDepth 100000 in
theorem w126_phrase (l : Launch) (v : Nat → Int32) (f : Nat → Nat → Int32) (g : Nat → Nat → Int64) (n1 : Nat) (x1 : Int32) (h1 : x1 < 0) (h2 : n1 ≤ 20) (h3 : v 2 = (nI 0)) : mMi l yX12_phrase cX12_phrase 3 (some .int) 2 46 false [.int x1, .int (nI n1)] v f g (fun r_ u_ => r_ = (nI 0) ∧ u_ = (upd (upd (upd v 4 (nI 0)) 77 (nI 0)) 99 (nI 1), f, g)) := by
  intro D cI cJ cZ a sz
  refine mg_body (by decide +kernel) rfl (Nat.le_of_ble_eq_true rfl) ?_
  intro p e s m args below meth c hsz C
  clear hsz
  generalize va_A (mW cI cJ cZ a v f g) sz = A at C ⊢
  refine mg_lv (lv' := [(0, .ref (a 0)), (1, .int x1), (2, .int (nI n1))]) rfl ?_
  refine mg_aload_n C (i := 0) rfl 0 rfl dX12_phrase_0 ?_
  refine mg_aload_n C (i := 0) rfl 0 rfl dX12_phrase_1 ?_
  refine mg_iload_n C (i := 1) rfl 1 rfl dX12_phrase_2 ?_
  refine mg_doi C (w107_isField l v f g x1 h1) mCal_isField rfl ⟨by decide, by decide⟩ rfl (Nat.le_of_ble_eq_true rfl) dX12_phrase_3 ?_
  refine mg_iload_n C (i := 2) rfl 2 rfl dX12_phrase_6 ?_
  refine mg_iconst C (x := nI 0) rfl dX12_phrase_7 ?_
  refine mg_bipush C (x := nI 20) rfl dX12_phrase_8 ?_
  refine mg_dosi C (w124_in l v f g n1 (by omega)) mCal_in rfl ⟨by decide, by decide⟩ rfl (Nat.le_of_ble_eq_true rfl) dX12_phrase_10 ?_
  refine mg_aload_n C (i := 0) rfl 0 rfl dX12_phrase_13 ?_
  refine mg_iconst C (x := nI 1) rfl dX12_phrase_14 ?_
  refine mg_bipush C (x := nI 6) rfl dX12_phrase_15 ?_
  refine mg_doi C (w121_hasTokens l v f g h3) mCal_hasTokens rfl ⟨by decide, by decide⟩ rfl (Nat.le_of_ble_eq_true rfl) dX12_phrase_17 ?_
  refine mg_if_eqB C 34 (by decide) dX12_phrase_20 (fun c_20 => ?_) (fun c_ => absurd c_ (by decide))
  refine mg_iconst C (x := nI 0) rfl dX12_phrase_34 ?_
  refine mg_doi C (w125_goes l (upd (upd v 4 (nI 0)) 77 (nI 0)) f g ) mCal_goes rfl ⟨by decide, by decide⟩ rfl (Nat.le_of_ble_eq_true rfl) dX12_phrase_35 ?_
  refine mg_if_eqB C 52 (by decide) dX12_phrase_38 (fun c_38 => ?_) (fun c_ => absurd c_ (by decide))
  refine mg_iconst C (x := nI 0) rfl dX12_phrase_52 ?_
  exact mg_iret C ⟨rfl, rfl⟩ dX12_phrase_53
set_option maxHeartbeats 4000000 in
set_option maxRecDepth 100000 in
theorem w127_in (l : Launch) (v : Nat → Int32) (f : Nat → Nat → Int32) (g : Nat → Nat → Int64) (n1 : Nat) (h1 : 21 ≤ n1) (h2 : n1 ≤ 2147483647) : mMi l yX12_in cX12_in 3 (some .boolean) 0 0 true [.int (nI n1), .int (nI 0), .int (nI 20)] v f g (fun r_ u_ => r_ = (bI false) ∧ u_ = (v, f, g)) := by
  intro D cI cJ cZ a sz
  refine mg_body (by decide +kernel) rfl (Nat.le_of_ble_eq_true rfl) ?_
  intro p e s m args below meth c hsz C
  clear hsz
  generalize va_A (mW cI cJ cZ a v f g) sz = A at C ⊢
  refine mg_lv (lv' := [(0, .int (nI n1)), (1, .int (nI 0)), (2, .int (nI 20))]) rfl ?_
  refine mg_iload_n C (i := 0) rfl 0 rfl dX12_in_0 ?_
  refine mg_iload_n C (i := 1) rfl 1 rfl dX12_in_1 ?_
  refine mg_icmp_ltN C (by omega) (by omega) 14 (by decide) dX12_in_2 (fun c_ => absurd c_ (by omega)) (fun c_2 => ?_)
  refine mg_iload_n C (i := 0) rfl 0 rfl dX12_in_5 ?_
  refine mg_iload_n C (i := 2) rfl 2 rfl dX12_in_6 ?_
  refine mg_icmp_gtN C (by omega) (by omega) 14 (by decide) dX12_in_7 (fun c_7 => ?_) (fun c_ => absurd c_ (by omega))
  refine mg_iconst C (x := nI 0) rfl dX12_in_14 ?_
  refine mg_cast (bI false) rfl ?_
  exact mg_zret C (bI_nar _) ⟨rfl, rfl⟩ dX12_in_15
set_option maxHeartbeats 4000000 in
set_option maxRecDepth 100000 in
theorem w128_phrase (l : Launch) (v : Nat → Int32) (f : Nat → Nat → Int32) (g : Nat → Nat → Int64) (n1 : Nat) (x1 : Int32) (h1 : x1 < 0) (h2 : 21 ≤ n1) (h3 : n1 ≤ 2147483647) (h4 : v 2 = (nI 0)) : mMi l yX12_phrase cX12_phrase 3 (some .int) 2 46 false [.int x1, .int (nI n1)] v f g (fun r_ u_ => r_ = (nI 0) ∧ u_ = (upd (upd (upd v 4 (nI 0)) 77 (nI 0)) 99 (nI 1), f, g)) := by
  intro D cI cJ cZ a sz
  refine mg_body (by decide +kernel) rfl (Nat.le_of_ble_eq_true rfl) ?_
  intro p e s m args below meth c hsz C
  clear hsz
  generalize va_A (mW cI cJ cZ a v f g) sz = A at C ⊢
  refine mg_lv (lv' := [(0, .ref (a 0)), (1, .int x1), (2, .int (nI n1))]) rfl ?_
  refine mg_aload_n C (i := 0) rfl 0 rfl dX12_phrase_0 ?_
  refine mg_aload_n C (i := 0) rfl 0 rfl dX12_phrase_1 ?_
  refine mg_iload_n C (i := 1) rfl 1 rfl dX12_phrase_2 ?_
  refine mg_doi C (w107_isField l v f g x1 h1) mCal_isField rfl ⟨by decide, by decide⟩ rfl (Nat.le_of_ble_eq_true rfl) dX12_phrase_3 ?_
  refine mg_iload_n C (i := 2) rfl 2 rfl dX12_phrase_6 ?_
  refine mg_iconst C (x := nI 0) rfl dX12_phrase_7 ?_
  refine mg_bipush C (x := nI 20) rfl dX12_phrase_8 ?_
  refine mg_dosi C (w127_in l v f g n1 (by omega) (by omega)) mCal_in rfl ⟨by decide, by decide⟩ rfl (Nat.le_of_ble_eq_true rfl) dX12_phrase_10 ?_
  refine mg_aload_n C (i := 0) rfl 0 rfl dX12_phrase_13 ?_
  refine mg_iconst C (x := nI 1) rfl dX12_phrase_14 ?_
  refine mg_bipush C (x := nI 6) rfl dX12_phrase_15 ?_
  refine mg_doi C (w121_hasTokens l v f g h4) mCal_hasTokens rfl ⟨by decide, by decide⟩ rfl (Nat.le_of_ble_eq_true rfl) dX12_phrase_17 ?_
  refine mg_if_eqB C 34 (by decide) dX12_phrase_20 (fun c_20 => ?_) (fun c_ => absurd c_ (by decide))
  refine mg_iconst C (x := nI 0) rfl dX12_phrase_34 ?_
  refine mg_doi C (w122_goes l (upd (upd v 4 (nI 0)) 77 (nI 0)) f g ) mCal_goes rfl ⟨by decide, by decide⟩ rfl (Nat.le_of_ble_eq_true rfl) dX12_phrase_35 ?_
  refine mg_if_eqB C 52 (by decide) dX12_phrase_38 (fun c_38 => ?_) (fun c_ => absurd c_ (by decide))
  refine mg_iconst C (x := nI 0) rfl dX12_phrase_52 ?_
  exact mg_iret C ⟨rfl, rfl⟩ dX12_phrase_53
set_option maxHeartbeats 4000000 in
set_option maxRecDepth 100000 in
theorem w129_goes (l : Launch) (v : Nat → Int32) (f : Nat → Nat → Int32) (g : Nat → Nat → Int64) : mMi l yX12_goes cX12_goes 4 (some .boolean) 0 0 false [.int (bI true), .int (bI false), .int (nI 0)] v f g (fun r_ u_ => r_ = (bI false) ∧ u_ = (upd v 99 (nI 2), f, g)) := by
  intro D cI cJ cZ a sz
  refine mg_body (by decide +kernel) rfl (Nat.le_of_ble_eq_true rfl) ?_
  intro p e s m args below meth c hsz C
  clear hsz
  generalize va_A (mW cI cJ cZ a v f g) sz = A at C ⊢
  refine mg_lv (lv' := [(0, .ref (a 0)), (1, .int (bI true)), (2, .int (bI false)), (3, .int (nI 0))]) rfl ?_
  refine mg_aload_n C (i := 0) rfl 0 rfl dX12_goes_0 ?_
  refine mg_iload_n C (i := 1) rfl 1 rfl dX12_goes_1 ?_
  refine mg_if_neB C 9 (by decide) dX12_goes_2 (fun c_2 => ?_) (fun c_ => absurd c_ (by decide))
  refine mg_iload_n C (i := 2) rfl 2 rfl dX12_goes_9 ?_
  refine mg_if_neB C 17 (by decide) dX12_goes_10 (fun c_ => absurd c_ (by decide)) (fun c_10 => ?_)
  refine mg_iconst C (x := nI 2) rfl dX12_goes_13 ?_
  refine mg_goto C 26 (by decide) dX12_goes_14 ?_
  refine mg_put C (k := 99) (by decide) rfl mL_last rfl (by decide +kernel) mT_last rfl rfl dX12_goes_26 ?_
  refine mg_aload_n C (i := 0) rfl 0 rfl dX12_goes_29 ?_
  refine mg_getI C (k := 99) (by decide) rfl mL_last rfl dX12_goes_30 ?_
  refine mg_cast (nI 2) rfl ?_
  refine mg_if_neN C (by omega) 40 (by decide) dX12_goes_33 (fun c_33 => ?_) (fun c_ => absurd c_ (by omega))
  refine mg_iconst C (x := nI 0) rfl dX12_goes_40 ?_
  refine mg_cast (bI false) rfl ?_
  exact mg_zret C (bI_nar _) ⟨rfl, rfl⟩ dX12_goes_41
set_option maxHeartbeats 4000000 in
set_option maxRecDepth 100000 in
theorem w130_phrase (l : Launch) (v : Nat → Int32) (f : Nat → Nat → Int32) (g : Nat → Nat → Int64) (n1 : Nat) (x1 : Int32) (h1 : n1 ≤ 1) (h2 : x1 < 0) (h3 : v 2 = (nI 0)) : mMi l yX12_phrase cX12_phrase 3 (some .int) 2 46 false [.int (nI n1), .int x1] v f g (fun r_ u_ => r_ = (nI 0) ∧ u_ = (upd (upd (upd v 4 (nI 0)) 77 (nI 0)) 99 (nI 2), f, g)) := by
  intro D cI cJ cZ a sz
  refine mg_body (by decide +kernel) rfl (Nat.le_of_ble_eq_true rfl) ?_
  intro p e s m args below meth c hsz C
  clear hsz
  generalize va_A (mW cI cJ cZ a v f g) sz = A at C ⊢
  refine mg_lv (lv' := [(0, .ref (a 0)), (1, .int (nI n1)), (2, .int x1)]) rfl ?_
  refine mg_aload_n C (i := 0) rfl 0 rfl dX12_phrase_0 ?_
  refine mg_aload_n C (i := 0) rfl 0 rfl dX12_phrase_1 ?_
  refine mg_iload_n C (i := 1) rfl 1 rfl dX12_phrase_2 ?_
  refine mg_doi C (w113_isField l v f g n1 (by omega)) mCal_isField rfl ⟨by decide, by decide⟩ rfl (Nat.le_of_ble_eq_true rfl) dX12_phrase_3 ?_
  refine mg_iload_n C (i := 2) rfl 2 rfl dX12_phrase_6 ?_
  refine mg_iconst C (x := nI 0) rfl dX12_phrase_7 ?_
  refine mg_bipush C (x := nI 20) rfl dX12_phrase_8 ?_
  refine mg_dosi C (w119_in l v f g x1 h2) mCal_in rfl ⟨by decide, by decide⟩ rfl (Nat.le_of_ble_eq_true rfl) dX12_phrase_10 ?_
  refine mg_aload_n C (i := 0) rfl 0 rfl dX12_phrase_13 ?_
  refine mg_iconst C (x := nI 1) rfl dX12_phrase_14 ?_
  refine mg_bipush C (x := nI 6) rfl dX12_phrase_15 ?_
  refine mg_doi C (w121_hasTokens l v f g h3) mCal_hasTokens rfl ⟨by decide, by decide⟩ rfl (Nat.le_of_ble_eq_true rfl) dX12_phrase_17 ?_
  refine mg_if_eqB C 34 (by decide) dX12_phrase_20 (fun c_20 => ?_) (fun c_ => absurd c_ (by decide))
  refine mg_iconst C (x := nI 0) rfl dX12_phrase_34 ?_
  refine mg_doi C (w129_goes l (upd (upd v 4 (nI 0)) 77 (nI 0)) f g ) mCal_goes rfl ⟨by decide, by decide⟩ rfl (Nat.le_of_ble_eq_true rfl) dX12_phrase_35 ?_
  refine mg_if_eqB C 52 (by decide) dX12_phrase_38 (fun c_38 => ?_) (fun c_ => absurd c_ (by decide))
  refine mg_iconst C (x := nI 0) rfl dX12_phrase_52 ?_
  exact mg_iret C ⟨rfl, rfl⟩ dX12_phrase_53
set_option maxHeartbeats 4000000 in
set_option maxRecDepth 100000 in
theorem w131_goes (l : Launch) (v : Nat → Int32) (f : Nat → Nat → Int32) (g : Nat → Nat → Int64) : mMi l yX12_goes cX12_goes 4 (some .boolean) 0 0 false [.int (bI true), .int (bI true), .int (nI 0)] v f g (fun r_ u_ => r_ = (bI false) ∧ u_ = (upd v 99 (nI 3), f, g)) := by
  intro D cI cJ cZ a sz
  refine mg_body (by decide +kernel) rfl (Nat.le_of_ble_eq_true rfl) ?_
  intro p e s m args below meth c hsz C
  clear hsz
  generalize va_A (mW cI cJ cZ a v f g) sz = A at C ⊢
  refine mg_lv (lv' := [(0, .ref (a 0)), (1, .int (bI true)), (2, .int (bI true)), (3, .int (nI 0))]) rfl ?_
  refine mg_aload_n C (i := 0) rfl 0 rfl dX12_goes_0 ?_
  refine mg_iload_n C (i := 1) rfl 1 rfl dX12_goes_1 ?_
  refine mg_if_neB C 9 (by decide) dX12_goes_2 (fun c_2 => ?_) (fun c_ => absurd c_ (by decide))
  refine mg_iload_n C (i := 2) rfl 2 rfl dX12_goes_9 ?_
  refine mg_if_neB C 17 (by decide) dX12_goes_10 (fun c_10 => ?_) (fun c_ => absurd c_ (by decide))
  refine mg_iload_n C (i := 3) rfl 3 rfl dX12_goes_17 ?_
  refine mg_if_eqN C (by omega) 25 (by decide) dX12_goes_18 (fun c_18 => ?_) (fun c_ => absurd c_ (by omega))
  refine mg_iconst C (x := nI 3) rfl dX12_goes_25 ?_
  refine mg_put C (k := 99) (by decide) rfl mL_last rfl (by decide +kernel) mT_last rfl rfl dX12_goes_26 ?_
  refine mg_aload_n C (i := 0) rfl 0 rfl dX12_goes_29 ?_
  refine mg_getI C (k := 99) (by decide) rfl mL_last rfl dX12_goes_30 ?_
  refine mg_cast (nI 3) rfl ?_
  refine mg_if_neN C (by omega) 40 (by decide) dX12_goes_33 (fun c_33 => ?_) (fun c_ => absurd c_ (by omega))
  refine mg_iconst C (x := nI 0) rfl dX12_goes_40 ?_
  refine mg_cast (bI false) rfl ?_
  exact mg_zret C (bI_nar _) ⟨rfl, rfl⟩ dX12_goes_41
set_option maxHeartbeats 4000000 in
set_option maxRecDepth 100000 in
theorem w132_phrase (l : Launch) (v : Nat → Int32) (f : Nat → Nat → Int32) (g : Nat → Nat → Int64) (n1 n2 : Nat) (h1 : n1 ≤ 1) (h2 : n2 ≤ 20) (h3 : v 2 = (nI 0)) : mMi l yX12_phrase cX12_phrase 3 (some .int) 2 46 false [.int (nI n1), .int (nI n2)] v f g (fun r_ u_ => r_ = (nI 0) ∧ u_ = (upd (upd (upd v 4 (nI 0)) 77 (nI 0)) 99 (nI 3), f, g)) := by
  intro D cI cJ cZ a sz
  refine mg_body (by decide +kernel) rfl (Nat.le_of_ble_eq_true rfl) ?_
  intro p e s m args below meth c hsz C
  clear hsz
  generalize va_A (mW cI cJ cZ a v f g) sz = A at C ⊢
  refine mg_lv (lv' := [(0, .ref (a 0)), (1, .int (nI n1)), (2, .int (nI n2))]) rfl ?_
  refine mg_aload_n C (i := 0) rfl 0 rfl dX12_phrase_0 ?_
  refine mg_aload_n C (i := 0) rfl 0 rfl dX12_phrase_1 ?_
  refine mg_iload_n C (i := 1) rfl 1 rfl dX12_phrase_2 ?_
  refine mg_doi C (w113_isField l v f g n1 (by omega)) mCal_isField rfl ⟨by decide, by decide⟩ rfl (Nat.le_of_ble_eq_true rfl) dX12_phrase_3 ?_
  refine mg_iload_n C (i := 2) rfl 2 rfl dX12_phrase_6 ?_
  refine mg_iconst C (x := nI 0) rfl dX12_phrase_7 ?_
  refine mg_bipush C (x := nI 20) rfl dX12_phrase_8 ?_
  refine mg_dosi C (w124_in l v f g n2 (by omega)) mCal_in rfl ⟨by decide, by decide⟩ rfl (Nat.le_of_ble_eq_true rfl) dX12_phrase_10 ?_
  refine mg_aload_n C (i := 0) rfl 0 rfl dX12_phrase_13 ?_
  refine mg_iconst C (x := nI 1) rfl dX12_phrase_14 ?_
  refine mg_bipush C (x := nI 6) rfl dX12_phrase_15 ?_
  refine mg_doi C (w121_hasTokens l v f g h3) mCal_hasTokens rfl ⟨by decide, by decide⟩ rfl (Nat.le_of_ble_eq_true rfl) dX12_phrase_17 ?_
  refine mg_if_eqB C 34 (by decide) dX12_phrase_20 (fun c_20 => ?_) (fun c_ => absurd c_ (by decide))
  refine mg_iconst C (x := nI 0) rfl dX12_phrase_34 ?_
  refine mg_doi C (w131_goes l (upd (upd v 4 (nI 0)) 77 (nI 0)) f g ) mCal_goes rfl ⟨by decide, by decide⟩ rfl (Nat.le_of_ble_eq_true rfl) dX12_phrase_35 ?_
  refine mg_if_eqB C 52 (by decide) dX12_phrase_38 (fun c_38 => ?_) (fun c_ => absurd c_ (by decide))
  refine mg_iconst C (x := nI 0) rfl dX12_phrase_52 ?_
  exact mg_iret C ⟨rfl, rfl⟩ dX12_phrase_53
set_option maxHeartbeats 4000000 in
set_option maxRecDepth 100000 in
theorem w133_thrown (l : Launch) (v : Nat → Int32) (f : Nat → Nat → Int32) (g : Nat → Nat → Int64) (h1 : v 99 = (nI 3)) : mMi l yX12_thrown cX12_thrown 1 (some .int) 0 0 false [] v f g (fun r_ u_ => r_ = (nI 3) ∧ u_ = (v, f, g)) := by
  intro D cI cJ cZ a sz
  refine mg_body (by decide +kernel) rfl (Nat.le_of_ble_eq_true rfl) ?_
  intro p e s m args below meth c hsz C
  clear hsz
  generalize va_A (mW cI cJ cZ a v f g) sz = A at C ⊢
  refine mg_lv (lv' := [(0, .ref (a 0))]) rfl ?_
  refine mg_aload_n C (i := 0) rfl 0 rfl dX12_thrown_0 ?_
  refine mg_getI C (k := 99) (by decide) rfl mL_last rfl dX12_thrown_1 ?_
  refine mg_cast (nI 3) h1 ?_
  exact mg_iret C ⟨rfl, rfl⟩ dX12_thrown_4
set_option maxHeartbeats 4000000 in
set_option maxRecDepth 100000 in
theorem w134_phrase (l : Launch) (v : Nat → Int32) (f : Nat → Nat → Int32) (g : Nat → Nat → Int64) (n1 n2 : Nat) (h1 : n1 ≤ 1) (h2 : 21 ≤ n2) (h3 : n2 ≤ 2147483647) (h4 : v 2 = (nI 0)) : mMi l yX12_phrase cX12_phrase 3 (some .int) 2 46 false [.int (nI n1), .int (nI n2)] v f g (fun r_ u_ => r_ = (nI 0) ∧ u_ = (upd (upd (upd v 4 (nI 0)) 77 (nI 0)) 99 (nI 2), f, g)) := by
  intro D cI cJ cZ a sz
  refine mg_body (by decide +kernel) rfl (Nat.le_of_ble_eq_true rfl) ?_
  intro p e s m args below meth c hsz C
  clear hsz
  generalize va_A (mW cI cJ cZ a v f g) sz = A at C ⊢
  refine mg_lv (lv' := [(0, .ref (a 0)), (1, .int (nI n1)), (2, .int (nI n2))]) rfl ?_
  refine mg_aload_n C (i := 0) rfl 0 rfl dX12_phrase_0 ?_
  refine mg_aload_n C (i := 0) rfl 0 rfl dX12_phrase_1 ?_
  refine mg_iload_n C (i := 1) rfl 1 rfl dX12_phrase_2 ?_
  refine mg_doi C (w113_isField l v f g n1 (by omega)) mCal_isField rfl ⟨by decide, by decide⟩ rfl (Nat.le_of_ble_eq_true rfl) dX12_phrase_3 ?_
  refine mg_iload_n C (i := 2) rfl 2 rfl dX12_phrase_6 ?_
  refine mg_iconst C (x := nI 0) rfl dX12_phrase_7 ?_
  refine mg_bipush C (x := nI 20) rfl dX12_phrase_8 ?_
  refine mg_dosi C (w127_in l v f g n2 (by omega) (by omega)) mCal_in rfl ⟨by decide, by decide⟩ rfl (Nat.le_of_ble_eq_true rfl) dX12_phrase_10 ?_
  refine mg_aload_n C (i := 0) rfl 0 rfl dX12_phrase_13 ?_
  refine mg_iconst C (x := nI 1) rfl dX12_phrase_14 ?_
  refine mg_bipush C (x := nI 6) rfl dX12_phrase_15 ?_
  refine mg_doi C (w121_hasTokens l v f g h4) mCal_hasTokens rfl ⟨by decide, by decide⟩ rfl (Nat.le_of_ble_eq_true rfl) dX12_phrase_17 ?_
  refine mg_if_eqB C 34 (by decide) dX12_phrase_20 (fun c_20 => ?_) (fun c_ => absurd c_ (by decide))
  refine mg_iconst C (x := nI 0) rfl dX12_phrase_34 ?_
  refine mg_doi C (w129_goes l (upd (upd v 4 (nI 0)) 77 (nI 0)) f g ) mCal_goes rfl ⟨by decide, by decide⟩ rfl (Nat.le_of_ble_eq_true rfl) dX12_phrase_35 ?_
  refine mg_if_eqB C 52 (by decide) dX12_phrase_38 (fun c_38 => ?_) (fun c_ => absurd c_ (by decide))
  refine mg_iconst C (x := nI 0) rfl dX12_phrase_52 ?_
  exact mg_iret C ⟨rfl, rfl⟩ dX12_phrase_53
set_option maxHeartbeats 4000000 in
set_option maxRecDepth 100000 in
theorem w135_phrase (l : Launch) (v : Nat → Int32) (f : Nat → Nat → Int32) (g : Nat → Nat → Int64) (n1 : Nat) (x1 : Int32) (h1 : 2 ≤ n1) (h2 : n1 ≤ 2147483647) (h3 : x1 < 0) (h4 : v 2 = (nI 0)) : mMi l yX12_phrase cX12_phrase 3 (some .int) 2 46 false [.int (nI n1), .int x1] v f g (fun r_ u_ => r_ = (nI 0) ∧ u_ = (upd (upd (upd v 4 (nI 0)) 77 (nI 0)) 99 (nI 1), f, g)) := by
  intro D cI cJ cZ a sz
  refine mg_body (by decide +kernel) rfl (Nat.le_of_ble_eq_true rfl) ?_
  intro p e s m args below meth c hsz C
  clear hsz
  generalize va_A (mW cI cJ cZ a v f g) sz = A at C ⊢
  refine mg_lv (lv' := [(0, .ref (a 0)), (1, .int (nI n1)), (2, .int x1)]) rfl ?_
  refine mg_aload_n C (i := 0) rfl 0 rfl dX12_phrase_0 ?_
  refine mg_aload_n C (i := 0) rfl 0 rfl dX12_phrase_1 ?_
  refine mg_iload_n C (i := 1) rfl 1 rfl dX12_phrase_2 ?_
  refine mg_doi C (w117_isField l v f g n1 (by omega) (by omega)) mCal_isField rfl ⟨by decide, by decide⟩ rfl (Nat.le_of_ble_eq_true rfl) dX12_phrase_3 ?_
  refine mg_iload_n C (i := 2) rfl 2 rfl dX12_phrase_6 ?_
  refine mg_iconst C (x := nI 0) rfl dX12_phrase_7 ?_
  refine mg_bipush C (x := nI 20) rfl dX12_phrase_8 ?_
  refine mg_dosi C (w119_in l v f g x1 h3) mCal_in rfl ⟨by decide, by decide⟩ rfl (Nat.le_of_ble_eq_true rfl) dX12_phrase_10 ?_
  refine mg_aload_n C (i := 0) rfl 0 rfl dX12_phrase_13 ?_
  refine mg_iconst C (x := nI 1) rfl dX12_phrase_14 ?_
  refine mg_bipush C (x := nI 6) rfl dX12_phrase_15 ?_
  refine mg_doi C (w121_hasTokens l v f g h4) mCal_hasTokens rfl ⟨by decide, by decide⟩ rfl (Nat.le_of_ble_eq_true rfl) dX12_phrase_17 ?_
  refine mg_if_eqB C 34 (by decide) dX12_phrase_20 (fun c_20 => ?_) (fun c_ => absurd c_ (by decide))
  refine mg_iconst C (x := nI 0) rfl dX12_phrase_34 ?_
  refine mg_doi C (w122_goes l (upd (upd v 4 (nI 0)) 77 (nI 0)) f g ) mCal_goes rfl ⟨by decide, by decide⟩ rfl (Nat.le_of_ble_eq_true rfl) dX12_phrase_35 ?_
  refine mg_if_eqB C 52 (by decide) dX12_phrase_38 (fun c_38 => ?_) (fun c_ => absurd c_ (by decide))
  refine mg_iconst C (x := nI 0) rfl dX12_phrase_52 ?_
  exact mg_iret C ⟨rfl, rfl⟩ dX12_phrase_53
set_option maxHeartbeats 4000000 in
set_option maxRecDepth 100000 in
theorem w136_phrase (l : Launch) (v : Nat → Int32) (f : Nat → Nat → Int32) (g : Nat → Nat → Int64) (n1 n2 : Nat) (h1 : 2 ≤ n1) (h2 : n1 ≤ 2147483647) (h3 : n2 ≤ 20) (h4 : v 2 = (nI 0)) : mMi l yX12_phrase cX12_phrase 3 (some .int) 2 46 false [.int (nI n1), .int (nI n2)] v f g (fun r_ u_ => r_ = (nI 0) ∧ u_ = (upd (upd (upd v 4 (nI 0)) 77 (nI 0)) 99 (nI 1), f, g)) := by
  intro D cI cJ cZ a sz
  refine mg_body (by decide +kernel) rfl (Nat.le_of_ble_eq_true rfl) ?_
  intro p e s m args below meth c hsz C
  clear hsz
  generalize va_A (mW cI cJ cZ a v f g) sz = A at C ⊢
  refine mg_lv (lv' := [(0, .ref (a 0)), (1, .int (nI n1)), (2, .int (nI n2))]) rfl ?_
  refine mg_aload_n C (i := 0) rfl 0 rfl dX12_phrase_0 ?_
  refine mg_aload_n C (i := 0) rfl 0 rfl dX12_phrase_1 ?_
  refine mg_iload_n C (i := 1) rfl 1 rfl dX12_phrase_2 ?_
  refine mg_doi C (w117_isField l v f g n1 (by omega) (by omega)) mCal_isField rfl ⟨by decide, by decide⟩ rfl (Nat.le_of_ble_eq_true rfl) dX12_phrase_3 ?_
  refine mg_iload_n C (i := 2) rfl 2 rfl dX12_phrase_6 ?_
  refine mg_iconst C (x := nI 0) rfl dX12_phrase_7 ?_
  refine mg_bipush C (x := nI 20) rfl dX12_phrase_8 ?_
  refine mg_dosi C (w124_in l v f g n2 (by omega)) mCal_in rfl ⟨by decide, by decide⟩ rfl (Nat.le_of_ble_eq_true rfl) dX12_phrase_10 ?_
  refine mg_aload_n C (i := 0) rfl 0 rfl dX12_phrase_13 ?_
  refine mg_iconst C (x := nI 1) rfl dX12_phrase_14 ?_
  refine mg_bipush C (x := nI 6) rfl dX12_phrase_15 ?_
  refine mg_doi C (w121_hasTokens l v f g h4) mCal_hasTokens rfl ⟨by decide, by decide⟩ rfl (Nat.le_of_ble_eq_true rfl) dX12_phrase_17 ?_
  refine mg_if_eqB C 34 (by decide) dX12_phrase_20 (fun c_20 => ?_) (fun c_ => absurd c_ (by decide))
  refine mg_iconst C (x := nI 0) rfl dX12_phrase_34 ?_
  refine mg_doi C (w125_goes l (upd (upd v 4 (nI 0)) 77 (nI 0)) f g ) mCal_goes rfl ⟨by decide, by decide⟩ rfl (Nat.le_of_ble_eq_true rfl) dX12_phrase_35 ?_
  refine mg_if_eqB C 52 (by decide) dX12_phrase_38 (fun c_38 => ?_) (fun c_ => absurd c_ (by decide))
  refine mg_iconst C (x := nI 0) rfl dX12_phrase_52 ?_
  exact mg_iret C ⟨rfl, rfl⟩ dX12_phrase_53
set_option maxHeartbeats 4000000 in
set_option maxRecDepth 100000 in
theorem w137_phrase (l : Launch) (v : Nat → Int32) (f : Nat → Nat → Int32) (g : Nat → Nat → Int64) (n1 n2 : Nat) (h1 : 2 ≤ n1) (h2 : n1 ≤ 2147483647) (h3 : 21 ≤ n2) (h4 : n2 ≤ 2147483647) (h5 : v 2 = (nI 0)) : mMi l yX12_phrase cX12_phrase 3 (some .int) 2 46 false [.int (nI n1), .int (nI n2)] v f g (fun r_ u_ => r_ = (nI 0) ∧ u_ = (upd (upd (upd v 4 (nI 0)) 77 (nI 0)) 99 (nI 1), f, g)) := by
  intro D cI cJ cZ a sz
  refine mg_body (by decide +kernel) rfl (Nat.le_of_ble_eq_true rfl) ?_
  intro p e s m args below meth c hsz C
  clear hsz
  generalize va_A (mW cI cJ cZ a v f g) sz = A at C ⊢
  refine mg_lv (lv' := [(0, .ref (a 0)), (1, .int (nI n1)), (2, .int (nI n2))]) rfl ?_
  refine mg_aload_n C (i := 0) rfl 0 rfl dX12_phrase_0 ?_
  refine mg_aload_n C (i := 0) rfl 0 rfl dX12_phrase_1 ?_
  refine mg_iload_n C (i := 1) rfl 1 rfl dX12_phrase_2 ?_
  refine mg_doi C (w117_isField l v f g n1 (by omega) (by omega)) mCal_isField rfl ⟨by decide, by decide⟩ rfl (Nat.le_of_ble_eq_true rfl) dX12_phrase_3 ?_
  refine mg_iload_n C (i := 2) rfl 2 rfl dX12_phrase_6 ?_
  refine mg_iconst C (x := nI 0) rfl dX12_phrase_7 ?_
  refine mg_bipush C (x := nI 20) rfl dX12_phrase_8 ?_
  refine mg_dosi C (w127_in l v f g n2 (by omega) (by omega)) mCal_in rfl ⟨by decide, by decide⟩ rfl (Nat.le_of_ble_eq_true rfl) dX12_phrase_10 ?_
  refine mg_aload_n C (i := 0) rfl 0 rfl dX12_phrase_13 ?_
  refine mg_iconst C (x := nI 1) rfl dX12_phrase_14 ?_
  refine mg_bipush C (x := nI 6) rfl dX12_phrase_15 ?_
  refine mg_doi C (w121_hasTokens l v f g h5) mCal_hasTokens rfl ⟨by decide, by decide⟩ rfl (Nat.le_of_ble_eq_true rfl) dX12_phrase_17 ?_
  refine mg_if_eqB C 34 (by decide) dX12_phrase_20 (fun c_20 => ?_) (fun c_ => absurd c_ (by decide))
  refine mg_iconst C (x := nI 0) rfl dX12_phrase_34 ?_
  refine mg_doi C (w122_goes l (upd (upd v 4 (nI 0)) 77 (nI 0)) f g ) mCal_goes rfl ⟨by decide, by decide⟩ rfl (Nat.le_of_ble_eq_true rfl) dX12_phrase_35 ?_
  refine mg_if_eqB C 52 (by decide) dX12_phrase_38 (fun c_38 => ?_) (fun c_ => absurd c_ (by decide))
  refine mg_iconst C (x := nI 0) rfl dX12_phrase_52 ?_
  exact mg_iret C ⟨rfl, rfl⟩ dX12_phrase_53
set_option maxHeartbeats 4000000 in
set_option maxRecDepth 100000 in
theorem w138_in (l : Launch) (v : Nat → Int32) (f : Nat → Nat → Int32) (g : Nat → Nat → Int64) (x1 : Int32) (h1 : x1 < 0) : mMi l yX12_in cX12_in 3 (some .boolean) 0 0 true [.int x1, .int (nI 1), .int (nI 20)] v f g (fun r_ u_ => r_ = (bI false) ∧ u_ = (v, f, g)) := by
  intro D cI cJ cZ a sz
  refine mg_body (by decide +kernel) rfl (Nat.le_of_ble_eq_true rfl) ?_
  intro p e s m args below meth c hsz C
  clear hsz
  generalize va_A (mW cI cJ cZ a v f g) sz = A at C ⊢
  refine mg_lv (lv' := [(0, .int x1), (1, .int (nI 1)), (2, .int (nI 20))]) rfl ?_
  refine mg_iload_n C (i := 0) rfl 0 rfl dX12_in_0 ?_
  refine mg_iload_n C (i := 1) rfl 1 rfl dX12_in_1 ?_
  refine mg_icmp_lt C 14 (by decide) dX12_in_2 (fun c_2 => ?_) (fun c_ => absurd (cneg_lt h1 (by omega)) c_)
  refine mg_iconst C (x := nI 0) rfl dX12_in_14 ?_
  refine mg_cast (bI false) rfl ?_
  exact mg_zret C (bI_nar _) ⟨rfl, rfl⟩ dX12_in_15
set_option maxHeartbeats 4000000 in
set_option maxRecDepth 100000 in
theorem w139_in (l : Launch) (v : Nat → Int32) (f : Nat → Nat → Int32) (g : Nat → Nat → Int64) : mMi l yX12_in cX12_in 3 (some .boolean) 0 0 true [.int (nI 0), .int (nI 2), .int (nI 2)] v f g (fun r_ u_ => r_ = (bI false) ∧ u_ = (v, f, g)) := by
  intro D cI cJ cZ a sz
  refine mg_body (by decide +kernel) rfl (Nat.le_of_ble_eq_true rfl) ?_
  intro p e s m args below meth c hsz C
  clear hsz
  generalize va_A (mW cI cJ cZ a v f g) sz = A at C ⊢
  refine mg_lv (lv' := [(0, .int (nI 0)), (1, .int (nI 2)), (2, .int (nI 2))]) rfl ?_
  refine mg_iload_n C (i := 0) rfl 0 rfl dX12_in_0 ?_
  refine mg_iload_n C (i := 1) rfl 1 rfl dX12_in_1 ?_
  refine mg_icmp_ltN C (by omega) (by omega) 14 (by decide) dX12_in_2 (fun c_2 => ?_) (fun c_ => absurd c_ (by omega))
  refine mg_iconst C (x := nI 0) rfl dX12_in_14 ?_
  refine mg_cast (bI false) rfl ?_
  exact mg_zret C (bI_nar _) ⟨rfl, rfl⟩ dX12_in_15
set_option maxHeartbeats 4000000 in
set_option maxRecDepth 100000 in
theorem w140_hasTokens (l : Launch) (v : Nat → Int32) (f : Nat → Nat → Int32) (g : Nat → Nat → Int64) (h1 : v 2 = (nI 0)) : mMi l yX12_hasTokens cX12_hasTokens 4 (some .boolean) 1 23 false [.int (nI 2), .int (nI 2)] v f g (fun r_ u_ => r_ = (bI false) ∧ u_ = (upd (upd v 4 (nI 0)) 77 (nI 0), f, g)) := by
  intro D cI cJ cZ a sz
  refine mg_body (by decide +kernel) rfl (Nat.le_of_ble_eq_true rfl) ?_
  intro p e s m args below meth c hsz C
  clear hsz
  generalize va_A (mW cI cJ cZ a v f g) sz = A at C ⊢
  refine mg_lv (lv' := [(0, .ref (a 0)), (1, .int (nI 2)), (2, .int (nI 2))]) rfl ?_
  refine mg_aload_n C (i := 0) rfl 0 rfl dX12_hasTokens_0 ?_
  refine mg_dov C (w12_reads l v f g h1) mCal_reads rfl ⟨by decide, by decide⟩ rfl (Nat.le_of_ble_eq_true rfl) dX12_hasTokens_1 ?_
  refine mg_aload_n C (i := 0) rfl 0 rfl dX12_hasTokens_4 ?_
  refine mg_iconst C (x := nI 0) rfl dX12_hasTokens_5 ?_
  refine mg_put C (k := 77) (by decide) rfl mL_tokened rfl (by decide +kernel) mT_tokened rfl rfl dX12_hasTokens_6 ?_
  refine mg_iconst C (x := nI 0) rfl dX12_hasTokens_9 ?_
  refine mg_istore_n C (i := 3) (lv' := [(3, .int (nI 0)), (0, .ref (a 0)), (1, .int (nI 2)), (2, .int (nI 2))]) rfl (Nat.le_of_ble_eq_true rfl) rfl dX12_hasTokens_10 ?_
  refine mg_iload_n C (i := 3) rfl 0 rfl dX12_hasTokens_11 ?_
  refine mg_aload_n C (i := 0) rfl 1 rfl dX12_hasTokens_12 ?_
  refine mg_getI C (k := 4) (by decide) rfl mL_worded rfl dX12_hasTokens_13 ?_
  refine mg_cast (nI 0) rfl ?_
  refine mg_icmp_geN C (by omega) (by omega) 81 (by decide) dX12_hasTokens_16 (fun c_16 => ?_) (fun c_ => absurd c_ (by omega))
  refine mg_aload_n C (i := 0) rfl 1 rfl dX12_hasTokens_81 ?_
  refine mg_getI C (k := 77) (by decide) rfl mL_tokened rfl dX12_hasTokens_82 ?_
  refine mg_cast (nI 0) rfl ?_
  refine mg_iload_n C (i := 1) rfl 2 rfl dX12_hasTokens_85 ?_
  refine mg_iload_n C (i := 2) rfl 3 rfl dX12_hasTokens_86 ?_
  refine mg_dosi C (w139_in l (upd (upd v 4 (nI 0)) 77 (nI 0)) f g ) mCal_in rfl ⟨by decide, by decide⟩ rfl (Nat.le_of_ble_eq_true rfl) dX12_hasTokens_87 ?_
  exact mg_zret C (bI_nar _) ⟨rfl, rfl⟩ dX12_hasTokens_90
set_option maxHeartbeats 4000000 in
set_option maxRecDepth 100000 in
theorem w141_near (l : Launch) (v : Nat → Int32) (f : Nat → Nat → Int32) (g : Nat → Nat → Int64) (x1 x2 : Int32) (h1 : x1 < 0) (h2 : x2 < 0) (h3 : v 2 = (nI 0)) : mMi l yX12_near cX12_near 4 (some .int) 2 46 false [.int x1, .int x2, .int (nI 1)] v f g (fun r_ u_ => r_ = (nI 0) ∧ u_ = (upd (upd (upd v 4 (nI 0)) 77 (nI 0)) 99 (nI 1), f, g)) := by
  intro D cI cJ cZ a sz
  refine mg_body (by decide +kernel) rfl (Nat.le_of_ble_eq_true rfl) ?_
  intro p e s m args below meth c hsz C
  clear hsz
  generalize va_A (mW cI cJ cZ a v f g) sz = A at C ⊢
  refine mg_lv (lv' := [(0, .ref (a 0)), (1, .int x1), (2, .int x2), (3, .int (nI 1))]) rfl ?_
  refine mg_aload_n C (i := 0) rfl 0 rfl dX12_near_0 ?_
  refine mg_aload_n C (i := 0) rfl 0 rfl dX12_near_1 ?_
  refine mg_iload_n C (i := 1) rfl 1 rfl dX12_near_2 ?_
  refine mg_doi C (w107_isField l v f g x1 h1) mCal_isField rfl ⟨by decide, by decide⟩ rfl (Nat.le_of_ble_eq_true rfl) dX12_near_3 ?_
  refine mg_iload_n C (i := 2) rfl 2 rfl dX12_near_6 ?_
  refine mg_iconst C (x := nI 1) rfl dX12_near_7 ?_
  refine mg_bipush C (x := nI 20) rfl dX12_near_8 ?_
  refine mg_dosi C (w138_in l v f g x2 h2) mCal_in rfl ⟨by decide, by decide⟩ rfl (Nat.le_of_ble_eq_true rfl) dX12_near_10 ?_
  refine mg_aload_n C (i := 0) rfl 0 rfl dX12_near_13 ?_
  refine mg_iconst C (x := nI 2) rfl dX12_near_14 ?_
  refine mg_iconst C (x := nI 2) rfl dX12_near_15 ?_
  refine mg_doi C (w140_hasTokens l v f g h3) mCal_hasTokens rfl ⟨by decide, by decide⟩ rfl (Nat.le_of_ble_eq_true rfl) dX12_near_16 ?_
  refine mg_if_eqB C 33 (by decide) dX12_near_19 (fun c_19 => ?_) (fun c_ => absurd c_ (by decide))
  refine mg_iconst C (x := nI 0) rfl dX12_near_33 ?_
  refine mg_doi C (w122_goes l (upd (upd v 4 (nI 0)) 77 (nI 0)) f g ) mCal_goes rfl ⟨by decide, by decide⟩ rfl (Nat.le_of_ble_eq_true rfl) dX12_near_34 ?_
  refine mg_if_eqB C 51 (by decide) dX12_near_37 (fun c_37 => ?_) (fun c_ => absurd c_ (by decide))
  refine mg_iconst C (x := nI 0) rfl dX12_near_51 ?_
  exact mg_iret C ⟨rfl, rfl⟩ dX12_near_52
set_option maxHeartbeats 4000000 in
set_option maxRecDepth 100000 in
theorem w142_in (l : Launch) (v : Nat → Int32) (f : Nat → Nat → Int32) (g : Nat → Nat → Int64) : mMi l yX12_in cX12_in 3 (some .boolean) 0 0 true [.int (nI 0), .int (nI 1), .int (nI 20)] v f g (fun r_ u_ => r_ = (bI false) ∧ u_ = (v, f, g)) := by
  intro D cI cJ cZ a sz
  refine mg_body (by decide +kernel) rfl (Nat.le_of_ble_eq_true rfl) ?_
  intro p e s m args below meth c hsz C
  clear hsz
  generalize va_A (mW cI cJ cZ a v f g) sz = A at C ⊢
  refine mg_lv (lv' := [(0, .int (nI 0)), (1, .int (nI 1)), (2, .int (nI 20))]) rfl ?_
  refine mg_iload_n C (i := 0) rfl 0 rfl dX12_in_0 ?_
  refine mg_iload_n C (i := 1) rfl 1 rfl dX12_in_1 ?_
  refine mg_icmp_ltN C (by omega) (by omega) 14 (by decide) dX12_in_2 (fun c_2 => ?_) (fun c_ => absurd c_ (by omega))
  refine mg_iconst C (x := nI 0) rfl dX12_in_14 ?_
  refine mg_cast (bI false) rfl ?_
  exact mg_zret C (bI_nar _) ⟨rfl, rfl⟩ dX12_in_15
set_option maxHeartbeats 4000000 in
set_option maxRecDepth 100000 in
theorem w143_near (l : Launch) (v : Nat → Int32) (f : Nat → Nat → Int32) (g : Nat → Nat → Int64) (x1 : Int32) (h1 : x1 < 0) (h2 : v 2 = (nI 0)) : mMi l yX12_near cX12_near 4 (some .int) 2 46 false [.int x1, .int (nI 0), .int (nI 1)] v f g (fun r_ u_ => r_ = (nI 0) ∧ u_ = (upd (upd (upd v 4 (nI 0)) 77 (nI 0)) 99 (nI 1), f, g)) := by
  intro D cI cJ cZ a sz
  refine mg_body (by decide +kernel) rfl (Nat.le_of_ble_eq_true rfl) ?_
  intro p e s m args below meth c hsz C
  clear hsz
  generalize va_A (mW cI cJ cZ a v f g) sz = A at C ⊢
  refine mg_lv (lv' := [(0, .ref (a 0)), (1, .int x1), (2, .int (nI 0)), (3, .int (nI 1))]) rfl ?_
  refine mg_aload_n C (i := 0) rfl 0 rfl dX12_near_0 ?_
  refine mg_aload_n C (i := 0) rfl 0 rfl dX12_near_1 ?_
  refine mg_iload_n C (i := 1) rfl 1 rfl dX12_near_2 ?_
  refine mg_doi C (w107_isField l v f g x1 h1) mCal_isField rfl ⟨by decide, by decide⟩ rfl (Nat.le_of_ble_eq_true rfl) dX12_near_3 ?_
  refine mg_iload_n C (i := 2) rfl 2 rfl dX12_near_6 ?_
  refine mg_iconst C (x := nI 1) rfl dX12_near_7 ?_
  refine mg_bipush C (x := nI 20) rfl dX12_near_8 ?_
  refine mg_dosi C (w142_in l v f g ) mCal_in rfl ⟨by decide, by decide⟩ rfl (Nat.le_of_ble_eq_true rfl) dX12_near_10 ?_
  refine mg_aload_n C (i := 0) rfl 0 rfl dX12_near_13 ?_
  refine mg_iconst C (x := nI 2) rfl dX12_near_14 ?_
  refine mg_iconst C (x := nI 2) rfl dX12_near_15 ?_
  refine mg_doi C (w140_hasTokens l v f g h2) mCal_hasTokens rfl ⟨by decide, by decide⟩ rfl (Nat.le_of_ble_eq_true rfl) dX12_near_16 ?_
  refine mg_if_eqB C 33 (by decide) dX12_near_19 (fun c_19 => ?_) (fun c_ => absurd c_ (by decide))
  refine mg_iconst C (x := nI 0) rfl dX12_near_33 ?_
  refine mg_doi C (w122_goes l (upd (upd v 4 (nI 0)) 77 (nI 0)) f g ) mCal_goes rfl ⟨by decide, by decide⟩ rfl (Nat.le_of_ble_eq_true rfl) dX12_near_34 ?_
  refine mg_if_eqB C 51 (by decide) dX12_near_37 (fun c_37 => ?_) (fun c_ => absurd c_ (by decide))
  refine mg_iconst C (x := nI 0) rfl dX12_near_51 ?_
  exact mg_iret C ⟨rfl, rfl⟩ dX12_near_52
set_option maxHeartbeats 4000000 in
set_option maxRecDepth 100000 in
theorem w144_in (l : Launch) (v : Nat → Int32) (f : Nat → Nat → Int32) (g : Nat → Nat → Int64) (n1 : Nat) (h1 : 1 ≤ n1) (h2 : n1 ≤ 20) : mMi l yX12_in cX12_in 3 (some .boolean) 0 0 true [.int (nI n1), .int (nI 1), .int (nI 20)] v f g (fun r_ u_ => r_ = (bI true) ∧ u_ = (v, f, g)) := by
  intro D cI cJ cZ a sz
  refine mg_body (by decide +kernel) rfl (Nat.le_of_ble_eq_true rfl) ?_
  intro p e s m args below meth c hsz C
  clear hsz
  generalize va_A (mW cI cJ cZ a v f g) sz = A at C ⊢
  refine mg_lv (lv' := [(0, .int (nI n1)), (1, .int (nI 1)), (2, .int (nI 20))]) rfl ?_
  refine mg_iload_n C (i := 0) rfl 0 rfl dX12_in_0 ?_
  refine mg_iload_n C (i := 1) rfl 1 rfl dX12_in_1 ?_
  refine mg_icmp_ltN C (by omega) (by omega) 14 (by decide) dX12_in_2 (fun c_ => absurd c_ (by omega)) (fun c_2 => ?_)
  refine mg_iload_n C (i := 0) rfl 0 rfl dX12_in_5 ?_
  refine mg_iload_n C (i := 2) rfl 2 rfl dX12_in_6 ?_
  refine mg_icmp_gtN C (by omega) (by omega) 14 (by decide) dX12_in_7 (fun c_ => absurd c_ (by omega)) (fun c_7 => ?_)
  refine mg_iconst C (x := nI 1) rfl dX12_in_10 ?_
  refine mg_goto C 15 (by decide) dX12_in_11 ?_
  refine mg_cast (bI true) rfl ?_
  exact mg_zret C (bI_nar _) ⟨rfl, rfl⟩ dX12_in_15
set_option maxHeartbeats 4000000 in
set_option maxRecDepth 100000 in
theorem w145_near (l : Launch) (v : Nat → Int32) (f : Nat → Nat → Int32) (g : Nat → Nat → Int64) (n1 : Nat) (x1 : Int32) (h1 : x1 < 0) (h2 : 1 ≤ n1) (h3 : n1 ≤ 20) (h4 : v 2 = (nI 0)) : mMi l yX12_near cX12_near 4 (some .int) 2 46 false [.int x1, .int (nI n1), .int (nI 1)] v f g (fun r_ u_ => r_ = (nI 0) ∧ u_ = (upd (upd (upd v 4 (nI 0)) 77 (nI 0)) 99 (nI 1), f, g)) := by
  intro D cI cJ cZ a sz
  refine mg_body (by decide +kernel) rfl (Nat.le_of_ble_eq_true rfl) ?_
  intro p e s m args below meth c hsz C
  clear hsz
  generalize va_A (mW cI cJ cZ a v f g) sz = A at C ⊢
  refine mg_lv (lv' := [(0, .ref (a 0)), (1, .int x1), (2, .int (nI n1)), (3, .int (nI 1))]) rfl ?_
  refine mg_aload_n C (i := 0) rfl 0 rfl dX12_near_0 ?_
  refine mg_aload_n C (i := 0) rfl 0 rfl dX12_near_1 ?_
  refine mg_iload_n C (i := 1) rfl 1 rfl dX12_near_2 ?_
  refine mg_doi C (w107_isField l v f g x1 h1) mCal_isField rfl ⟨by decide, by decide⟩ rfl (Nat.le_of_ble_eq_true rfl) dX12_near_3 ?_
  refine mg_iload_n C (i := 2) rfl 2 rfl dX12_near_6 ?_
  refine mg_iconst C (x := nI 1) rfl dX12_near_7 ?_
  refine mg_bipush C (x := nI 20) rfl dX12_near_8 ?_
  refine mg_dosi C (w144_in l v f g n1 (by omega) (by omega)) mCal_in rfl ⟨by decide, by decide⟩ rfl (Nat.le_of_ble_eq_true rfl) dX12_near_10 ?_
  refine mg_aload_n C (i := 0) rfl 0 rfl dX12_near_13 ?_
  refine mg_iconst C (x := nI 2) rfl dX12_near_14 ?_
  refine mg_iconst C (x := nI 2) rfl dX12_near_15 ?_
  refine mg_doi C (w140_hasTokens l v f g h4) mCal_hasTokens rfl ⟨by decide, by decide⟩ rfl (Nat.le_of_ble_eq_true rfl) dX12_near_16 ?_
  refine mg_if_eqB C 33 (by decide) dX12_near_19 (fun c_19 => ?_) (fun c_ => absurd c_ (by decide))
  refine mg_iconst C (x := nI 0) rfl dX12_near_33 ?_
  refine mg_doi C (w125_goes l (upd (upd v 4 (nI 0)) 77 (nI 0)) f g ) mCal_goes rfl ⟨by decide, by decide⟩ rfl (Nat.le_of_ble_eq_true rfl) dX12_near_34 ?_
  refine mg_if_eqB C 51 (by decide) dX12_near_37 (fun c_37 => ?_) (fun c_ => absurd c_ (by decide))
  refine mg_iconst C (x := nI 0) rfl dX12_near_51 ?_
  exact mg_iret C ⟨rfl, rfl⟩ dX12_near_52
set_option maxHeartbeats 4000000 in
set_option maxRecDepth 100000 in
theorem w146_in (l : Launch) (v : Nat → Int32) (f : Nat → Nat → Int32) (g : Nat → Nat → Int64) (n1 : Nat) (h1 : 21 ≤ n1) (h2 : n1 ≤ 2147483647) : mMi l yX12_in cX12_in 3 (some .boolean) 0 0 true [.int (nI n1), .int (nI 1), .int (nI 20)] v f g (fun r_ u_ => r_ = (bI false) ∧ u_ = (v, f, g)) := by
  intro D cI cJ cZ a sz
  refine mg_body (by decide +kernel) rfl (Nat.le_of_ble_eq_true rfl) ?_
  intro p e s m args below meth c hsz C
  clear hsz
  generalize va_A (mW cI cJ cZ a v f g) sz = A at C ⊢
  refine mg_lv (lv' := [(0, .int (nI n1)), (1, .int (nI 1)), (2, .int (nI 20))]) rfl ?_
  refine mg_iload_n C (i := 0) rfl 0 rfl dX12_in_0 ?_
  refine mg_iload_n C (i := 1) rfl 1 rfl dX12_in_1 ?_
  refine mg_icmp_ltN C (by omega) (by omega) 14 (by decide) dX12_in_2 (fun c_ => absurd c_ (by omega)) (fun c_2 => ?_)
  refine mg_iload_n C (i := 0) rfl 0 rfl dX12_in_5 ?_
  refine mg_iload_n C (i := 2) rfl 2 rfl dX12_in_6 ?_
  refine mg_icmp_gtN C (by omega) (by omega) 14 (by decide) dX12_in_7 (fun c_7 => ?_) (fun c_ => absurd c_ (by omega))
  refine mg_iconst C (x := nI 0) rfl dX12_in_14 ?_
  refine mg_cast (bI false) rfl ?_
  exact mg_zret C (bI_nar _) ⟨rfl, rfl⟩ dX12_in_15
set_option maxHeartbeats 4000000 in
set_option maxRecDepth 100000 in
theorem w147_near (l : Launch) (v : Nat → Int32) (f : Nat → Nat → Int32) (g : Nat → Nat → Int64) (n1 : Nat) (x1 : Int32) (h1 : x1 < 0) (h2 : 21 ≤ n1) (h3 : n1 ≤ 2147483647) (h4 : v 2 = (nI 0)) : mMi l yX12_near cX12_near 4 (some .int) 2 46 false [.int x1, .int (nI n1), .int (nI 1)] v f g (fun r_ u_ => r_ = (nI 0) ∧ u_ = (upd (upd (upd v 4 (nI 0)) 77 (nI 0)) 99 (nI 1), f, g)) := by
  intro D cI cJ cZ a sz
  refine mg_body (by decide +kernel) rfl (Nat.le_of_ble_eq_true rfl) ?_
  intro p e s m args below meth c hsz C
  clear hsz
  generalize va_A (mW cI cJ cZ a v f g) sz = A at C ⊢
  refine mg_lv (lv' := [(0, .ref (a 0)), (1, .int x1), (2, .int (nI n1)), (3, .int (nI 1))]) rfl ?_
  refine mg_aload_n C (i := 0) rfl 0 rfl dX12_near_0 ?_
  refine mg_aload_n C (i := 0) rfl 0 rfl dX12_near_1 ?_
  refine mg_iload_n C (i := 1) rfl 1 rfl dX12_near_2 ?_
  refine mg_doi C (w107_isField l v f g x1 h1) mCal_isField rfl ⟨by decide, by decide⟩ rfl (Nat.le_of_ble_eq_true rfl) dX12_near_3 ?_
  refine mg_iload_n C (i := 2) rfl 2 rfl dX12_near_6 ?_
  refine mg_iconst C (x := nI 1) rfl dX12_near_7 ?_
  refine mg_bipush C (x := nI 20) rfl dX12_near_8 ?_
  refine mg_dosi C (w146_in l v f g n1 (by omega) (by omega)) mCal_in rfl ⟨by decide, by decide⟩ rfl (Nat.le_of_ble_eq_true rfl) dX12_near_10 ?_
  refine mg_aload_n C (i := 0) rfl 0 rfl dX12_near_13 ?_
  refine mg_iconst C (x := nI 2) rfl dX12_near_14 ?_
  refine mg_iconst C (x := nI 2) rfl dX12_near_15 ?_
  refine mg_doi C (w140_hasTokens l v f g h4) mCal_hasTokens rfl ⟨by decide, by decide⟩ rfl (Nat.le_of_ble_eq_true rfl) dX12_near_16 ?_
  refine mg_if_eqB C 33 (by decide) dX12_near_19 (fun c_19 => ?_) (fun c_ => absurd c_ (by decide))
  refine mg_iconst C (x := nI 0) rfl dX12_near_33 ?_
  refine mg_doi C (w122_goes l (upd (upd v 4 (nI 0)) 77 (nI 0)) f g ) mCal_goes rfl ⟨by decide, by decide⟩ rfl (Nat.le_of_ble_eq_true rfl) dX12_near_34 ?_
  refine mg_if_eqB C 51 (by decide) dX12_near_37 (fun c_37 => ?_) (fun c_ => absurd c_ (by decide))
  refine mg_iconst C (x := nI 0) rfl dX12_near_51 ?_
  exact mg_iret C ⟨rfl, rfl⟩ dX12_near_52
set_option maxHeartbeats 4000000 in
set_option maxRecDepth 100000 in
theorem w148_near (l : Launch) (v : Nat → Int32) (f : Nat → Nat → Int32) (g : Nat → Nat → Int64) (n1 : Nat) (x1 : Int32) (h1 : n1 ≤ 1) (h2 : x1 < 0) (h3 : v 2 = (nI 0)) : mMi l yX12_near cX12_near 4 (some .int) 2 46 false [.int (nI n1), .int x1, .int (nI 1)] v f g (fun r_ u_ => r_ = (nI 0) ∧ u_ = (upd (upd (upd v 4 (nI 0)) 77 (nI 0)) 99 (nI 2), f, g)) := by
  intro D cI cJ cZ a sz
  refine mg_body (by decide +kernel) rfl (Nat.le_of_ble_eq_true rfl) ?_
  intro p e s m args below meth c hsz C
  clear hsz
  generalize va_A (mW cI cJ cZ a v f g) sz = A at C ⊢
  refine mg_lv (lv' := [(0, .ref (a 0)), (1, .int (nI n1)), (2, .int x1), (3, .int (nI 1))]) rfl ?_
  refine mg_aload_n C (i := 0) rfl 0 rfl dX12_near_0 ?_
  refine mg_aload_n C (i := 0) rfl 0 rfl dX12_near_1 ?_
  refine mg_iload_n C (i := 1) rfl 1 rfl dX12_near_2 ?_
  refine mg_doi C (w113_isField l v f g n1 (by omega)) mCal_isField rfl ⟨by decide, by decide⟩ rfl (Nat.le_of_ble_eq_true rfl) dX12_near_3 ?_
  refine mg_iload_n C (i := 2) rfl 2 rfl dX12_near_6 ?_
  refine mg_iconst C (x := nI 1) rfl dX12_near_7 ?_
  refine mg_bipush C (x := nI 20) rfl dX12_near_8 ?_
  refine mg_dosi C (w138_in l v f g x1 h2) mCal_in rfl ⟨by decide, by decide⟩ rfl (Nat.le_of_ble_eq_true rfl) dX12_near_10 ?_
  refine mg_aload_n C (i := 0) rfl 0 rfl dX12_near_13 ?_
  refine mg_iconst C (x := nI 2) rfl dX12_near_14 ?_
  refine mg_iconst C (x := nI 2) rfl dX12_near_15 ?_
  refine mg_doi C (w140_hasTokens l v f g h3) mCal_hasTokens rfl ⟨by decide, by decide⟩ rfl (Nat.le_of_ble_eq_true rfl) dX12_near_16 ?_
  refine mg_if_eqB C 33 (by decide) dX12_near_19 (fun c_19 => ?_) (fun c_ => absurd c_ (by decide))
  refine mg_iconst C (x := nI 0) rfl dX12_near_33 ?_
  refine mg_doi C (w129_goes l (upd (upd v 4 (nI 0)) 77 (nI 0)) f g ) mCal_goes rfl ⟨by decide, by decide⟩ rfl (Nat.le_of_ble_eq_true rfl) dX12_near_34 ?_
  refine mg_if_eqB C 51 (by decide) dX12_near_37 (fun c_37 => ?_) (fun c_ => absurd c_ (by decide))
  refine mg_iconst C (x := nI 0) rfl dX12_near_51 ?_
  exact mg_iret C ⟨rfl, rfl⟩ dX12_near_52
set_option maxHeartbeats 4000000 in
set_option maxRecDepth 100000 in
theorem w149_near (l : Launch) (v : Nat → Int32) (f : Nat → Nat → Int32) (g : Nat → Nat → Int64) (n1 : Nat) (h1 : n1 ≤ 1) (h2 : v 2 = (nI 0)) : mMi l yX12_near cX12_near 4 (some .int) 2 46 false [.int (nI n1), .int (nI 0), .int (nI 1)] v f g (fun r_ u_ => r_ = (nI 0) ∧ u_ = (upd (upd (upd v 4 (nI 0)) 77 (nI 0)) 99 (nI 2), f, g)) := by
  intro D cI cJ cZ a sz
  refine mg_body (by decide +kernel) rfl (Nat.le_of_ble_eq_true rfl) ?_
  intro p e s m args below meth c hsz C
  clear hsz
  generalize va_A (mW cI cJ cZ a v f g) sz = A at C ⊢
  refine mg_lv (lv' := [(0, .ref (a 0)), (1, .int (nI n1)), (2, .int (nI 0)), (3, .int (nI 1))]) rfl ?_
  refine mg_aload_n C (i := 0) rfl 0 rfl dX12_near_0 ?_
  refine mg_aload_n C (i := 0) rfl 0 rfl dX12_near_1 ?_
  refine mg_iload_n C (i := 1) rfl 1 rfl dX12_near_2 ?_
  refine mg_doi C (w113_isField l v f g n1 (by omega)) mCal_isField rfl ⟨by decide, by decide⟩ rfl (Nat.le_of_ble_eq_true rfl) dX12_near_3 ?_
  refine mg_iload_n C (i := 2) rfl 2 rfl dX12_near_6 ?_
  refine mg_iconst C (x := nI 1) rfl dX12_near_7 ?_
  refine mg_bipush C (x := nI 20) rfl dX12_near_8 ?_
  refine mg_dosi C (w142_in l v f g ) mCal_in rfl ⟨by decide, by decide⟩ rfl (Nat.le_of_ble_eq_true rfl) dX12_near_10 ?_
  refine mg_aload_n C (i := 0) rfl 0 rfl dX12_near_13 ?_
  refine mg_iconst C (x := nI 2) rfl dX12_near_14 ?_
  refine mg_iconst C (x := nI 2) rfl dX12_near_15 ?_
  refine mg_doi C (w140_hasTokens l v f g h2) mCal_hasTokens rfl ⟨by decide, by decide⟩ rfl (Nat.le_of_ble_eq_true rfl) dX12_near_16 ?_
  refine mg_if_eqB C 33 (by decide) dX12_near_19 (fun c_19 => ?_) (fun c_ => absurd c_ (by decide))
  refine mg_iconst C (x := nI 0) rfl dX12_near_33 ?_
  refine mg_doi C (w129_goes l (upd (upd v 4 (nI 0)) 77 (nI 0)) f g ) mCal_goes rfl ⟨by decide, by decide⟩ rfl (Nat.le_of_ble_eq_true rfl) dX12_near_34 ?_
  refine mg_if_eqB C 51 (by decide) dX12_near_37 (fun c_37 => ?_) (fun c_ => absurd c_ (by decide))
  refine mg_iconst C (x := nI 0) rfl dX12_near_51 ?_
  exact mg_iret C ⟨rfl, rfl⟩ dX12_near_52
set_option maxHeartbeats 4000000 in
set_option maxRecDepth 100000 in
theorem w150_near (l : Launch) (v : Nat → Int32) (f : Nat → Nat → Int32) (g : Nat → Nat → Int64) (n1 n2 : Nat) (h1 : n1 ≤ 1) (h2 : 1 ≤ n2) (h3 : n2 ≤ 20) (h4 : v 2 = (nI 0)) : mMi l yX12_near cX12_near 4 (some .int) 2 46 false [.int (nI n1), .int (nI n2), .int (nI 1)] v f g (fun r_ u_ => r_ = (nI 0) ∧ u_ = (upd (upd (upd v 4 (nI 0)) 77 (nI 0)) 99 (nI 3), f, g)) := by
  intro D cI cJ cZ a sz
  refine mg_body (by decide +kernel) rfl (Nat.le_of_ble_eq_true rfl) ?_
  intro p e s m args below meth c hsz C
  clear hsz
  generalize va_A (mW cI cJ cZ a v f g) sz = A at C ⊢
  refine mg_lv (lv' := [(0, .ref (a 0)), (1, .int (nI n1)), (2, .int (nI n2)), (3, .int (nI 1))]) rfl ?_
  refine mg_aload_n C (i := 0) rfl 0 rfl dX12_near_0 ?_
  refine mg_aload_n C (i := 0) rfl 0 rfl dX12_near_1 ?_
  refine mg_iload_n C (i := 1) rfl 1 rfl dX12_near_2 ?_
  refine mg_doi C (w113_isField l v f g n1 (by omega)) mCal_isField rfl ⟨by decide, by decide⟩ rfl (Nat.le_of_ble_eq_true rfl) dX12_near_3 ?_
  refine mg_iload_n C (i := 2) rfl 2 rfl dX12_near_6 ?_
  refine mg_iconst C (x := nI 1) rfl dX12_near_7 ?_
  refine mg_bipush C (x := nI 20) rfl dX12_near_8 ?_
  refine mg_dosi C (w144_in l v f g n2 (by omega) (by omega)) mCal_in rfl ⟨by decide, by decide⟩ rfl (Nat.le_of_ble_eq_true rfl) dX12_near_10 ?_
  refine mg_aload_n C (i := 0) rfl 0 rfl dX12_near_13 ?_
  refine mg_iconst C (x := nI 2) rfl dX12_near_14 ?_
  refine mg_iconst C (x := nI 2) rfl dX12_near_15 ?_
  refine mg_doi C (w140_hasTokens l v f g h4) mCal_hasTokens rfl ⟨by decide, by decide⟩ rfl (Nat.le_of_ble_eq_true rfl) dX12_near_16 ?_
  refine mg_if_eqB C 33 (by decide) dX12_near_19 (fun c_19 => ?_) (fun c_ => absurd c_ (by decide))
  refine mg_iconst C (x := nI 0) rfl dX12_near_33 ?_
  refine mg_doi C (w131_goes l (upd (upd v 4 (nI 0)) 77 (nI 0)) f g ) mCal_goes rfl ⟨by decide, by decide⟩ rfl (Nat.le_of_ble_eq_true rfl) dX12_near_34 ?_
  refine mg_if_eqB C 51 (by decide) dX12_near_37 (fun c_37 => ?_) (fun c_ => absurd c_ (by decide))
  refine mg_iconst C (x := nI 0) rfl dX12_near_51 ?_
  exact mg_iret C ⟨rfl, rfl⟩ dX12_near_52
set_option maxHeartbeats 4000000 in
set_option maxRecDepth 100000 in
theorem w151_near (l : Launch) (v : Nat → Int32) (f : Nat → Nat → Int32) (g : Nat → Nat → Int64) (n1 n2 : Nat) (h1 : n1 ≤ 1) (h2 : 21 ≤ n2) (h3 : n2 ≤ 2147483647) (h4 : v 2 = (nI 0)) : mMi l yX12_near cX12_near 4 (some .int) 2 46 false [.int (nI n1), .int (nI n2), .int (nI 1)] v f g (fun r_ u_ => r_ = (nI 0) ∧ u_ = (upd (upd (upd v 4 (nI 0)) 77 (nI 0)) 99 (nI 2), f, g)) := by
  intro D cI cJ cZ a sz
  refine mg_body (by decide +kernel) rfl (Nat.le_of_ble_eq_true rfl) ?_
  intro p e s m args below meth c hsz C
  clear hsz
  generalize va_A (mW cI cJ cZ a v f g) sz = A at C ⊢
  refine mg_lv (lv' := [(0, .ref (a 0)), (1, .int (nI n1)), (2, .int (nI n2)), (3, .int (nI 1))]) rfl ?_
  refine mg_aload_n C (i := 0) rfl 0 rfl dX12_near_0 ?_
  refine mg_aload_n C (i := 0) rfl 0 rfl dX12_near_1 ?_
  refine mg_iload_n C (i := 1) rfl 1 rfl dX12_near_2 ?_
  refine mg_doi C (w113_isField l v f g n1 (by omega)) mCal_isField rfl ⟨by decide, by decide⟩ rfl (Nat.le_of_ble_eq_true rfl) dX12_near_3 ?_
  refine mg_iload_n C (i := 2) rfl 2 rfl dX12_near_6 ?_
  refine mg_iconst C (x := nI 1) rfl dX12_near_7 ?_
  refine mg_bipush C (x := nI 20) rfl dX12_near_8 ?_
  refine mg_dosi C (w146_in l v f g n2 (by omega) (by omega)) mCal_in rfl ⟨by decide, by decide⟩ rfl (Nat.le_of_ble_eq_true rfl) dX12_near_10 ?_
  refine mg_aload_n C (i := 0) rfl 0 rfl dX12_near_13 ?_
  refine mg_iconst C (x := nI 2) rfl dX12_near_14 ?_
  refine mg_iconst C (x := nI 2) rfl dX12_near_15 ?_
  refine mg_doi C (w140_hasTokens l v f g h4) mCal_hasTokens rfl ⟨by decide, by decide⟩ rfl (Nat.le_of_ble_eq_true rfl) dX12_near_16 ?_
  refine mg_if_eqB C 33 (by decide) dX12_near_19 (fun c_19 => ?_) (fun c_ => absurd c_ (by decide))
  refine mg_iconst C (x := nI 0) rfl dX12_near_33 ?_
  refine mg_doi C (w129_goes l (upd (upd v 4 (nI 0)) 77 (nI 0)) f g ) mCal_goes rfl ⟨by decide, by decide⟩ rfl (Nat.le_of_ble_eq_true rfl) dX12_near_34 ?_
  refine mg_if_eqB C 51 (by decide) dX12_near_37 (fun c_37 => ?_) (fun c_ => absurd c_ (by decide))
  refine mg_iconst C (x := nI 0) rfl dX12_near_51 ?_
  exact mg_iret C ⟨rfl, rfl⟩ dX12_near_52
set_option maxHeartbeats 4000000 in
set_option maxRecDepth 100000 in
theorem w152_near (l : Launch) (v : Nat → Int32) (f : Nat → Nat → Int32) (g : Nat → Nat → Int64) (n1 : Nat) (x1 : Int32) (h1 : 2 ≤ n1) (h2 : n1 ≤ 2147483647) (h3 : x1 < 0) (h4 : v 2 = (nI 0)) : mMi l yX12_near cX12_near 4 (some .int) 2 46 false [.int (nI n1), .int x1, .int (nI 1)] v f g (fun r_ u_ => r_ = (nI 0) ∧ u_ = (upd (upd (upd v 4 (nI 0)) 77 (nI 0)) 99 (nI 1), f, g)) := by
  intro D cI cJ cZ a sz
  refine mg_body (by decide +kernel) rfl (Nat.le_of_ble_eq_true rfl) ?_
  intro p e s m args below meth c hsz C
  clear hsz
  generalize va_A (mW cI cJ cZ a v f g) sz = A at C ⊢
  refine mg_lv (lv' := [(0, .ref (a 0)), (1, .int (nI n1)), (2, .int x1), (3, .int (nI 1))]) rfl ?_
  refine mg_aload_n C (i := 0) rfl 0 rfl dX12_near_0 ?_
  refine mg_aload_n C (i := 0) rfl 0 rfl dX12_near_1 ?_
  refine mg_iload_n C (i := 1) rfl 1 rfl dX12_near_2 ?_
  refine mg_doi C (w117_isField l v f g n1 (by omega) (by omega)) mCal_isField rfl ⟨by decide, by decide⟩ rfl (Nat.le_of_ble_eq_true rfl) dX12_near_3 ?_
  refine mg_iload_n C (i := 2) rfl 2 rfl dX12_near_6 ?_
  refine mg_iconst C (x := nI 1) rfl dX12_near_7 ?_
  refine mg_bipush C (x := nI 20) rfl dX12_near_8 ?_
  refine mg_dosi C (w138_in l v f g x1 h3) mCal_in rfl ⟨by decide, by decide⟩ rfl (Nat.le_of_ble_eq_true rfl) dX12_near_10 ?_
  refine mg_aload_n C (i := 0) rfl 0 rfl dX12_near_13 ?_
  refine mg_iconst C (x := nI 2) rfl dX12_near_14 ?_
  refine mg_iconst C (x := nI 2) rfl dX12_near_15 ?_
  refine mg_doi C (w140_hasTokens l v f g h4) mCal_hasTokens rfl ⟨by decide, by decide⟩ rfl (Nat.le_of_ble_eq_true rfl) dX12_near_16 ?_
  refine mg_if_eqB C 33 (by decide) dX12_near_19 (fun c_19 => ?_) (fun c_ => absurd c_ (by decide))
  refine mg_iconst C (x := nI 0) rfl dX12_near_33 ?_
  refine mg_doi C (w122_goes l (upd (upd v 4 (nI 0)) 77 (nI 0)) f g ) mCal_goes rfl ⟨by decide, by decide⟩ rfl (Nat.le_of_ble_eq_true rfl) dX12_near_34 ?_
  refine mg_if_eqB C 51 (by decide) dX12_near_37 (fun c_37 => ?_) (fun c_ => absurd c_ (by decide))
  refine mg_iconst C (x := nI 0) rfl dX12_near_51 ?_
  exact mg_iret C ⟨rfl, rfl⟩ dX12_near_52
set_option maxHeartbeats 4000000 in
set_option maxRecDepth 100000 in
theorem w153_near (l : Launch) (v : Nat → Int32) (f : Nat → Nat → Int32) (g : Nat → Nat → Int64) (n1 : Nat) (h1 : 2 ≤ n1) (h2 : n1 ≤ 2147483647) (h3 : v 2 = (nI 0)) : mMi l yX12_near cX12_near 4 (some .int) 2 46 false [.int (nI n1), .int (nI 0), .int (nI 1)] v f g (fun r_ u_ => r_ = (nI 0) ∧ u_ = (upd (upd (upd v 4 (nI 0)) 77 (nI 0)) 99 (nI 1), f, g)) := by
  intro D cI cJ cZ a sz
  refine mg_body (by decide +kernel) rfl (Nat.le_of_ble_eq_true rfl) ?_
  intro p e s m args below meth c hsz C
  clear hsz
  generalize va_A (mW cI cJ cZ a v f g) sz = A at C ⊢
  refine mg_lv (lv' := [(0, .ref (a 0)), (1, .int (nI n1)), (2, .int (nI 0)), (3, .int (nI 1))]) rfl ?_
  refine mg_aload_n C (i := 0) rfl 0 rfl dX12_near_0 ?_
  refine mg_aload_n C (i := 0) rfl 0 rfl dX12_near_1 ?_
  refine mg_iload_n C (i := 1) rfl 1 rfl dX12_near_2 ?_
  refine mg_doi C (w117_isField l v f g n1 (by omega) (by omega)) mCal_isField rfl ⟨by decide, by decide⟩ rfl (Nat.le_of_ble_eq_true rfl) dX12_near_3 ?_
  refine mg_iload_n C (i := 2) rfl 2 rfl dX12_near_6 ?_
  refine mg_iconst C (x := nI 1) rfl dX12_near_7 ?_
  refine mg_bipush C (x := nI 20) rfl dX12_near_8 ?_
  refine mg_dosi C (w142_in l v f g ) mCal_in rfl ⟨by decide, by decide⟩ rfl (Nat.le_of_ble_eq_true rfl) dX12_near_10 ?_
  refine mg_aload_n C (i := 0) rfl 0 rfl dX12_near_13 ?_
  refine mg_iconst C (x := nI 2) rfl dX12_near_14 ?_
  refine mg_iconst C (x := nI 2) rfl dX12_near_15 ?_
  refine mg_doi C (w140_hasTokens l v f g h3) mCal_hasTokens rfl ⟨by decide, by decide⟩ rfl (Nat.le_of_ble_eq_true rfl) dX12_near_16 ?_
  refine mg_if_eqB C 33 (by decide) dX12_near_19 (fun c_19 => ?_) (fun c_ => absurd c_ (by decide))
  refine mg_iconst C (x := nI 0) rfl dX12_near_33 ?_
  refine mg_doi C (w122_goes l (upd (upd v 4 (nI 0)) 77 (nI 0)) f g ) mCal_goes rfl ⟨by decide, by decide⟩ rfl (Nat.le_of_ble_eq_true rfl) dX12_near_34 ?_
  refine mg_if_eqB C 51 (by decide) dX12_near_37 (fun c_37 => ?_) (fun c_ => absurd c_ (by decide))
  refine mg_iconst C (x := nI 0) rfl dX12_near_51 ?_
  exact mg_iret C ⟨rfl, rfl⟩ dX12_near_52
set_option maxHeartbeats 4000000 in
set_option maxRecDepth 100000 in
theorem w154_near (l : Launch) (v : Nat → Int32) (f : Nat → Nat → Int32) (g : Nat → Nat → Int64) (n1 n2 : Nat) (h1 : 2 ≤ n1) (h2 : n1 ≤ 2147483647) (h3 : 1 ≤ n2) (h4 : n2 ≤ 20) (h5 : v 2 = (nI 0)) : mMi l yX12_near cX12_near 4 (some .int) 2 46 false [.int (nI n1), .int (nI n2), .int (nI 1)] v f g (fun r_ u_ => r_ = (nI 0) ∧ u_ = (upd (upd (upd v 4 (nI 0)) 77 (nI 0)) 99 (nI 1), f, g)) := by
  intro D cI cJ cZ a sz
  refine mg_body (by decide +kernel) rfl (Nat.le_of_ble_eq_true rfl) ?_
  intro p e s m args below meth c hsz C
  clear hsz
  generalize va_A (mW cI cJ cZ a v f g) sz = A at C ⊢
  refine mg_lv (lv' := [(0, .ref (a 0)), (1, .int (nI n1)), (2, .int (nI n2)), (3, .int (nI 1))]) rfl ?_
  refine mg_aload_n C (i := 0) rfl 0 rfl dX12_near_0 ?_
  refine mg_aload_n C (i := 0) rfl 0 rfl dX12_near_1 ?_
  refine mg_iload_n C (i := 1) rfl 1 rfl dX12_near_2 ?_
  refine mg_doi C (w117_isField l v f g n1 (by omega) (by omega)) mCal_isField rfl ⟨by decide, by decide⟩ rfl (Nat.le_of_ble_eq_true rfl) dX12_near_3 ?_
  refine mg_iload_n C (i := 2) rfl 2 rfl dX12_near_6 ?_
  refine mg_iconst C (x := nI 1) rfl dX12_near_7 ?_
  refine mg_bipush C (x := nI 20) rfl dX12_near_8 ?_
  refine mg_dosi C (w144_in l v f g n2 (by omega) (by omega)) mCal_in rfl ⟨by decide, by decide⟩ rfl (Nat.le_of_ble_eq_true rfl) dX12_near_10 ?_
  refine mg_aload_n C (i := 0) rfl 0 rfl dX12_near_13 ?_
  refine mg_iconst C (x := nI 2) rfl dX12_near_14 ?_
  refine mg_iconst C (x := nI 2) rfl dX12_near_15 ?_
  refine mg_doi C (w140_hasTokens l v f g h5) mCal_hasTokens rfl ⟨by decide, by decide⟩ rfl (Nat.le_of_ble_eq_true rfl) dX12_near_16 ?_
  refine mg_if_eqB C 33 (by decide) dX12_near_19 (fun c_19 => ?_) (fun c_ => absurd c_ (by decide))
  refine mg_iconst C (x := nI 0) rfl dX12_near_33 ?_
  refine mg_doi C (w125_goes l (upd (upd v 4 (nI 0)) 77 (nI 0)) f g ) mCal_goes rfl ⟨by decide, by decide⟩ rfl (Nat.le_of_ble_eq_true rfl) dX12_near_34 ?_
  refine mg_if_eqB C 51 (by decide) dX12_near_37 (fun c_37 => ?_) (fun c_ => absurd c_ (by decide))
  refine mg_iconst C (x := nI 0) rfl dX12_near_51 ?_
  exact mg_iret C ⟨rfl, rfl⟩ dX12_near_52
set_option maxHeartbeats 4000000 in
set_option maxRecDepth 100000 in
theorem w155_near (l : Launch) (v : Nat → Int32) (f : Nat → Nat → Int32) (g : Nat → Nat → Int64) (n1 n2 : Nat) (h1 : 2 ≤ n1) (h2 : n1 ≤ 2147483647) (h3 : 21 ≤ n2) (h4 : n2 ≤ 2147483647) (h5 : v 2 = (nI 0)) : mMi l yX12_near cX12_near 4 (some .int) 2 46 false [.int (nI n1), .int (nI n2), .int (nI 1)] v f g (fun r_ u_ => r_ = (nI 0) ∧ u_ = (upd (upd (upd v 4 (nI 0)) 77 (nI 0)) 99 (nI 1), f, g)) := by
  intro D cI cJ cZ a sz
  refine mg_body (by decide +kernel) rfl (Nat.le_of_ble_eq_true rfl) ?_
  intro p e s m args below meth c hsz C
  clear hsz
  generalize va_A (mW cI cJ cZ a v f g) sz = A at C ⊢
  refine mg_lv (lv' := [(0, .ref (a 0)), (1, .int (nI n1)), (2, .int (nI n2)), (3, .int (nI 1))]) rfl ?_
  refine mg_aload_n C (i := 0) rfl 0 rfl dX12_near_0 ?_
  refine mg_aload_n C (i := 0) rfl 0 rfl dX12_near_1 ?_
  refine mg_iload_n C (i := 1) rfl 1 rfl dX12_near_2 ?_
  refine mg_doi C (w117_isField l v f g n1 (by omega) (by omega)) mCal_isField rfl ⟨by decide, by decide⟩ rfl (Nat.le_of_ble_eq_true rfl) dX12_near_3 ?_
  refine mg_iload_n C (i := 2) rfl 2 rfl dX12_near_6 ?_
  refine mg_iconst C (x := nI 1) rfl dX12_near_7 ?_
  refine mg_bipush C (x := nI 20) rfl dX12_near_8 ?_
  refine mg_dosi C (w146_in l v f g n2 (by omega) (by omega)) mCal_in rfl ⟨by decide, by decide⟩ rfl (Nat.le_of_ble_eq_true rfl) dX12_near_10 ?_
  refine mg_aload_n C (i := 0) rfl 0 rfl dX12_near_13 ?_
  refine mg_iconst C (x := nI 2) rfl dX12_near_14 ?_
  refine mg_iconst C (x := nI 2) rfl dX12_near_15 ?_
  refine mg_doi C (w140_hasTokens l v f g h5) mCal_hasTokens rfl ⟨by decide, by decide⟩ rfl (Nat.le_of_ble_eq_true rfl) dX12_near_16 ?_
  refine mg_if_eqB C 33 (by decide) dX12_near_19 (fun c_19 => ?_) (fun c_ => absurd c_ (by decide))
  refine mg_iconst C (x := nI 0) rfl dX12_near_33 ?_
  refine mg_doi C (w122_goes l (upd (upd v 4 (nI 0)) 77 (nI 0)) f g ) mCal_goes rfl ⟨by decide, by decide⟩ rfl (Nat.le_of_ble_eq_true rfl) dX12_near_34 ?_
  refine mg_if_eqB C 51 (by decide) dX12_near_37 (fun c_37 => ?_) (fun c_ => absurd c_ (by decide))
  refine mg_iconst C (x := nI 0) rfl dX12_near_51 ?_
  exact mg_iret C ⟨rfl, rfl⟩ dX12_near_52
set_option maxHeartbeats 4000000 in
set_option maxRecDepth 100000 in
theorem w156_near (l : Launch) (v : Nat → Int32) (f : Nat → Nat → Int32) (g : Nat → Nat → Int64) (x1 x2 : Int32) (h1 : x1 < 0) (h2 : x2 < 0) (h3 : v 2 = (nI 0)) : mMi l yX12_near cX12_near 4 (some .int) 2 46 false [.int x1, .int x2, .int (nI 0)] v f g (fun r_ u_ => r_ = (nI 0) ∧ u_ = (upd (upd (upd v 4 (nI 0)) 77 (nI 0)) 99 (nI 1), f, g)) := by
  intro D cI cJ cZ a sz
  refine mg_body (by decide +kernel) rfl (Nat.le_of_ble_eq_true rfl) ?_
  intro p e s m args below meth c hsz C
  clear hsz
  generalize va_A (mW cI cJ cZ a v f g) sz = A at C ⊢
  refine mg_lv (lv' := [(0, .ref (a 0)), (1, .int x1), (2, .int x2), (3, .int (nI 0))]) rfl ?_
  refine mg_aload_n C (i := 0) rfl 0 rfl dX12_near_0 ?_
  refine mg_aload_n C (i := 0) rfl 0 rfl dX12_near_1 ?_
  refine mg_iload_n C (i := 1) rfl 1 rfl dX12_near_2 ?_
  refine mg_doi C (w107_isField l v f g x1 h1) mCal_isField rfl ⟨by decide, by decide⟩ rfl (Nat.le_of_ble_eq_true rfl) dX12_near_3 ?_
  refine mg_iload_n C (i := 2) rfl 2 rfl dX12_near_6 ?_
  refine mg_iconst C (x := nI 1) rfl dX12_near_7 ?_
  refine mg_bipush C (x := nI 20) rfl dX12_near_8 ?_
  refine mg_dosi C (w138_in l v f g x2 h2) mCal_in rfl ⟨by decide, by decide⟩ rfl (Nat.le_of_ble_eq_true rfl) dX12_near_10 ?_
  refine mg_aload_n C (i := 0) rfl 0 rfl dX12_near_13 ?_
  refine mg_iconst C (x := nI 2) rfl dX12_near_14 ?_
  refine mg_iconst C (x := nI 2) rfl dX12_near_15 ?_
  refine mg_doi C (w140_hasTokens l v f g h3) mCal_hasTokens rfl ⟨by decide, by decide⟩ rfl (Nat.le_of_ble_eq_true rfl) dX12_near_16 ?_
  refine mg_if_eqB C 33 (by decide) dX12_near_19 (fun c_19 => ?_) (fun c_ => absurd c_ (by decide))
  refine mg_iconst C (x := nI 0) rfl dX12_near_33 ?_
  refine mg_doi C (w122_goes l (upd (upd v 4 (nI 0)) 77 (nI 0)) f g ) mCal_goes rfl ⟨by decide, by decide⟩ rfl (Nat.le_of_ble_eq_true rfl) dX12_near_34 ?_
  refine mg_if_eqB C 51 (by decide) dX12_near_37 (fun c_37 => ?_) (fun c_ => absurd c_ (by decide))
  refine mg_iconst C (x := nI 0) rfl dX12_near_51 ?_
  exact mg_iret C ⟨rfl, rfl⟩ dX12_near_52
set_option maxHeartbeats 4000000 in
set_option maxRecDepth 100000 in
theorem w157_near (l : Launch) (v : Nat → Int32) (f : Nat → Nat → Int32) (g : Nat → Nat → Int64) (x1 : Int32) (h1 : x1 < 0) (h2 : v 2 = (nI 0)) : mMi l yX12_near cX12_near 4 (some .int) 2 46 false [.int x1, .int (nI 0), .int (nI 0)] v f g (fun r_ u_ => r_ = (nI 0) ∧ u_ = (upd (upd (upd v 4 (nI 0)) 77 (nI 0)) 99 (nI 1), f, g)) := by
  intro D cI cJ cZ a sz
  refine mg_body (by decide +kernel) rfl (Nat.le_of_ble_eq_true rfl) ?_
  intro p e s m args below meth c hsz C
  clear hsz
  generalize va_A (mW cI cJ cZ a v f g) sz = A at C ⊢
  refine mg_lv (lv' := [(0, .ref (a 0)), (1, .int x1), (2, .int (nI 0)), (3, .int (nI 0))]) rfl ?_
  refine mg_aload_n C (i := 0) rfl 0 rfl dX12_near_0 ?_
  refine mg_aload_n C (i := 0) rfl 0 rfl dX12_near_1 ?_
  refine mg_iload_n C (i := 1) rfl 1 rfl dX12_near_2 ?_
  refine mg_doi C (w107_isField l v f g x1 h1) mCal_isField rfl ⟨by decide, by decide⟩ rfl (Nat.le_of_ble_eq_true rfl) dX12_near_3 ?_
  refine mg_iload_n C (i := 2) rfl 2 rfl dX12_near_6 ?_
  refine mg_iconst C (x := nI 1) rfl dX12_near_7 ?_
  refine mg_bipush C (x := nI 20) rfl dX12_near_8 ?_
  refine mg_dosi C (w142_in l v f g ) mCal_in rfl ⟨by decide, by decide⟩ rfl (Nat.le_of_ble_eq_true rfl) dX12_near_10 ?_
  refine mg_aload_n C (i := 0) rfl 0 rfl dX12_near_13 ?_
  refine mg_iconst C (x := nI 2) rfl dX12_near_14 ?_
  refine mg_iconst C (x := nI 2) rfl dX12_near_15 ?_
  refine mg_doi C (w140_hasTokens l v f g h2) mCal_hasTokens rfl ⟨by decide, by decide⟩ rfl (Nat.le_of_ble_eq_true rfl) dX12_near_16 ?_
  refine mg_if_eqB C 33 (by decide) dX12_near_19 (fun c_19 => ?_) (fun c_ => absurd c_ (by decide))
  refine mg_iconst C (x := nI 0) rfl dX12_near_33 ?_
  refine mg_doi C (w122_goes l (upd (upd v 4 (nI 0)) 77 (nI 0)) f g ) mCal_goes rfl ⟨by decide, by decide⟩ rfl (Nat.le_of_ble_eq_true rfl) dX12_near_34 ?_
  refine mg_if_eqB C 51 (by decide) dX12_near_37 (fun c_37 => ?_) (fun c_ => absurd c_ (by decide))
  refine mg_iconst C (x := nI 0) rfl dX12_near_51 ?_
  exact mg_iret C ⟨rfl, rfl⟩ dX12_near_52
set_option maxHeartbeats 4000000 in
set_option maxRecDepth 100000 in
theorem w158_near (l : Launch) (v : Nat → Int32) (f : Nat → Nat → Int32) (g : Nat → Nat → Int64) (n1 : Nat) (x1 : Int32) (h1 : x1 < 0) (h2 : 1 ≤ n1) (h3 : n1 ≤ 20) (h4 : v 2 = (nI 0)) : mMi l yX12_near cX12_near 4 (some .int) 2 46 false [.int x1, .int (nI n1), .int (nI 0)] v f g (fun r_ u_ => r_ = (nI 0) ∧ u_ = (upd (upd (upd v 4 (nI 0)) 77 (nI 0)) 99 (nI 1), f, g)) := by
  intro D cI cJ cZ a sz
  refine mg_body (by decide +kernel) rfl (Nat.le_of_ble_eq_true rfl) ?_
  intro p e s m args below meth c hsz C
  clear hsz
  generalize va_A (mW cI cJ cZ a v f g) sz = A at C ⊢
  refine mg_lv (lv' := [(0, .ref (a 0)), (1, .int x1), (2, .int (nI n1)), (3, .int (nI 0))]) rfl ?_
  refine mg_aload_n C (i := 0) rfl 0 rfl dX12_near_0 ?_
  refine mg_aload_n C (i := 0) rfl 0 rfl dX12_near_1 ?_
  refine mg_iload_n C (i := 1) rfl 1 rfl dX12_near_2 ?_
  refine mg_doi C (w107_isField l v f g x1 h1) mCal_isField rfl ⟨by decide, by decide⟩ rfl (Nat.le_of_ble_eq_true rfl) dX12_near_3 ?_
  refine mg_iload_n C (i := 2) rfl 2 rfl dX12_near_6 ?_
  refine mg_iconst C (x := nI 1) rfl dX12_near_7 ?_
  refine mg_bipush C (x := nI 20) rfl dX12_near_8 ?_
  refine mg_dosi C (w144_in l v f g n1 (by omega) (by omega)) mCal_in rfl ⟨by decide, by decide⟩ rfl (Nat.le_of_ble_eq_true rfl) dX12_near_10 ?_
  refine mg_aload_n C (i := 0) rfl 0 rfl dX12_near_13 ?_
  refine mg_iconst C (x := nI 2) rfl dX12_near_14 ?_
  refine mg_iconst C (x := nI 2) rfl dX12_near_15 ?_
  refine mg_doi C (w140_hasTokens l v f g h4) mCal_hasTokens rfl ⟨by decide, by decide⟩ rfl (Nat.le_of_ble_eq_true rfl) dX12_near_16 ?_
  refine mg_if_eqB C 33 (by decide) dX12_near_19 (fun c_19 => ?_) (fun c_ => absurd c_ (by decide))
  refine mg_iconst C (x := nI 0) rfl dX12_near_33 ?_
  refine mg_doi C (w125_goes l (upd (upd v 4 (nI 0)) 77 (nI 0)) f g ) mCal_goes rfl ⟨by decide, by decide⟩ rfl (Nat.le_of_ble_eq_true rfl) dX12_near_34 ?_
  refine mg_if_eqB C 51 (by decide) dX12_near_37 (fun c_37 => ?_) (fun c_ => absurd c_ (by decide))
  refine mg_iconst C (x := nI 0) rfl dX12_near_51 ?_
  exact mg_iret C ⟨rfl, rfl⟩ dX12_near_52
set_option maxHeartbeats 4000000 in
set_option maxRecDepth 100000 in
theorem w159_near (l : Launch) (v : Nat → Int32) (f : Nat → Nat → Int32) (g : Nat → Nat → Int64) (n1 : Nat) (x1 : Int32) (h1 : x1 < 0) (h2 : 21 ≤ n1) (h3 : n1 ≤ 2147483647) (h4 : v 2 = (nI 0)) : mMi l yX12_near cX12_near 4 (some .int) 2 46 false [.int x1, .int (nI n1), .int (nI 0)] v f g (fun r_ u_ => r_ = (nI 0) ∧ u_ = (upd (upd (upd v 4 (nI 0)) 77 (nI 0)) 99 (nI 1), f, g)) := by
  intro D cI cJ cZ a sz
  refine mg_body (by decide +kernel) rfl (Nat.le_of_ble_eq_true rfl) ?_
  intro p e s m args below meth c hsz C
  clear hsz
  generalize va_A (mW cI cJ cZ a v f g) sz = A at C ⊢
  refine mg_lv (lv' := [(0, .ref (a 0)), (1, .int x1), (2, .int (nI n1)), (3, .int (nI 0))]) rfl ?_
  refine mg_aload_n C (i := 0) rfl 0 rfl dX12_near_0 ?_
  refine mg_aload_n C (i := 0) rfl 0 rfl dX12_near_1 ?_
  refine mg_iload_n C (i := 1) rfl 1 rfl dX12_near_2 ?_
  refine mg_doi C (w107_isField l v f g x1 h1) mCal_isField rfl ⟨by decide, by decide⟩ rfl (Nat.le_of_ble_eq_true rfl) dX12_near_3 ?_
  refine mg_iload_n C (i := 2) rfl 2 rfl dX12_near_6 ?_
  refine mg_iconst C (x := nI 1) rfl dX12_near_7 ?_
  refine mg_bipush C (x := nI 20) rfl dX12_near_8 ?_
  refine mg_dosi C (w146_in l v f g n1 (by omega) (by omega)) mCal_in rfl ⟨by decide, by decide⟩ rfl (Nat.le_of_ble_eq_true rfl) dX12_near_10 ?_
  refine mg_aload_n C (i := 0) rfl 0 rfl dX12_near_13 ?_
  refine mg_iconst C (x := nI 2) rfl dX12_near_14 ?_
  refine mg_iconst C (x := nI 2) rfl dX12_near_15 ?_
  refine mg_doi C (w140_hasTokens l v f g h4) mCal_hasTokens rfl ⟨by decide, by decide⟩ rfl (Nat.le_of_ble_eq_true rfl) dX12_near_16 ?_
  refine mg_if_eqB C 33 (by decide) dX12_near_19 (fun c_19 => ?_) (fun c_ => absurd c_ (by decide))
  refine mg_iconst C (x := nI 0) rfl dX12_near_33 ?_
  refine mg_doi C (w122_goes l (upd (upd v 4 (nI 0)) 77 (nI 0)) f g ) mCal_goes rfl ⟨by decide, by decide⟩ rfl (Nat.le_of_ble_eq_true rfl) dX12_near_34 ?_
  refine mg_if_eqB C 51 (by decide) dX12_near_37 (fun c_37 => ?_) (fun c_ => absurd c_ (by decide))
  refine mg_iconst C (x := nI 0) rfl dX12_near_51 ?_
  exact mg_iret C ⟨rfl, rfl⟩ dX12_near_52
set_option maxHeartbeats 4000000 in
set_option maxRecDepth 100000 in
theorem w160_near (l : Launch) (v : Nat → Int32) (f : Nat → Nat → Int32) (g : Nat → Nat → Int64) (n1 : Nat) (x1 : Int32) (h1 : n1 ≤ 1) (h2 : x1 < 0) (h3 : v 2 = (nI 0)) : mMi l yX12_near cX12_near 4 (some .int) 2 46 false [.int (nI n1), .int x1, .int (nI 0)] v f g (fun r_ u_ => r_ = (nI 0) ∧ u_ = (upd (upd (upd v 4 (nI 0)) 77 (nI 0)) 99 (nI 2), f, g)) := by
  intro D cI cJ cZ a sz
  refine mg_body (by decide +kernel) rfl (Nat.le_of_ble_eq_true rfl) ?_
  intro p e s m args below meth c hsz C
  clear hsz
  generalize va_A (mW cI cJ cZ a v f g) sz = A at C ⊢
  refine mg_lv (lv' := [(0, .ref (a 0)), (1, .int (nI n1)), (2, .int x1), (3, .int (nI 0))]) rfl ?_
  refine mg_aload_n C (i := 0) rfl 0 rfl dX12_near_0 ?_
  refine mg_aload_n C (i := 0) rfl 0 rfl dX12_near_1 ?_
  refine mg_iload_n C (i := 1) rfl 1 rfl dX12_near_2 ?_
  refine mg_doi C (w113_isField l v f g n1 (by omega)) mCal_isField rfl ⟨by decide, by decide⟩ rfl (Nat.le_of_ble_eq_true rfl) dX12_near_3 ?_
  refine mg_iload_n C (i := 2) rfl 2 rfl dX12_near_6 ?_
  refine mg_iconst C (x := nI 1) rfl dX12_near_7 ?_
  refine mg_bipush C (x := nI 20) rfl dX12_near_8 ?_
  refine mg_dosi C (w138_in l v f g x1 h2) mCal_in rfl ⟨by decide, by decide⟩ rfl (Nat.le_of_ble_eq_true rfl) dX12_near_10 ?_
  refine mg_aload_n C (i := 0) rfl 0 rfl dX12_near_13 ?_
  refine mg_iconst C (x := nI 2) rfl dX12_near_14 ?_
  refine mg_iconst C (x := nI 2) rfl dX12_near_15 ?_
  refine mg_doi C (w140_hasTokens l v f g h3) mCal_hasTokens rfl ⟨by decide, by decide⟩ rfl (Nat.le_of_ble_eq_true rfl) dX12_near_16 ?_
  refine mg_if_eqB C 33 (by decide) dX12_near_19 (fun c_19 => ?_) (fun c_ => absurd c_ (by decide))
  refine mg_iconst C (x := nI 0) rfl dX12_near_33 ?_
  refine mg_doi C (w129_goes l (upd (upd v 4 (nI 0)) 77 (nI 0)) f g ) mCal_goes rfl ⟨by decide, by decide⟩ rfl (Nat.le_of_ble_eq_true rfl) dX12_near_34 ?_
  refine mg_if_eqB C 51 (by decide) dX12_near_37 (fun c_37 => ?_) (fun c_ => absurd c_ (by decide))
  refine mg_iconst C (x := nI 0) rfl dX12_near_51 ?_
  exact mg_iret C ⟨rfl, rfl⟩ dX12_near_52
set_option maxHeartbeats 4000000 in
set_option maxRecDepth 100000 in
theorem w161_near (l : Launch) (v : Nat → Int32) (f : Nat → Nat → Int32) (g : Nat → Nat → Int64) (n1 : Nat) (h1 : n1 ≤ 1) (h2 : v 2 = (nI 0)) : mMi l yX12_near cX12_near 4 (some .int) 2 46 false [.int (nI n1), .int (nI 0), .int (nI 0)] v f g (fun r_ u_ => r_ = (nI 0) ∧ u_ = (upd (upd (upd v 4 (nI 0)) 77 (nI 0)) 99 (nI 2), f, g)) := by
  intro D cI cJ cZ a sz
  refine mg_body (by decide +kernel) rfl (Nat.le_of_ble_eq_true rfl) ?_
  intro p e s m args below meth c hsz C
  clear hsz
  generalize va_A (mW cI cJ cZ a v f g) sz = A at C ⊢
  refine mg_lv (lv' := [(0, .ref (a 0)), (1, .int (nI n1)), (2, .int (nI 0)), (3, .int (nI 0))]) rfl ?_
  refine mg_aload_n C (i := 0) rfl 0 rfl dX12_near_0 ?_
  refine mg_aload_n C (i := 0) rfl 0 rfl dX12_near_1 ?_
  refine mg_iload_n C (i := 1) rfl 1 rfl dX12_near_2 ?_
  refine mg_doi C (w113_isField l v f g n1 (by omega)) mCal_isField rfl ⟨by decide, by decide⟩ rfl (Nat.le_of_ble_eq_true rfl) dX12_near_3 ?_
  refine mg_iload_n C (i := 2) rfl 2 rfl dX12_near_6 ?_
  refine mg_iconst C (x := nI 1) rfl dX12_near_7 ?_
  refine mg_bipush C (x := nI 20) rfl dX12_near_8 ?_
  refine mg_dosi C (w142_in l v f g ) mCal_in rfl ⟨by decide, by decide⟩ rfl (Nat.le_of_ble_eq_true rfl) dX12_near_10 ?_
  refine mg_aload_n C (i := 0) rfl 0 rfl dX12_near_13 ?_
  refine mg_iconst C (x := nI 2) rfl dX12_near_14 ?_
  refine mg_iconst C (x := nI 2) rfl dX12_near_15 ?_
  refine mg_doi C (w140_hasTokens l v f g h2) mCal_hasTokens rfl ⟨by decide, by decide⟩ rfl (Nat.le_of_ble_eq_true rfl) dX12_near_16 ?_
  refine mg_if_eqB C 33 (by decide) dX12_near_19 (fun c_19 => ?_) (fun c_ => absurd c_ (by decide))
  refine mg_iconst C (x := nI 0) rfl dX12_near_33 ?_
  refine mg_doi C (w129_goes l (upd (upd v 4 (nI 0)) 77 (nI 0)) f g ) mCal_goes rfl ⟨by decide, by decide⟩ rfl (Nat.le_of_ble_eq_true rfl) dX12_near_34 ?_
  refine mg_if_eqB C 51 (by decide) dX12_near_37 (fun c_37 => ?_) (fun c_ => absurd c_ (by decide))
  refine mg_iconst C (x := nI 0) rfl dX12_near_51 ?_
  exact mg_iret C ⟨rfl, rfl⟩ dX12_near_52
set_option maxHeartbeats 4000000 in
set_option maxRecDepth 100000 in
theorem w162_near (l : Launch) (v : Nat → Int32) (f : Nat → Nat → Int32) (g : Nat → Nat → Int64) (n1 n2 : Nat) (h1 : n1 ≤ 1) (h2 : 1 ≤ n2) (h3 : n2 ≤ 20) (h4 : v 2 = (nI 0)) : mMi l yX12_near cX12_near 4 (some .int) 2 46 false [.int (nI n1), .int (nI n2), .int (nI 0)] v f g (fun r_ u_ => r_ = (nI 0) ∧ u_ = (upd (upd (upd v 4 (nI 0)) 77 (nI 0)) 99 (nI 3), f, g)) := by
  intro D cI cJ cZ a sz
  refine mg_body (by decide +kernel) rfl (Nat.le_of_ble_eq_true rfl) ?_
  intro p e s m args below meth c hsz C
  clear hsz
  generalize va_A (mW cI cJ cZ a v f g) sz = A at C ⊢
  refine mg_lv (lv' := [(0, .ref (a 0)), (1, .int (nI n1)), (2, .int (nI n2)), (3, .int (nI 0))]) rfl ?_
  refine mg_aload_n C (i := 0) rfl 0 rfl dX12_near_0 ?_
  refine mg_aload_n C (i := 0) rfl 0 rfl dX12_near_1 ?_
  refine mg_iload_n C (i := 1) rfl 1 rfl dX12_near_2 ?_
  refine mg_doi C (w113_isField l v f g n1 (by omega)) mCal_isField rfl ⟨by decide, by decide⟩ rfl (Nat.le_of_ble_eq_true rfl) dX12_near_3 ?_
  refine mg_iload_n C (i := 2) rfl 2 rfl dX12_near_6 ?_
  refine mg_iconst C (x := nI 1) rfl dX12_near_7 ?_
  refine mg_bipush C (x := nI 20) rfl dX12_near_8 ?_
  refine mg_dosi C (w144_in l v f g n2 (by omega) (by omega)) mCal_in rfl ⟨by decide, by decide⟩ rfl (Nat.le_of_ble_eq_true rfl) dX12_near_10 ?_
  refine mg_aload_n C (i := 0) rfl 0 rfl dX12_near_13 ?_
  refine mg_iconst C (x := nI 2) rfl dX12_near_14 ?_
  refine mg_iconst C (x := nI 2) rfl dX12_near_15 ?_
  refine mg_doi C (w140_hasTokens l v f g h4) mCal_hasTokens rfl ⟨by decide, by decide⟩ rfl (Nat.le_of_ble_eq_true rfl) dX12_near_16 ?_
  refine mg_if_eqB C 33 (by decide) dX12_near_19 (fun c_19 => ?_) (fun c_ => absurd c_ (by decide))
  refine mg_iconst C (x := nI 0) rfl dX12_near_33 ?_
  refine mg_doi C (w131_goes l (upd (upd v 4 (nI 0)) 77 (nI 0)) f g ) mCal_goes rfl ⟨by decide, by decide⟩ rfl (Nat.le_of_ble_eq_true rfl) dX12_near_34 ?_
  refine mg_if_eqB C 51 (by decide) dX12_near_37 (fun c_37 => ?_) (fun c_ => absurd c_ (by decide))
  refine mg_iconst C (x := nI 0) rfl dX12_near_51 ?_
  exact mg_iret C ⟨rfl, rfl⟩ dX12_near_52
set_option maxHeartbeats 4000000 in
set_option maxRecDepth 100000 in
theorem w163_near (l : Launch) (v : Nat → Int32) (f : Nat → Nat → Int32) (g : Nat → Nat → Int64) (n1 n2 : Nat) (h1 : n1 ≤ 1) (h2 : 21 ≤ n2) (h3 : n2 ≤ 2147483647) (h4 : v 2 = (nI 0)) : mMi l yX12_near cX12_near 4 (some .int) 2 46 false [.int (nI n1), .int (nI n2), .int (nI 0)] v f g (fun r_ u_ => r_ = (nI 0) ∧ u_ = (upd (upd (upd v 4 (nI 0)) 77 (nI 0)) 99 (nI 2), f, g)) := by
  intro D cI cJ cZ a sz
  refine mg_body (by decide +kernel) rfl (Nat.le_of_ble_eq_true rfl) ?_
  intro p e s m args below meth c hsz C
  clear hsz
  generalize va_A (mW cI cJ cZ a v f g) sz = A at C ⊢
  refine mg_lv (lv' := [(0, .ref (a 0)), (1, .int (nI n1)), (2, .int (nI n2)), (3, .int (nI 0))]) rfl ?_
  refine mg_aload_n C (i := 0) rfl 0 rfl dX12_near_0 ?_
  refine mg_aload_n C (i := 0) rfl 0 rfl dX12_near_1 ?_
  refine mg_iload_n C (i := 1) rfl 1 rfl dX12_near_2 ?_
  refine mg_doi C (w113_isField l v f g n1 (by omega)) mCal_isField rfl ⟨by decide, by decide⟩ rfl (Nat.le_of_ble_eq_true rfl) dX12_near_3 ?_
  refine mg_iload_n C (i := 2) rfl 2 rfl dX12_near_6 ?_
  refine mg_iconst C (x := nI 1) rfl dX12_near_7 ?_
  refine mg_bipush C (x := nI 20) rfl dX12_near_8 ?_
  refine mg_dosi C (w146_in l v f g n2 (by omega) (by omega)) mCal_in rfl ⟨by decide, by decide⟩ rfl (Nat.le_of_ble_eq_true rfl) dX12_near_10 ?_
  refine mg_aload_n C (i := 0) rfl 0 rfl dX12_near_13 ?_
  refine mg_iconst C (x := nI 2) rfl dX12_near_14 ?_
  refine mg_iconst C (x := nI 2) rfl dX12_near_15 ?_
  refine mg_doi C (w140_hasTokens l v f g h4) mCal_hasTokens rfl ⟨by decide, by decide⟩ rfl (Nat.le_of_ble_eq_true rfl) dX12_near_16 ?_
  refine mg_if_eqB C 33 (by decide) dX12_near_19 (fun c_19 => ?_) (fun c_ => absurd c_ (by decide))
  refine mg_iconst C (x := nI 0) rfl dX12_near_33 ?_
  refine mg_doi C (w129_goes l (upd (upd v 4 (nI 0)) 77 (nI 0)) f g ) mCal_goes rfl ⟨by decide, by decide⟩ rfl (Nat.le_of_ble_eq_true rfl) dX12_near_34 ?_
  refine mg_if_eqB C 51 (by decide) dX12_near_37 (fun c_37 => ?_) (fun c_ => absurd c_ (by decide))
  refine mg_iconst C (x := nI 0) rfl dX12_near_51 ?_
  exact mg_iret C ⟨rfl, rfl⟩ dX12_near_52
set_option maxHeartbeats 4000000 in
set_option maxRecDepth 100000 in
theorem w164_near (l : Launch) (v : Nat → Int32) (f : Nat → Nat → Int32) (g : Nat → Nat → Int64) (n1 : Nat) (x1 : Int32) (h1 : 2 ≤ n1) (h2 : n1 ≤ 2147483647) (h3 : x1 < 0) (h4 : v 2 = (nI 0)) : mMi l yX12_near cX12_near 4 (some .int) 2 46 false [.int (nI n1), .int x1, .int (nI 0)] v f g (fun r_ u_ => r_ = (nI 0) ∧ u_ = (upd (upd (upd v 4 (nI 0)) 77 (nI 0)) 99 (nI 1), f, g)) := by
  intro D cI cJ cZ a sz
  refine mg_body (by decide +kernel) rfl (Nat.le_of_ble_eq_true rfl) ?_
  intro p e s m args below meth c hsz C
  clear hsz
  generalize va_A (mW cI cJ cZ a v f g) sz = A at C ⊢
  refine mg_lv (lv' := [(0, .ref (a 0)), (1, .int (nI n1)), (2, .int x1), (3, .int (nI 0))]) rfl ?_
  refine mg_aload_n C (i := 0) rfl 0 rfl dX12_near_0 ?_
  refine mg_aload_n C (i := 0) rfl 0 rfl dX12_near_1 ?_
  refine mg_iload_n C (i := 1) rfl 1 rfl dX12_near_2 ?_
  refine mg_doi C (w117_isField l v f g n1 (by omega) (by omega)) mCal_isField rfl ⟨by decide, by decide⟩ rfl (Nat.le_of_ble_eq_true rfl) dX12_near_3 ?_
  refine mg_iload_n C (i := 2) rfl 2 rfl dX12_near_6 ?_
  refine mg_iconst C (x := nI 1) rfl dX12_near_7 ?_
  refine mg_bipush C (x := nI 20) rfl dX12_near_8 ?_
  refine mg_dosi C (w138_in l v f g x1 h3) mCal_in rfl ⟨by decide, by decide⟩ rfl (Nat.le_of_ble_eq_true rfl) dX12_near_10 ?_
  refine mg_aload_n C (i := 0) rfl 0 rfl dX12_near_13 ?_
  refine mg_iconst C (x := nI 2) rfl dX12_near_14 ?_
  refine mg_iconst C (x := nI 2) rfl dX12_near_15 ?_
  refine mg_doi C (w140_hasTokens l v f g h4) mCal_hasTokens rfl ⟨by decide, by decide⟩ rfl (Nat.le_of_ble_eq_true rfl) dX12_near_16 ?_
  refine mg_if_eqB C 33 (by decide) dX12_near_19 (fun c_19 => ?_) (fun c_ => absurd c_ (by decide))
  refine mg_iconst C (x := nI 0) rfl dX12_near_33 ?_
  refine mg_doi C (w122_goes l (upd (upd v 4 (nI 0)) 77 (nI 0)) f g ) mCal_goes rfl ⟨by decide, by decide⟩ rfl (Nat.le_of_ble_eq_true rfl) dX12_near_34 ?_
  refine mg_if_eqB C 51 (by decide) dX12_near_37 (fun c_37 => ?_) (fun c_ => absurd c_ (by decide))
  refine mg_iconst C (x := nI 0) rfl dX12_near_51 ?_
  exact mg_iret C ⟨rfl, rfl⟩ dX12_near_52
set_option maxHeartbeats 4000000 in
set_option maxRecDepth 100000 in
theorem w165_near (l : Launch) (v : Nat → Int32) (f : Nat → Nat → Int32) (g : Nat → Nat → Int64) (n1 : Nat) (h1 : 2 ≤ n1) (h2 : n1 ≤ 2147483647) (h3 : v 2 = (nI 0)) : mMi l yX12_near cX12_near 4 (some .int) 2 46 false [.int (nI n1), .int (nI 0), .int (nI 0)] v f g (fun r_ u_ => r_ = (nI 0) ∧ u_ = (upd (upd (upd v 4 (nI 0)) 77 (nI 0)) 99 (nI 1), f, g)) := by
  intro D cI cJ cZ a sz
  refine mg_body (by decide +kernel) rfl (Nat.le_of_ble_eq_true rfl) ?_
  intro p e s m args below meth c hsz C
  clear hsz
  generalize va_A (mW cI cJ cZ a v f g) sz = A at C ⊢
  refine mg_lv (lv' := [(0, .ref (a 0)), (1, .int (nI n1)), (2, .int (nI 0)), (3, .int (nI 0))]) rfl ?_
  refine mg_aload_n C (i := 0) rfl 0 rfl dX12_near_0 ?_
  refine mg_aload_n C (i := 0) rfl 0 rfl dX12_near_1 ?_
  refine mg_iload_n C (i := 1) rfl 1 rfl dX12_near_2 ?_
  refine mg_doi C (w117_isField l v f g n1 (by omega) (by omega)) mCal_isField rfl ⟨by decide, by decide⟩ rfl (Nat.le_of_ble_eq_true rfl) dX12_near_3 ?_
  refine mg_iload_n C (i := 2) rfl 2 rfl dX12_near_6 ?_
  refine mg_iconst C (x := nI 1) rfl dX12_near_7 ?_
  refine mg_bipush C (x := nI 20) rfl dX12_near_8 ?_
  refine mg_dosi C (w142_in l v f g ) mCal_in rfl ⟨by decide, by decide⟩ rfl (Nat.le_of_ble_eq_true rfl) dX12_near_10 ?_
  refine mg_aload_n C (i := 0) rfl 0 rfl dX12_near_13 ?_
  refine mg_iconst C (x := nI 2) rfl dX12_near_14 ?_
  refine mg_iconst C (x := nI 2) rfl dX12_near_15 ?_
  refine mg_doi C (w140_hasTokens l v f g h3) mCal_hasTokens rfl ⟨by decide, by decide⟩ rfl (Nat.le_of_ble_eq_true rfl) dX12_near_16 ?_
  refine mg_if_eqB C 33 (by decide) dX12_near_19 (fun c_19 => ?_) (fun c_ => absurd c_ (by decide))
  refine mg_iconst C (x := nI 0) rfl dX12_near_33 ?_
  refine mg_doi C (w122_goes l (upd (upd v 4 (nI 0)) 77 (nI 0)) f g ) mCal_goes rfl ⟨by decide, by decide⟩ rfl (Nat.le_of_ble_eq_true rfl) dX12_near_34 ?_
  refine mg_if_eqB C 51 (by decide) dX12_near_37 (fun c_37 => ?_) (fun c_ => absurd c_ (by decide))
  refine mg_iconst C (x := nI 0) rfl dX12_near_51 ?_
  exact mg_iret C ⟨rfl, rfl⟩ dX12_near_52
set_option maxHeartbeats 4000000 in
set_option maxRecDepth 100000 in
theorem w166_near (l : Launch) (v : Nat → Int32) (f : Nat → Nat → Int32) (g : Nat → Nat → Int64) (n1 n2 : Nat) (h1 : 2 ≤ n1) (h2 : n1 ≤ 2147483647) (h3 : 1 ≤ n2) (h4 : n2 ≤ 20) (h5 : v 2 = (nI 0)) : mMi l yX12_near cX12_near 4 (some .int) 2 46 false [.int (nI n1), .int (nI n2), .int (nI 0)] v f g (fun r_ u_ => r_ = (nI 0) ∧ u_ = (upd (upd (upd v 4 (nI 0)) 77 (nI 0)) 99 (nI 1), f, g)) := by
  intro D cI cJ cZ a sz
  refine mg_body (by decide +kernel) rfl (Nat.le_of_ble_eq_true rfl) ?_
  intro p e s m args below meth c hsz C
  clear hsz
  generalize va_A (mW cI cJ cZ a v f g) sz = A at C ⊢
  refine mg_lv (lv' := [(0, .ref (a 0)), (1, .int (nI n1)), (2, .int (nI n2)), (3, .int (nI 0))]) rfl ?_
  refine mg_aload_n C (i := 0) rfl 0 rfl dX12_near_0 ?_
  refine mg_aload_n C (i := 0) rfl 0 rfl dX12_near_1 ?_
  refine mg_iload_n C (i := 1) rfl 1 rfl dX12_near_2 ?_
  refine mg_doi C (w117_isField l v f g n1 (by omega) (by omega)) mCal_isField rfl ⟨by decide, by decide⟩ rfl (Nat.le_of_ble_eq_true rfl) dX12_near_3 ?_
  refine mg_iload_n C (i := 2) rfl 2 rfl dX12_near_6 ?_
  refine mg_iconst C (x := nI 1) rfl dX12_near_7 ?_
  refine mg_bipush C (x := nI 20) rfl dX12_near_8 ?_
  refine mg_dosi C (w144_in l v f g n2 (by omega) (by omega)) mCal_in rfl ⟨by decide, by decide⟩ rfl (Nat.le_of_ble_eq_true rfl) dX12_near_10 ?_
  refine mg_aload_n C (i := 0) rfl 0 rfl dX12_near_13 ?_
  refine mg_iconst C (x := nI 2) rfl dX12_near_14 ?_
  refine mg_iconst C (x := nI 2) rfl dX12_near_15 ?_
  refine mg_doi C (w140_hasTokens l v f g h5) mCal_hasTokens rfl ⟨by decide, by decide⟩ rfl (Nat.le_of_ble_eq_true rfl) dX12_near_16 ?_
  refine mg_if_eqB C 33 (by decide) dX12_near_19 (fun c_19 => ?_) (fun c_ => absurd c_ (by decide))
  refine mg_iconst C (x := nI 0) rfl dX12_near_33 ?_
  refine mg_doi C (w125_goes l (upd (upd v 4 (nI 0)) 77 (nI 0)) f g ) mCal_goes rfl ⟨by decide, by decide⟩ rfl (Nat.le_of_ble_eq_true rfl) dX12_near_34 ?_
  refine mg_if_eqB C 51 (by decide) dX12_near_37 (fun c_37 => ?_) (fun c_ => absurd c_ (by decide))
  refine mg_iconst C (x := nI 0) rfl dX12_near_51 ?_
  exact mg_iret C ⟨rfl, rfl⟩ dX12_near_52
set_option maxHeartbeats 4000000 in
set_option maxRecDepth 100000 in
theorem w167_near (l : Launch) (v : Nat → Int32) (f : Nat → Nat → Int32) (g : Nat → Nat → Int64) (n1 n2 : Nat) (h1 : 2 ≤ n1) (h2 : n1 ≤ 2147483647) (h3 : 21 ≤ n2) (h4 : n2 ≤ 2147483647) (h5 : v 2 = (nI 0)) : mMi l yX12_near cX12_near 4 (some .int) 2 46 false [.int (nI n1), .int (nI n2), .int (nI 0)] v f g (fun r_ u_ => r_ = (nI 0) ∧ u_ = (upd (upd (upd v 4 (nI 0)) 77 (nI 0)) 99 (nI 1), f, g)) := by
  intro D cI cJ cZ a sz
  refine mg_body (by decide +kernel) rfl (Nat.le_of_ble_eq_true rfl) ?_
  intro p e s m args below meth c hsz C
  clear hsz
  generalize va_A (mW cI cJ cZ a v f g) sz = A at C ⊢
  refine mg_lv (lv' := [(0, .ref (a 0)), (1, .int (nI n1)), (2, .int (nI n2)), (3, .int (nI 0))]) rfl ?_
  refine mg_aload_n C (i := 0) rfl 0 rfl dX12_near_0 ?_
  refine mg_aload_n C (i := 0) rfl 0 rfl dX12_near_1 ?_
  refine mg_iload_n C (i := 1) rfl 1 rfl dX12_near_2 ?_
  refine mg_doi C (w117_isField l v f g n1 (by omega) (by omega)) mCal_isField rfl ⟨by decide, by decide⟩ rfl (Nat.le_of_ble_eq_true rfl) dX12_near_3 ?_
  refine mg_iload_n C (i := 2) rfl 2 rfl dX12_near_6 ?_
  refine mg_iconst C (x := nI 1) rfl dX12_near_7 ?_
  refine mg_bipush C (x := nI 20) rfl dX12_near_8 ?_
  refine mg_dosi C (w146_in l v f g n2 (by omega) (by omega)) mCal_in rfl ⟨by decide, by decide⟩ rfl (Nat.le_of_ble_eq_true rfl) dX12_near_10 ?_
  refine mg_aload_n C (i := 0) rfl 0 rfl dX12_near_13 ?_
  refine mg_iconst C (x := nI 2) rfl dX12_near_14 ?_
  refine mg_iconst C (x := nI 2) rfl dX12_near_15 ?_
  refine mg_doi C (w140_hasTokens l v f g h5) mCal_hasTokens rfl ⟨by decide, by decide⟩ rfl (Nat.le_of_ble_eq_true rfl) dX12_near_16 ?_
  refine mg_if_eqB C 33 (by decide) dX12_near_19 (fun c_19 => ?_) (fun c_ => absurd c_ (by decide))
  refine mg_iconst C (x := nI 0) rfl dX12_near_33 ?_
  refine mg_doi C (w122_goes l (upd (upd v 4 (nI 0)) 77 (nI 0)) f g ) mCal_goes rfl ⟨by decide, by decide⟩ rfl (Nat.le_of_ble_eq_true rfl) dX12_near_34 ?_
  refine mg_if_eqB C 51 (by decide) dX12_near_37 (fun c_37 => ?_) (fun c_ => absurd c_ (by decide))
  refine mg_iconst C (x := nI 0) rfl dX12_near_51 ?_
  exact mg_iret C ⟨rfl, rfl⟩ dX12_near_52
set_option maxHeartbeats 4000000 in
set_option maxRecDepth 100000 in
theorem w168_hasWordAlone (l : Launch) (v : Nat → Int32) (f : Nat → Nat → Int32) (g : Nat → Nat → Int64) (h1 : v 2 = (nI 0)) : mMi l yX12_hasWordAlone cX12_hasWordAlone 1 (some .boolean) 1 23 false [] v f g (fun r_ u_ => r_ = (bI false) ∧ u_ = (upd v 4 (nI 0), f, g)) := by
  intro D cI cJ cZ a sz
  refine mg_body (by decide +kernel) rfl (Nat.le_of_ble_eq_true rfl) ?_
  intro p e s m args below meth c hsz C
  clear hsz
  generalize va_A (mW cI cJ cZ a v f g) sz = A at C ⊢
  refine mg_lv (lv' := [(0, .ref (a 0))]) rfl ?_
  refine mg_aload_n C (i := 0) rfl 0 rfl dX12_hasWordAlone_0 ?_
  refine mg_dov C (w12_reads l v f g h1) mCal_reads rfl ⟨by decide, by decide⟩ rfl (Nat.le_of_ble_eq_true rfl) dX12_hasWordAlone_1 ?_
  refine mg_aload_n C (i := 0) rfl 0 rfl dX12_hasWordAlone_4 ?_
  refine mg_getI C (k := 4) (by decide) rfl mL_worded rfl dX12_hasWordAlone_5 ?_
  refine mg_cast (nI 0) rfl ?_
  refine mg_iconst C (x := nI 1) rfl dX12_hasWordAlone_8 ?_
  refine mg_icmp_neN C (by omega) (by omega) 16 (by decide) dX12_hasWordAlone_9 (fun c_9 => ?_) (fun c_ => absurd c_ (by omega))
  refine mg_iconst C (x := nI 0) rfl dX12_hasWordAlone_16 ?_
  refine mg_cast (bI false) rfl ?_
  exact mg_zret C (bI_nar _) ⟨rfl, rfl⟩ dX12_hasWordAlone_17
set_option maxHeartbeats 4000000 in
set_option maxRecDepth 100000 in
theorem w169_prefix (l : Launch) (v : Nat → Int32) (f : Nat → Nat → Int32) (g : Nat → Nat → Int64) (x1 : Int32) (h1 : x1 < 0) (h2 : v 2 = (nI 0)) : mMi l yX12_prefix cX12_prefix 2 (some .int) 2 43 false [.int x1] v f g (fun r_ u_ => r_ = (nI 0) ∧ u_ = (upd (upd v 4 (nI 0)) 99 (nI 1), f, g)) := by
  intro D cI cJ cZ a sz
  refine mg_body (by decide +kernel) rfl (Nat.le_of_ble_eq_true rfl) ?_
  intro p e s m args below meth c hsz C
  clear hsz
  generalize va_A (mW cI cJ cZ a v f g) sz = A at C ⊢
  refine mg_lv (lv' := [(0, .ref (a 0)), (1, .int x1)]) rfl ?_
  refine mg_aload_n C (i := 0) rfl 0 rfl dX12_prefix_0 ?_
  refine mg_aload_n C (i := 0) rfl 0 rfl dX12_prefix_1 ?_
  refine mg_iload_n C (i := 1) rfl 1 rfl dX12_prefix_2 ?_
  refine mg_doi C (w107_isField l v f g x1 h1) mCal_isField rfl ⟨by decide, by decide⟩ rfl (Nat.le_of_ble_eq_true rfl) dX12_prefix_3 ?_
  refine mg_aload_n C (i := 0) rfl 0 rfl dX12_prefix_6 ?_
  refine mg_doi C (w168_hasWordAlone l v f g h2) mCal_hasWordAlone rfl ⟨by decide, by decide⟩ rfl (Nat.le_of_ble_eq_true rfl) dX12_prefix_7 ?_
  refine mg_if_eqB C 24 (by decide) dX12_prefix_10 (fun c_10 => ?_) (fun c_ => absurd c_ (by decide))
  refine mg_iconst C (x := nI 0) rfl dX12_prefix_24 ?_
  refine mg_iconst C (x := nI 1) rfl dX12_prefix_25 ?_
  refine mg_doi C (w110_goes l (upd v 4 (nI 0)) f g ) mCal_goes rfl ⟨by decide, by decide⟩ rfl (Nat.le_of_ble_eq_true rfl) dX12_prefix_26 ?_
  refine mg_if_eqB C 43 (by decide) dX12_prefix_29 (fun c_29 => ?_) (fun c_ => absurd c_ (by decide))
  refine mg_iconst C (x := nI 0) rfl dX12_prefix_43 ?_
  exact mg_iret C ⟨rfl, rfl⟩ dX12_prefix_44
set_option maxHeartbeats 4000000 in
set_option maxRecDepth 100000 in
theorem w170_prefix (l : Launch) (v : Nat → Int32) (f : Nat → Nat → Int32) (g : Nat → Nat → Int64) (n1 : Nat) (h1 : n1 ≤ 1) (h2 : v 2 = (nI 0)) : mMi l yX12_prefix cX12_prefix 2 (some .int) 2 43 false [.int (nI n1)] v f g (fun r_ u_ => r_ = (nI 0) ∧ u_ = (upd (upd v 4 (nI 0)) 99 (nI 2), f, g)) := by
  intro D cI cJ cZ a sz
  refine mg_body (by decide +kernel) rfl (Nat.le_of_ble_eq_true rfl) ?_
  intro p e s m args below meth c hsz C
  clear hsz
  generalize va_A (mW cI cJ cZ a v f g) sz = A at C ⊢
  refine mg_lv (lv' := [(0, .ref (a 0)), (1, .int (nI n1))]) rfl ?_
  refine mg_aload_n C (i := 0) rfl 0 rfl dX12_prefix_0 ?_
  refine mg_aload_n C (i := 0) rfl 0 rfl dX12_prefix_1 ?_
  refine mg_iload_n C (i := 1) rfl 1 rfl dX12_prefix_2 ?_
  refine mg_doi C (w113_isField l v f g n1 (by omega)) mCal_isField rfl ⟨by decide, by decide⟩ rfl (Nat.le_of_ble_eq_true rfl) dX12_prefix_3 ?_
  refine mg_aload_n C (i := 0) rfl 0 rfl dX12_prefix_6 ?_
  refine mg_doi C (w168_hasWordAlone l v f g h2) mCal_hasWordAlone rfl ⟨by decide, by decide⟩ rfl (Nat.le_of_ble_eq_true rfl) dX12_prefix_7 ?_
  refine mg_if_eqB C 24 (by decide) dX12_prefix_10 (fun c_10 => ?_) (fun c_ => absurd c_ (by decide))
  refine mg_iconst C (x := nI 0) rfl dX12_prefix_24 ?_
  refine mg_iconst C (x := nI 1) rfl dX12_prefix_25 ?_
  refine mg_doi C (w114_goes l (upd v 4 (nI 0)) f g ) mCal_goes rfl ⟨by decide, by decide⟩ rfl (Nat.le_of_ble_eq_true rfl) dX12_prefix_26 ?_
  refine mg_if_eqB C 43 (by decide) dX12_prefix_29 (fun c_29 => ?_) (fun c_ => absurd c_ (by decide))
  refine mg_iconst C (x := nI 0) rfl dX12_prefix_43 ?_
  exact mg_iret C ⟨rfl, rfl⟩ dX12_prefix_44
set_option maxHeartbeats 4000000 in
set_option maxRecDepth 100000 in
theorem w171_prefix (l : Launch) (v : Nat → Int32) (f : Nat → Nat → Int32) (g : Nat → Nat → Int64) (n1 : Nat) (h1 : 2 ≤ n1) (h2 : n1 ≤ 2147483647) (h3 : v 2 = (nI 0)) : mMi l yX12_prefix cX12_prefix 2 (some .int) 2 43 false [.int (nI n1)] v f g (fun r_ u_ => r_ = (nI 0) ∧ u_ = (upd (upd v 4 (nI 0)) 99 (nI 1), f, g)) := by
  intro D cI cJ cZ a sz
  refine mg_body (by decide +kernel) rfl (Nat.le_of_ble_eq_true rfl) ?_
  intro p e s m args below meth c hsz C
  clear hsz
  generalize va_A (mW cI cJ cZ a v f g) sz = A at C ⊢
  refine mg_lv (lv' := [(0, .ref (a 0)), (1, .int (nI n1))]) rfl ?_
  refine mg_aload_n C (i := 0) rfl 0 rfl dX12_prefix_0 ?_
  refine mg_aload_n C (i := 0) rfl 0 rfl dX12_prefix_1 ?_
  refine mg_iload_n C (i := 1) rfl 1 rfl dX12_prefix_2 ?_
  refine mg_doi C (w117_isField l v f g n1 (by omega) (by omega)) mCal_isField rfl ⟨by decide, by decide⟩ rfl (Nat.le_of_ble_eq_true rfl) dX12_prefix_3 ?_
  refine mg_aload_n C (i := 0) rfl 0 rfl dX12_prefix_6 ?_
  refine mg_doi C (w168_hasWordAlone l v f g h3) mCal_hasWordAlone rfl ⟨by decide, by decide⟩ rfl (Nat.le_of_ble_eq_true rfl) dX12_prefix_7 ?_
  refine mg_if_eqB C 24 (by decide) dX12_prefix_10 (fun c_10 => ?_) (fun c_ => absurd c_ (by decide))
  refine mg_iconst C (x := nI 0) rfl dX12_prefix_24 ?_
  refine mg_iconst C (x := nI 1) rfl dX12_prefix_25 ?_
  refine mg_doi C (w110_goes l (upd v 4 (nI 0)) f g ) mCal_goes rfl ⟨by decide, by decide⟩ rfl (Nat.le_of_ble_eq_true rfl) dX12_prefix_26 ?_
  refine mg_if_eqB C 43 (by decide) dX12_prefix_29 (fun c_29 => ?_) (fun c_ => absurd c_ (by decide))
  refine mg_iconst C (x := nI 0) rfl dX12_prefix_43 ?_
  exact mg_iret C ⟨rfl, rfl⟩ dX12_prefix_44
set_option maxHeartbeats 4000000 in
set_option maxRecDepth 100000 in
theorem w172_in (l : Launch) (v : Nat → Int32) (f : Nat → Nat → Int32) (g : Nat → Nat → Int64) : mMi l yX12_in cX12_in 3 (some .boolean) 0 0 true [.int (nI 0), .int (nI 1), .int (nI 12)] v f g (fun r_ u_ => r_ = (bI false) ∧ u_ = (v, f, g)) := by
  intro D cI cJ cZ a sz
  refine mg_body (by decide +kernel) rfl (Nat.le_of_ble_eq_true rfl) ?_
  intro p e s m args below meth c hsz C
  clear hsz
  generalize va_A (mW cI cJ cZ a v f g) sz = A at C ⊢
  refine mg_lv (lv' := [(0, .int (nI 0)), (1, .int (nI 1)), (2, .int (nI 12))]) rfl ?_
  refine mg_iload_n C (i := 0) rfl 0 rfl dX12_in_0 ?_
  refine mg_iload_n C (i := 1) rfl 1 rfl dX12_in_1 ?_
  refine mg_icmp_ltN C (by omega) (by omega) 14 (by decide) dX12_in_2 (fun c_2 => ?_) (fun c_ => absurd c_ (by omega))
  refine mg_iconst C (x := nI 0) rfl dX12_in_14 ?_
  refine mg_cast (bI false) rfl ?_
  exact mg_zret C (bI_nar _) ⟨rfl, rfl⟩ dX12_in_15
set_option maxHeartbeats 4000000 in
set_option maxRecDepth 100000 in
theorem w173_wild (l : Launch) (v : Nat → Int32) (f : Nat → Nat → Int32) (g : Nat → Nat → Int64) (x1 : Int32) (h1 : x1 < 0) (h2 : v 2 = (nI 0)) : mMi l yX12_wild cX12_wild 6 (some .int) 2 43 false [.int x1] v f g (fun r_ u_ => r_ = (nI 0) ∧ u_ = (upd v 99 (nI 1), f, g)) := by
  intro D cI cJ cZ a sz
  refine mg_body (by decide +kernel) rfl (Nat.le_of_ble_eq_true rfl) ?_
  intro p e s m args below meth c hsz C
  clear hsz
  generalize va_A (mW cI cJ cZ a v f g) sz = A at C ⊢
  refine mg_lv (lv' := [(0, .ref (a 0)), (1, .int x1)]) rfl ?_
  refine mg_aload_n C (i := 0) rfl 0 rfl dX12_wild_0 ?_
  refine mg_getI C (k := 2) (by decide) rfl mL_padded rfl dX12_wild_1 ?_
  refine mg_cast (nI 0) h2 ?_
  refine mg_iconst C (x := nI 1) rfl dX12_wild_4 ?_
  refine mg_bipush C (x := nI 12) rfl dX12_wild_5 ?_
  refine mg_dosi C (w172_in l v f g ) mCal_in rfl ⟨by decide, by decide⟩ rfl (Nat.le_of_ble_eq_true rfl) dX12_wild_7 ?_
  refine mg_istore_n C (i := 2) (lv' := [(2, .int (bI false)), (0, .ref (a 0)), (1, .int x1)]) rfl (Nat.le_of_ble_eq_true rfl) rfl dX12_wild_10 ?_
  refine mg_iconst C (x := nI 0) rfl dX12_wild_11 ?_
  refine mg_istore_n C (i := 3) (lv' := [(3, .int (nI 0)), (2, .int (bI false)), (0, .ref (a 0)), (1, .int x1)]) rfl (Nat.le_of_ble_eq_true rfl) rfl dX12_wild_12 ?_
  refine mg_iload_n C (i := 3) rfl 0 rfl dX12_wild_13 ?_
  refine mg_aload_n C (i := 0) rfl 2 rfl dX12_wild_14 ?_
  refine mg_getI C (k := 2) (by decide) rfl mL_padded rfl dX12_wild_15 ?_
  refine mg_cast (nI 0) h2 ?_
  refine mg_icmp_geN C (by omega) (by omega) 71 (by decide) dX12_wild_18 (fun c_18 => ?_) (fun c_ => absurd c_ (by omega))
  refine mg_aload_n C (i := 0) rfl 2 rfl dX12_wild_71 ?_
  refine mg_aload_n C (i := 0) rfl 2 rfl dX12_wild_72 ?_
  refine mg_iload_n C (i := 1) rfl 3 rfl dX12_wild_73 ?_
  refine mg_doi C (w107_isField l v f g x1 h1) mCal_isField rfl ⟨by decide, by decide⟩ rfl (Nat.le_of_ble_eq_true rfl) dX12_wild_74 ?_
  refine mg_iload_n C (i := 2) rfl 1 rfl dX12_wild_77 ?_
  refine mg_if_eqB C 92 (by decide) dX12_wild_78 (fun c_78 => ?_) (fun c_ => absurd c_ (by decide))
  refine mg_iconst C (x := nI 0) rfl dX12_wild_92 ?_
  refine mg_iconst C (x := nI 1) rfl dX12_wild_93 ?_
  refine mg_doi C (w110_goes l v f g ) mCal_goes rfl ⟨by decide, by decide⟩ rfl (Nat.le_of_ble_eq_true rfl) dX12_wild_94 ?_
  refine mg_if_neB C 102 (by decide) dX12_wild_97 (fun c_ => absurd c_ (by decide)) (fun c_97 => ?_)
  refine mg_iconst C (x := nI 0) rfl dX12_wild_100 ?_
  exact mg_iret C ⟨rfl, rfl⟩ dX12_wild_101
set_option maxHeartbeats 4000000 in
set_option maxRecDepth 100000 in
theorem w174_wild (l : Launch) (v : Nat → Int32) (f : Nat → Nat → Int32) (g : Nat → Nat → Int64) (n1 : Nat) (h1 : n1 ≤ 1) (h2 : v 2 = (nI 0)) : mMi l yX12_wild cX12_wild 6 (some .int) 2 43 false [.int (nI n1)] v f g (fun r_ u_ => r_ = (nI 0) ∧ u_ = (upd v 99 (nI 2), f, g)) := by
  intro D cI cJ cZ a sz
  refine mg_body (by decide +kernel) rfl (Nat.le_of_ble_eq_true rfl) ?_
  intro p e s m args below meth c hsz C
  clear hsz
  generalize va_A (mW cI cJ cZ a v f g) sz = A at C ⊢
  refine mg_lv (lv' := [(0, .ref (a 0)), (1, .int (nI n1))]) rfl ?_
  refine mg_aload_n C (i := 0) rfl 0 rfl dX12_wild_0 ?_
  refine mg_getI C (k := 2) (by decide) rfl mL_padded rfl dX12_wild_1 ?_
  refine mg_cast (nI 0) h2 ?_
  refine mg_iconst C (x := nI 1) rfl dX12_wild_4 ?_
  refine mg_bipush C (x := nI 12) rfl dX12_wild_5 ?_
  refine mg_dosi C (w172_in l v f g ) mCal_in rfl ⟨by decide, by decide⟩ rfl (Nat.le_of_ble_eq_true rfl) dX12_wild_7 ?_
  refine mg_istore_n C (i := 2) (lv' := [(2, .int (bI false)), (0, .ref (a 0)), (1, .int (nI n1))]) rfl (Nat.le_of_ble_eq_true rfl) rfl dX12_wild_10 ?_
  refine mg_iconst C (x := nI 0) rfl dX12_wild_11 ?_
  refine mg_istore_n C (i := 3) (lv' := [(3, .int (nI 0)), (2, .int (bI false)), (0, .ref (a 0)), (1, .int (nI n1))]) rfl (Nat.le_of_ble_eq_true rfl) rfl dX12_wild_12 ?_
  refine mg_iload_n C (i := 3) rfl 0 rfl dX12_wild_13 ?_
  refine mg_aload_n C (i := 0) rfl 2 rfl dX12_wild_14 ?_
  refine mg_getI C (k := 2) (by decide) rfl mL_padded rfl dX12_wild_15 ?_
  refine mg_cast (nI 0) h2 ?_
  refine mg_icmp_geN C (by omega) (by omega) 71 (by decide) dX12_wild_18 (fun c_18 => ?_) (fun c_ => absurd c_ (by omega))
  refine mg_aload_n C (i := 0) rfl 2 rfl dX12_wild_71 ?_
  refine mg_aload_n C (i := 0) rfl 2 rfl dX12_wild_72 ?_
  refine mg_iload_n C (i := 1) rfl 3 rfl dX12_wild_73 ?_
  refine mg_doi C (w113_isField l v f g n1 (by omega)) mCal_isField rfl ⟨by decide, by decide⟩ rfl (Nat.le_of_ble_eq_true rfl) dX12_wild_74 ?_
  refine mg_iload_n C (i := 2) rfl 1 rfl dX12_wild_77 ?_
  refine mg_if_eqB C 92 (by decide) dX12_wild_78 (fun c_78 => ?_) (fun c_ => absurd c_ (by decide))
  refine mg_iconst C (x := nI 0) rfl dX12_wild_92 ?_
  refine mg_iconst C (x := nI 1) rfl dX12_wild_93 ?_
  refine mg_doi C (w114_goes l v f g ) mCal_goes rfl ⟨by decide, by decide⟩ rfl (Nat.le_of_ble_eq_true rfl) dX12_wild_94 ?_
  refine mg_if_neB C 102 (by decide) dX12_wild_97 (fun c_ => absurd c_ (by decide)) (fun c_97 => ?_)
  refine mg_iconst C (x := nI 0) rfl dX12_wild_100 ?_
  exact mg_iret C ⟨rfl, rfl⟩ dX12_wild_101
set_option maxHeartbeats 4000000 in
set_option maxRecDepth 100000 in
theorem w175_wild (l : Launch) (v : Nat → Int32) (f : Nat → Nat → Int32) (g : Nat → Nat → Int64) (n1 : Nat) (h1 : 2 ≤ n1) (h2 : n1 ≤ 2147483647) (h3 : v 2 = (nI 0)) : mMi l yX12_wild cX12_wild 6 (some .int) 2 43 false [.int (nI n1)] v f g (fun r_ u_ => r_ = (nI 0) ∧ u_ = (upd v 99 (nI 1), f, g)) := by
  intro D cI cJ cZ a sz
  refine mg_body (by decide +kernel) rfl (Nat.le_of_ble_eq_true rfl) ?_
  intro p e s m args below meth c hsz C
  clear hsz
  generalize va_A (mW cI cJ cZ a v f g) sz = A at C ⊢
  refine mg_lv (lv' := [(0, .ref (a 0)), (1, .int (nI n1))]) rfl ?_
  refine mg_aload_n C (i := 0) rfl 0 rfl dX12_wild_0 ?_
  refine mg_getI C (k := 2) (by decide) rfl mL_padded rfl dX12_wild_1 ?_
  refine mg_cast (nI 0) h3 ?_
  refine mg_iconst C (x := nI 1) rfl dX12_wild_4 ?_
  refine mg_bipush C (x := nI 12) rfl dX12_wild_5 ?_
  refine mg_dosi C (w172_in l v f g ) mCal_in rfl ⟨by decide, by decide⟩ rfl (Nat.le_of_ble_eq_true rfl) dX12_wild_7 ?_
  refine mg_istore_n C (i := 2) (lv' := [(2, .int (bI false)), (0, .ref (a 0)), (1, .int (nI n1))]) rfl (Nat.le_of_ble_eq_true rfl) rfl dX12_wild_10 ?_
  refine mg_iconst C (x := nI 0) rfl dX12_wild_11 ?_
  refine mg_istore_n C (i := 3) (lv' := [(3, .int (nI 0)), (2, .int (bI false)), (0, .ref (a 0)), (1, .int (nI n1))]) rfl (Nat.le_of_ble_eq_true rfl) rfl dX12_wild_12 ?_
  refine mg_iload_n C (i := 3) rfl 0 rfl dX12_wild_13 ?_
  refine mg_aload_n C (i := 0) rfl 2 rfl dX12_wild_14 ?_
  refine mg_getI C (k := 2) (by decide) rfl mL_padded rfl dX12_wild_15 ?_
  refine mg_cast (nI 0) h3 ?_
  refine mg_icmp_geN C (by omega) (by omega) 71 (by decide) dX12_wild_18 (fun c_18 => ?_) (fun c_ => absurd c_ (by omega))
  refine mg_aload_n C (i := 0) rfl 2 rfl dX12_wild_71 ?_
  refine mg_aload_n C (i := 0) rfl 2 rfl dX12_wild_72 ?_
  refine mg_iload_n C (i := 1) rfl 3 rfl dX12_wild_73 ?_
  refine mg_doi C (w117_isField l v f g n1 (by omega) (by omega)) mCal_isField rfl ⟨by decide, by decide⟩ rfl (Nat.le_of_ble_eq_true rfl) dX12_wild_74 ?_
  refine mg_iload_n C (i := 2) rfl 1 rfl dX12_wild_77 ?_
  refine mg_if_eqB C 92 (by decide) dX12_wild_78 (fun c_78 => ?_) (fun c_ => absurd c_ (by decide))
  refine mg_iconst C (x := nI 0) rfl dX12_wild_92 ?_
  refine mg_iconst C (x := nI 1) rfl dX12_wild_93 ?_
  refine mg_doi C (w110_goes l v f g ) mCal_goes rfl ⟨by decide, by decide⟩ rfl (Nat.le_of_ble_eq_true rfl) dX12_wild_94 ?_
  refine mg_if_neB C 102 (by decide) dX12_wild_97 (fun c_ => absurd c_ (by decide)) (fun c_97 => ?_)
  refine mg_iconst C (x := nI 0) rfl dX12_wild_100 ?_
  exact mg_iret C ⟨rfl, rfl⟩ dX12_wild_101
set_option maxHeartbeats 4000000 in
set_option maxRecDepth 100000 in
theorem w176_in (l : Launch) (v : Nat → Int32) (f : Nat → Nat → Int32) (g : Nat → Nat → Int64) (x1 : Int32) (h1 : x1 < 0) : mMi l yX12_in cX12_in 3 (some .boolean) 0 0 true [.int x1, .int (nI 0), .int (nI 2)] v f g (fun r_ u_ => r_ = (bI false) ∧ u_ = (v, f, g)) := by
  intro D cI cJ cZ a sz
  refine mg_body (by decide +kernel) rfl (Nat.le_of_ble_eq_true rfl) ?_
  intro p e s m args below meth c hsz C
  clear hsz
  generalize va_A (mW cI cJ cZ a v f g) sz = A at C ⊢
  refine mg_lv (lv' := [(0, .int x1), (1, .int (nI 0)), (2, .int (nI 2))]) rfl ?_
  refine mg_iload_n C (i := 0) rfl 0 rfl dX12_in_0 ?_
  refine mg_iload_n C (i := 1) rfl 1 rfl dX12_in_1 ?_
  refine mg_icmp_lt C 14 (by decide) dX12_in_2 (fun c_2 => ?_) (fun c_ => absurd (cneg_lt h1 (by omega)) c_)
  refine mg_iconst C (x := nI 0) rfl dX12_in_14 ?_
  refine mg_cast (bI false) rfl ?_
  exact mg_zret C (bI_nar _) ⟨rfl, rfl⟩ dX12_in_15
set_option maxHeartbeats 4000000 in
set_option maxRecDepth 100000 in
theorem w177_fuzzy (l : Launch) (v : Nat → Int32) (f : Nat → Nat → Int32) (g : Nat → Nat → Int64) (x1 x2 : Int32) (h1 : x1 < 0) (h2 : x2 < 0) (h3 : v 2 = (nI 0)) : mMi l yX12_fuzzy cX12_fuzzy 3 (some .int) 2 43 false [.int x1, .int x2] v f g (fun r_ u_ => r_ = (nI 0) ∧ u_ = (upd (upd v 4 (nI 0)) 99 (nI 1), f, g)) := by
  intro D cI cJ cZ a sz
  refine mg_body (by decide +kernel) rfl (Nat.le_of_ble_eq_true rfl) ?_
  intro p e s m args below meth c hsz C
  clear hsz
  generalize va_A (mW cI cJ cZ a v f g) sz = A at C ⊢
  refine mg_lv (lv' := [(0, .ref (a 0)), (1, .int x1), (2, .int x2)]) rfl ?_
  refine mg_aload_n C (i := 0) rfl 0 rfl dX12_fuzzy_0 ?_
  refine mg_aload_n C (i := 0) rfl 0 rfl dX12_fuzzy_1 ?_
  refine mg_iload_n C (i := 1) rfl 1 rfl dX12_fuzzy_2 ?_
  refine mg_doi C (w107_isField l v f g x1 h1) mCal_isField rfl ⟨by decide, by decide⟩ rfl (Nat.le_of_ble_eq_true rfl) dX12_fuzzy_3 ?_
  refine mg_iload_n C (i := 2) rfl 2 rfl dX12_fuzzy_6 ?_
  refine mg_iconst C (x := nI 0) rfl dX12_fuzzy_7 ?_
  refine mg_iconst C (x := nI 2) rfl dX12_fuzzy_8 ?_
  refine mg_dosi C (w176_in l v f g x2 h2) mCal_in rfl ⟨by decide, by decide⟩ rfl (Nat.le_of_ble_eq_true rfl) dX12_fuzzy_9 ?_
  refine mg_aload_n C (i := 0) rfl 0 rfl dX12_fuzzy_12 ?_
  refine mg_doi C (w168_hasWordAlone l v f g h3) mCal_hasWordAlone rfl ⟨by decide, by decide⟩ rfl (Nat.le_of_ble_eq_true rfl) dX12_fuzzy_13 ?_
  refine mg_if_eqB C 30 (by decide) dX12_fuzzy_16 (fun c_16 => ?_) (fun c_ => absurd c_ (by decide))
  refine mg_iconst C (x := nI 0) rfl dX12_fuzzy_30 ?_
  refine mg_doi C (w122_goes l (upd v 4 (nI 0)) f g ) mCal_goes rfl ⟨by decide, by decide⟩ rfl (Nat.le_of_ble_eq_true rfl) dX12_fuzzy_31 ?_
  refine mg_if_eqB C 48 (by decide) dX12_fuzzy_34 (fun c_34 => ?_) (fun c_ => absurd c_ (by decide))
  refine mg_iconst C (x := nI 0) rfl dX12_fuzzy_48 ?_
  exact mg_iret C ⟨rfl, rfl⟩ dX12_fuzzy_49
set_option maxHeartbeats 4000000 in
set_option maxRecDepth 100000 in
theorem w178_in (l : Launch) (v : Nat → Int32) (f : Nat → Nat → Int32) (g : Nat → Nat → Int64) (n1 : Nat) (h1 : n1 ≤ 2) : mMi l yX12_in cX12_in 3 (some .boolean) 0 0 true [.int (nI n1), .int (nI 0), .int (nI 2)] v f g (fun r_ u_ => r_ = (bI true) ∧ u_ = (v, f, g)) := by
  intro D cI cJ cZ a sz
  refine mg_body (by decide +kernel) rfl (Nat.le_of_ble_eq_true rfl) ?_
  intro p e s m args below meth c hsz C
  clear hsz
  generalize va_A (mW cI cJ cZ a v f g) sz = A at C ⊢
  refine mg_lv (lv' := [(0, .int (nI n1)), (1, .int (nI 0)), (2, .int (nI 2))]) rfl ?_
  refine mg_iload_n C (i := 0) rfl 0 rfl dX12_in_0 ?_
  refine mg_iload_n C (i := 1) rfl 1 rfl dX12_in_1 ?_
  refine mg_icmp_ltN C (by omega) (by omega) 14 (by decide) dX12_in_2 (fun c_ => absurd c_ (by omega)) (fun c_2 => ?_)
  refine mg_iload_n C (i := 0) rfl 0 rfl dX12_in_5 ?_
  refine mg_iload_n C (i := 2) rfl 2 rfl dX12_in_6 ?_
  refine mg_icmp_gtN C (by omega) (by omega) 14 (by decide) dX12_in_7 (fun c_ => absurd c_ (by omega)) (fun c_7 => ?_)
  refine mg_iconst C (x := nI 1) rfl dX12_in_10 ?_
  refine mg_goto C 15 (by decide) dX12_in_11 ?_
  refine mg_cast (bI true) rfl ?_
  exact mg_zret C (bI_nar _) ⟨rfl, rfl⟩ dX12_in_15
set_option maxHeartbeats 4000000 in
set_option maxRecDepth 100000 in
theorem w179_fuzzy (l : Launch) (v : Nat → Int32) (f : Nat → Nat → Int32) (g : Nat → Nat → Int64) (n1 : Nat) (x1 : Int32) (h1 : x1 < 0) (h2 : n1 ≤ 2) (h3 : v 2 = (nI 0)) : mMi l yX12_fuzzy cX12_fuzzy 3 (some .int) 2 43 false [.int x1, .int (nI n1)] v f g (fun r_ u_ => r_ = (nI 0) ∧ u_ = (upd (upd v 4 (nI 0)) 99 (nI 1), f, g)) := by
  intro D cI cJ cZ a sz
  refine mg_body (by decide +kernel) rfl (Nat.le_of_ble_eq_true rfl) ?_
  intro p e s m args below meth c hsz C
  clear hsz
  generalize va_A (mW cI cJ cZ a v f g) sz = A at C ⊢
  refine mg_lv (lv' := [(0, .ref (a 0)), (1, .int x1), (2, .int (nI n1))]) rfl ?_
  refine mg_aload_n C (i := 0) rfl 0 rfl dX12_fuzzy_0 ?_
  refine mg_aload_n C (i := 0) rfl 0 rfl dX12_fuzzy_1 ?_
  refine mg_iload_n C (i := 1) rfl 1 rfl dX12_fuzzy_2 ?_
  refine mg_doi C (w107_isField l v f g x1 h1) mCal_isField rfl ⟨by decide, by decide⟩ rfl (Nat.le_of_ble_eq_true rfl) dX12_fuzzy_3 ?_
  refine mg_iload_n C (i := 2) rfl 2 rfl dX12_fuzzy_6 ?_
  refine mg_iconst C (x := nI 0) rfl dX12_fuzzy_7 ?_
  refine mg_iconst C (x := nI 2) rfl dX12_fuzzy_8 ?_
  refine mg_dosi C (w178_in l v f g n1 (by omega)) mCal_in rfl ⟨by decide, by decide⟩ rfl (Nat.le_of_ble_eq_true rfl) dX12_fuzzy_9 ?_
  refine mg_aload_n C (i := 0) rfl 0 rfl dX12_fuzzy_12 ?_
  refine mg_doi C (w168_hasWordAlone l v f g h3) mCal_hasWordAlone rfl ⟨by decide, by decide⟩ rfl (Nat.le_of_ble_eq_true rfl) dX12_fuzzy_13 ?_
  refine mg_if_eqB C 30 (by decide) dX12_fuzzy_16 (fun c_16 => ?_) (fun c_ => absurd c_ (by decide))
  refine mg_iconst C (x := nI 0) rfl dX12_fuzzy_30 ?_
  refine mg_doi C (w125_goes l (upd v 4 (nI 0)) f g ) mCal_goes rfl ⟨by decide, by decide⟩ rfl (Nat.le_of_ble_eq_true rfl) dX12_fuzzy_31 ?_
  refine mg_if_eqB C 48 (by decide) dX12_fuzzy_34 (fun c_34 => ?_) (fun c_ => absurd c_ (by decide))
  refine mg_iconst C (x := nI 0) rfl dX12_fuzzy_48 ?_
  exact mg_iret C ⟨rfl, rfl⟩ dX12_fuzzy_49
set_option maxHeartbeats 4000000 in
set_option maxRecDepth 100000 in
theorem w180_in (l : Launch) (v : Nat → Int32) (f : Nat → Nat → Int32) (g : Nat → Nat → Int64) (n1 : Nat) (h1 : 3 ≤ n1) (h2 : n1 ≤ 2147483647) : mMi l yX12_in cX12_in 3 (some .boolean) 0 0 true [.int (nI n1), .int (nI 0), .int (nI 2)] v f g (fun r_ u_ => r_ = (bI false) ∧ u_ = (v, f, g)) := by
  intro D cI cJ cZ a sz
  refine mg_body (by decide +kernel) rfl (Nat.le_of_ble_eq_true rfl) ?_
  intro p e s m args below meth c hsz C
  clear hsz
  generalize va_A (mW cI cJ cZ a v f g) sz = A at C ⊢
  refine mg_lv (lv' := [(0, .int (nI n1)), (1, .int (nI 0)), (2, .int (nI 2))]) rfl ?_
  refine mg_iload_n C (i := 0) rfl 0 rfl dX12_in_0 ?_
  refine mg_iload_n C (i := 1) rfl 1 rfl dX12_in_1 ?_
  refine mg_icmp_ltN C (by omega) (by omega) 14 (by decide) dX12_in_2 (fun c_ => absurd c_ (by omega)) (fun c_2 => ?_)
  refine mg_iload_n C (i := 0) rfl 0 rfl dX12_in_5 ?_
  refine mg_iload_n C (i := 2) rfl 2 rfl dX12_in_6 ?_
  refine mg_icmp_gtN C (by omega) (by omega) 14 (by decide) dX12_in_7 (fun c_7 => ?_) (fun c_ => absurd c_ (by omega))
  refine mg_iconst C (x := nI 0) rfl dX12_in_14 ?_
  refine mg_cast (bI false) rfl ?_
  exact mg_zret C (bI_nar _) ⟨rfl, rfl⟩ dX12_in_15
set_option maxHeartbeats 4000000 in
set_option maxRecDepth 100000 in
theorem w181_fuzzy (l : Launch) (v : Nat → Int32) (f : Nat → Nat → Int32) (g : Nat → Nat → Int64) (n1 : Nat) (x1 : Int32) (h1 : x1 < 0) (h2 : 3 ≤ n1) (h3 : n1 ≤ 2147483647) (h4 : v 2 = (nI 0)) : mMi l yX12_fuzzy cX12_fuzzy 3 (some .int) 2 43 false [.int x1, .int (nI n1)] v f g (fun r_ u_ => r_ = (nI 0) ∧ u_ = (upd (upd v 4 (nI 0)) 99 (nI 1), f, g)) := by
  intro D cI cJ cZ a sz
  refine mg_body (by decide +kernel) rfl (Nat.le_of_ble_eq_true rfl) ?_
  intro p e s m args below meth c hsz C
  clear hsz
  generalize va_A (mW cI cJ cZ a v f g) sz = A at C ⊢
  refine mg_lv (lv' := [(0, .ref (a 0)), (1, .int x1), (2, .int (nI n1))]) rfl ?_
  refine mg_aload_n C (i := 0) rfl 0 rfl dX12_fuzzy_0 ?_
  refine mg_aload_n C (i := 0) rfl 0 rfl dX12_fuzzy_1 ?_
  refine mg_iload_n C (i := 1) rfl 1 rfl dX12_fuzzy_2 ?_
  refine mg_doi C (w107_isField l v f g x1 h1) mCal_isField rfl ⟨by decide, by decide⟩ rfl (Nat.le_of_ble_eq_true rfl) dX12_fuzzy_3 ?_
  refine mg_iload_n C (i := 2) rfl 2 rfl dX12_fuzzy_6 ?_
  refine mg_iconst C (x := nI 0) rfl dX12_fuzzy_7 ?_
  refine mg_iconst C (x := nI 2) rfl dX12_fuzzy_8 ?_
  refine mg_dosi C (w180_in l v f g n1 (by omega) (by omega)) mCal_in rfl ⟨by decide, by decide⟩ rfl (Nat.le_of_ble_eq_true rfl) dX12_fuzzy_9 ?_
  refine mg_aload_n C (i := 0) rfl 0 rfl dX12_fuzzy_12 ?_
  refine mg_doi C (w168_hasWordAlone l v f g h4) mCal_hasWordAlone rfl ⟨by decide, by decide⟩ rfl (Nat.le_of_ble_eq_true rfl) dX12_fuzzy_13 ?_
  refine mg_if_eqB C 30 (by decide) dX12_fuzzy_16 (fun c_16 => ?_) (fun c_ => absurd c_ (by decide))
  refine mg_iconst C (x := nI 0) rfl dX12_fuzzy_30 ?_
  refine mg_doi C (w122_goes l (upd v 4 (nI 0)) f g ) mCal_goes rfl ⟨by decide, by decide⟩ rfl (Nat.le_of_ble_eq_true rfl) dX12_fuzzy_31 ?_
  refine mg_if_eqB C 48 (by decide) dX12_fuzzy_34 (fun c_34 => ?_) (fun c_ => absurd c_ (by decide))
  refine mg_iconst C (x := nI 0) rfl dX12_fuzzy_48 ?_
  exact mg_iret C ⟨rfl, rfl⟩ dX12_fuzzy_49
set_option maxHeartbeats 4000000 in
set_option maxRecDepth 100000 in
theorem w182_fuzzy (l : Launch) (v : Nat → Int32) (f : Nat → Nat → Int32) (g : Nat → Nat → Int64) (n1 : Nat) (x1 : Int32) (h1 : n1 ≤ 1) (h2 : x1 < 0) (h3 : v 2 = (nI 0)) : mMi l yX12_fuzzy cX12_fuzzy 3 (some .int) 2 43 false [.int (nI n1), .int x1] v f g (fun r_ u_ => r_ = (nI 0) ∧ u_ = (upd (upd v 4 (nI 0)) 99 (nI 2), f, g)) := by
  intro D cI cJ cZ a sz
  refine mg_body (by decide +kernel) rfl (Nat.le_of_ble_eq_true rfl) ?_
  intro p e s m args below meth c hsz C
  clear hsz
  generalize va_A (mW cI cJ cZ a v f g) sz = A at C ⊢
  refine mg_lv (lv' := [(0, .ref (a 0)), (1, .int (nI n1)), (2, .int x1)]) rfl ?_
  refine mg_aload_n C (i := 0) rfl 0 rfl dX12_fuzzy_0 ?_
  refine mg_aload_n C (i := 0) rfl 0 rfl dX12_fuzzy_1 ?_
  refine mg_iload_n C (i := 1) rfl 1 rfl dX12_fuzzy_2 ?_
  refine mg_doi C (w113_isField l v f g n1 (by omega)) mCal_isField rfl ⟨by decide, by decide⟩ rfl (Nat.le_of_ble_eq_true rfl) dX12_fuzzy_3 ?_
  refine mg_iload_n C (i := 2) rfl 2 rfl dX12_fuzzy_6 ?_
  refine mg_iconst C (x := nI 0) rfl dX12_fuzzy_7 ?_
  refine mg_iconst C (x := nI 2) rfl dX12_fuzzy_8 ?_
  refine mg_dosi C (w176_in l v f g x1 h2) mCal_in rfl ⟨by decide, by decide⟩ rfl (Nat.le_of_ble_eq_true rfl) dX12_fuzzy_9 ?_
  refine mg_aload_n C (i := 0) rfl 0 rfl dX12_fuzzy_12 ?_
  refine mg_doi C (w168_hasWordAlone l v f g h3) mCal_hasWordAlone rfl ⟨by decide, by decide⟩ rfl (Nat.le_of_ble_eq_true rfl) dX12_fuzzy_13 ?_
  refine mg_if_eqB C 30 (by decide) dX12_fuzzy_16 (fun c_16 => ?_) (fun c_ => absurd c_ (by decide))
  refine mg_iconst C (x := nI 0) rfl dX12_fuzzy_30 ?_
  refine mg_doi C (w129_goes l (upd v 4 (nI 0)) f g ) mCal_goes rfl ⟨by decide, by decide⟩ rfl (Nat.le_of_ble_eq_true rfl) dX12_fuzzy_31 ?_
  refine mg_if_eqB C 48 (by decide) dX12_fuzzy_34 (fun c_34 => ?_) (fun c_ => absurd c_ (by decide))
  refine mg_iconst C (x := nI 0) rfl dX12_fuzzy_48 ?_
  exact mg_iret C ⟨rfl, rfl⟩ dX12_fuzzy_49
set_option maxHeartbeats 4000000 in
set_option maxRecDepth 100000 in
theorem w183_fuzzy (l : Launch) (v : Nat → Int32) (f : Nat → Nat → Int32) (g : Nat → Nat → Int64) (n1 n2 : Nat) (h1 : n1 ≤ 1) (h2 : n2 ≤ 2) (h3 : v 2 = (nI 0)) : mMi l yX12_fuzzy cX12_fuzzy 3 (some .int) 2 43 false [.int (nI n1), .int (nI n2)] v f g (fun r_ u_ => r_ = (nI 0) ∧ u_ = (upd (upd v 4 (nI 0)) 99 (nI 3), f, g)) := by
  intro D cI cJ cZ a sz
  refine mg_body (by decide +kernel) rfl (Nat.le_of_ble_eq_true rfl) ?_
  intro p e s m args below meth c hsz C
  clear hsz
  generalize va_A (mW cI cJ cZ a v f g) sz = A at C ⊢
  refine mg_lv (lv' := [(0, .ref (a 0)), (1, .int (nI n1)), (2, .int (nI n2))]) rfl ?_
  refine mg_aload_n C (i := 0) rfl 0 rfl dX12_fuzzy_0 ?_
  refine mg_aload_n C (i := 0) rfl 0 rfl dX12_fuzzy_1 ?_
  refine mg_iload_n C (i := 1) rfl 1 rfl dX12_fuzzy_2 ?_
  refine mg_doi C (w113_isField l v f g n1 (by omega)) mCal_isField rfl ⟨by decide, by decide⟩ rfl (Nat.le_of_ble_eq_true rfl) dX12_fuzzy_3 ?_
  refine mg_iload_n C (i := 2) rfl 2 rfl dX12_fuzzy_6 ?_
  refine mg_iconst C (x := nI 0) rfl dX12_fuzzy_7 ?_
  refine mg_iconst C (x := nI 2) rfl dX12_fuzzy_8 ?_
  refine mg_dosi C (w178_in l v f g n2 (by omega)) mCal_in rfl ⟨by decide, by decide⟩ rfl (Nat.le_of_ble_eq_true rfl) dX12_fuzzy_9 ?_
  refine mg_aload_n C (i := 0) rfl 0 rfl dX12_fuzzy_12 ?_
  refine mg_doi C (w168_hasWordAlone l v f g h3) mCal_hasWordAlone rfl ⟨by decide, by decide⟩ rfl (Nat.le_of_ble_eq_true rfl) dX12_fuzzy_13 ?_
  refine mg_if_eqB C 30 (by decide) dX12_fuzzy_16 (fun c_16 => ?_) (fun c_ => absurd c_ (by decide))
  refine mg_iconst C (x := nI 0) rfl dX12_fuzzy_30 ?_
  refine mg_doi C (w131_goes l (upd v 4 (nI 0)) f g ) mCal_goes rfl ⟨by decide, by decide⟩ rfl (Nat.le_of_ble_eq_true rfl) dX12_fuzzy_31 ?_
  refine mg_if_eqB C 48 (by decide) dX12_fuzzy_34 (fun c_34 => ?_) (fun c_ => absurd c_ (by decide))
  refine mg_iconst C (x := nI 0) rfl dX12_fuzzy_48 ?_
  exact mg_iret C ⟨rfl, rfl⟩ dX12_fuzzy_49
set_option maxHeartbeats 4000000 in
set_option maxRecDepth 100000 in
theorem w184_fuzzy (l : Launch) (v : Nat → Int32) (f : Nat → Nat → Int32) (g : Nat → Nat → Int64) (n1 n2 : Nat) (h1 : n1 ≤ 1) (h2 : 3 ≤ n2) (h3 : n2 ≤ 2147483647) (h4 : v 2 = (nI 0)) : mMi l yX12_fuzzy cX12_fuzzy 3 (some .int) 2 43 false [.int (nI n1), .int (nI n2)] v f g (fun r_ u_ => r_ = (nI 0) ∧ u_ = (upd (upd v 4 (nI 0)) 99 (nI 2), f, g)) := by
  intro D cI cJ cZ a sz
  refine mg_body (by decide +kernel) rfl (Nat.le_of_ble_eq_true rfl) ?_
  intro p e s m args below meth c hsz C
  clear hsz
  generalize va_A (mW cI cJ cZ a v f g) sz = A at C ⊢
  refine mg_lv (lv' := [(0, .ref (a 0)), (1, .int (nI n1)), (2, .int (nI n2))]) rfl ?_
  refine mg_aload_n C (i := 0) rfl 0 rfl dX12_fuzzy_0 ?_
  refine mg_aload_n C (i := 0) rfl 0 rfl dX12_fuzzy_1 ?_
  refine mg_iload_n C (i := 1) rfl 1 rfl dX12_fuzzy_2 ?_
  refine mg_doi C (w113_isField l v f g n1 (by omega)) mCal_isField rfl ⟨by decide, by decide⟩ rfl (Nat.le_of_ble_eq_true rfl) dX12_fuzzy_3 ?_
  refine mg_iload_n C (i := 2) rfl 2 rfl dX12_fuzzy_6 ?_
  refine mg_iconst C (x := nI 0) rfl dX12_fuzzy_7 ?_
  refine mg_iconst C (x := nI 2) rfl dX12_fuzzy_8 ?_
  refine mg_dosi C (w180_in l v f g n2 (by omega) (by omega)) mCal_in rfl ⟨by decide, by decide⟩ rfl (Nat.le_of_ble_eq_true rfl) dX12_fuzzy_9 ?_
  refine mg_aload_n C (i := 0) rfl 0 rfl dX12_fuzzy_12 ?_
  refine mg_doi C (w168_hasWordAlone l v f g h4) mCal_hasWordAlone rfl ⟨by decide, by decide⟩ rfl (Nat.le_of_ble_eq_true rfl) dX12_fuzzy_13 ?_
  refine mg_if_eqB C 30 (by decide) dX12_fuzzy_16 (fun c_16 => ?_) (fun c_ => absurd c_ (by decide))
  refine mg_iconst C (x := nI 0) rfl dX12_fuzzy_30 ?_
  refine mg_doi C (w129_goes l (upd v 4 (nI 0)) f g ) mCal_goes rfl ⟨by decide, by decide⟩ rfl (Nat.le_of_ble_eq_true rfl) dX12_fuzzy_31 ?_
  refine mg_if_eqB C 48 (by decide) dX12_fuzzy_34 (fun c_34 => ?_) (fun c_ => absurd c_ (by decide))
  refine mg_iconst C (x := nI 0) rfl dX12_fuzzy_48 ?_
  exact mg_iret C ⟨rfl, rfl⟩ dX12_fuzzy_49
set_option maxHeartbeats 4000000 in
set_option maxRecDepth 100000 in
theorem w185_fuzzy (l : Launch) (v : Nat → Int32) (f : Nat → Nat → Int32) (g : Nat → Nat → Int64) (n1 : Nat) (x1 : Int32) (h1 : 2 ≤ n1) (h2 : n1 ≤ 2147483647) (h3 : x1 < 0) (h4 : v 2 = (nI 0)) : mMi l yX12_fuzzy cX12_fuzzy 3 (some .int) 2 43 false [.int (nI n1), .int x1] v f g (fun r_ u_ => r_ = (nI 0) ∧ u_ = (upd (upd v 4 (nI 0)) 99 (nI 1), f, g)) := by
  intro D cI cJ cZ a sz
  refine mg_body (by decide +kernel) rfl (Nat.le_of_ble_eq_true rfl) ?_
  intro p e s m args below meth c hsz C
  clear hsz
  generalize va_A (mW cI cJ cZ a v f g) sz = A at C ⊢
  refine mg_lv (lv' := [(0, .ref (a 0)), (1, .int (nI n1)), (2, .int x1)]) rfl ?_
  refine mg_aload_n C (i := 0) rfl 0 rfl dX12_fuzzy_0 ?_
  refine mg_aload_n C (i := 0) rfl 0 rfl dX12_fuzzy_1 ?_
  refine mg_iload_n C (i := 1) rfl 1 rfl dX12_fuzzy_2 ?_
  refine mg_doi C (w117_isField l v f g n1 (by omega) (by omega)) mCal_isField rfl ⟨by decide, by decide⟩ rfl (Nat.le_of_ble_eq_true rfl) dX12_fuzzy_3 ?_
  refine mg_iload_n C (i := 2) rfl 2 rfl dX12_fuzzy_6 ?_
  refine mg_iconst C (x := nI 0) rfl dX12_fuzzy_7 ?_
  refine mg_iconst C (x := nI 2) rfl dX12_fuzzy_8 ?_
  refine mg_dosi C (w176_in l v f g x1 h3) mCal_in rfl ⟨by decide, by decide⟩ rfl (Nat.le_of_ble_eq_true rfl) dX12_fuzzy_9 ?_
  refine mg_aload_n C (i := 0) rfl 0 rfl dX12_fuzzy_12 ?_
  refine mg_doi C (w168_hasWordAlone l v f g h4) mCal_hasWordAlone rfl ⟨by decide, by decide⟩ rfl (Nat.le_of_ble_eq_true rfl) dX12_fuzzy_13 ?_
  refine mg_if_eqB C 30 (by decide) dX12_fuzzy_16 (fun c_16 => ?_) (fun c_ => absurd c_ (by decide))
  refine mg_iconst C (x := nI 0) rfl dX12_fuzzy_30 ?_
  refine mg_doi C (w122_goes l (upd v 4 (nI 0)) f g ) mCal_goes rfl ⟨by decide, by decide⟩ rfl (Nat.le_of_ble_eq_true rfl) dX12_fuzzy_31 ?_
  refine mg_if_eqB C 48 (by decide) dX12_fuzzy_34 (fun c_34 => ?_) (fun c_ => absurd c_ (by decide))
  refine mg_iconst C (x := nI 0) rfl dX12_fuzzy_48 ?_
  exact mg_iret C ⟨rfl, rfl⟩ dX12_fuzzy_49
set_option maxHeartbeats 4000000 in
set_option maxRecDepth 100000 in
theorem w186_fuzzy (l : Launch) (v : Nat → Int32) (f : Nat → Nat → Int32) (g : Nat → Nat → Int64) (n1 n2 : Nat) (h1 : 2 ≤ n1) (h2 : n1 ≤ 2147483647) (h3 : n2 ≤ 2) (h4 : v 2 = (nI 0)) : mMi l yX12_fuzzy cX12_fuzzy 3 (some .int) 2 43 false [.int (nI n1), .int (nI n2)] v f g (fun r_ u_ => r_ = (nI 0) ∧ u_ = (upd (upd v 4 (nI 0)) 99 (nI 1), f, g)) := by
  intro D cI cJ cZ a sz
  refine mg_body (by decide +kernel) rfl (Nat.le_of_ble_eq_true rfl) ?_
  intro p e s m args below meth c hsz C
  clear hsz
  generalize va_A (mW cI cJ cZ a v f g) sz = A at C ⊢
  refine mg_lv (lv' := [(0, .ref (a 0)), (1, .int (nI n1)), (2, .int (nI n2))]) rfl ?_
  refine mg_aload_n C (i := 0) rfl 0 rfl dX12_fuzzy_0 ?_
  refine mg_aload_n C (i := 0) rfl 0 rfl dX12_fuzzy_1 ?_
  refine mg_iload_n C (i := 1) rfl 1 rfl dX12_fuzzy_2 ?_
  refine mg_doi C (w117_isField l v f g n1 (by omega) (by omega)) mCal_isField rfl ⟨by decide, by decide⟩ rfl (Nat.le_of_ble_eq_true rfl) dX12_fuzzy_3 ?_
  refine mg_iload_n C (i := 2) rfl 2 rfl dX12_fuzzy_6 ?_
  refine mg_iconst C (x := nI 0) rfl dX12_fuzzy_7 ?_
  refine mg_iconst C (x := nI 2) rfl dX12_fuzzy_8 ?_
  refine mg_dosi C (w178_in l v f g n2 (by omega)) mCal_in rfl ⟨by decide, by decide⟩ rfl (Nat.le_of_ble_eq_true rfl) dX12_fuzzy_9 ?_
  refine mg_aload_n C (i := 0) rfl 0 rfl dX12_fuzzy_12 ?_
  refine mg_doi C (w168_hasWordAlone l v f g h4) mCal_hasWordAlone rfl ⟨by decide, by decide⟩ rfl (Nat.le_of_ble_eq_true rfl) dX12_fuzzy_13 ?_
  refine mg_if_eqB C 30 (by decide) dX12_fuzzy_16 (fun c_16 => ?_) (fun c_ => absurd c_ (by decide))
  refine mg_iconst C (x := nI 0) rfl dX12_fuzzy_30 ?_
  refine mg_doi C (w125_goes l (upd v 4 (nI 0)) f g ) mCal_goes rfl ⟨by decide, by decide⟩ rfl (Nat.le_of_ble_eq_true rfl) dX12_fuzzy_31 ?_
  refine mg_if_eqB C 48 (by decide) dX12_fuzzy_34 (fun c_34 => ?_) (fun c_ => absurd c_ (by decide))
  refine mg_iconst C (x := nI 0) rfl dX12_fuzzy_48 ?_
  exact mg_iret C ⟨rfl, rfl⟩ dX12_fuzzy_49
set_option maxHeartbeats 4000000 in
set_option maxRecDepth 100000 in
theorem w187_fuzzy (l : Launch) (v : Nat → Int32) (f : Nat → Nat → Int32) (g : Nat → Nat → Int64) (n1 n2 : Nat) (h1 : 2 ≤ n1) (h2 : n1 ≤ 2147483647) (h3 : 3 ≤ n2) (h4 : n2 ≤ 2147483647) (h5 : v 2 = (nI 0)) : mMi l yX12_fuzzy cX12_fuzzy 3 (some .int) 2 43 false [.int (nI n1), .int (nI n2)] v f g (fun r_ u_ => r_ = (nI 0) ∧ u_ = (upd (upd v 4 (nI 0)) 99 (nI 1), f, g)) := by
  intro D cI cJ cZ a sz
  refine mg_body (by decide +kernel) rfl (Nat.le_of_ble_eq_true rfl) ?_
  intro p e s m args below meth c hsz C
  clear hsz
  generalize va_A (mW cI cJ cZ a v f g) sz = A at C ⊢
  refine mg_lv (lv' := [(0, .ref (a 0)), (1, .int (nI n1)), (2, .int (nI n2))]) rfl ?_
  refine mg_aload_n C (i := 0) rfl 0 rfl dX12_fuzzy_0 ?_
  refine mg_aload_n C (i := 0) rfl 0 rfl dX12_fuzzy_1 ?_
  refine mg_iload_n C (i := 1) rfl 1 rfl dX12_fuzzy_2 ?_
  refine mg_doi C (w117_isField l v f g n1 (by omega) (by omega)) mCal_isField rfl ⟨by decide, by decide⟩ rfl (Nat.le_of_ble_eq_true rfl) dX12_fuzzy_3 ?_
  refine mg_iload_n C (i := 2) rfl 2 rfl dX12_fuzzy_6 ?_
  refine mg_iconst C (x := nI 0) rfl dX12_fuzzy_7 ?_
  refine mg_iconst C (x := nI 2) rfl dX12_fuzzy_8 ?_
  refine mg_dosi C (w180_in l v f g n2 (by omega) (by omega)) mCal_in rfl ⟨by decide, by decide⟩ rfl (Nat.le_of_ble_eq_true rfl) dX12_fuzzy_9 ?_
  refine mg_aload_n C (i := 0) rfl 0 rfl dX12_fuzzy_12 ?_
  refine mg_doi C (w168_hasWordAlone l v f g h5) mCal_hasWordAlone rfl ⟨by decide, by decide⟩ rfl (Nat.le_of_ble_eq_true rfl) dX12_fuzzy_13 ?_
  refine mg_if_eqB C 30 (by decide) dX12_fuzzy_16 (fun c_16 => ?_) (fun c_ => absurd c_ (by decide))
  refine mg_iconst C (x := nI 0) rfl dX12_fuzzy_30 ?_
  refine mg_doi C (w122_goes l (upd v 4 (nI 0)) f g ) mCal_goes rfl ⟨by decide, by decide⟩ rfl (Nat.le_of_ble_eq_true rfl) dX12_fuzzy_31 ?_
  refine mg_if_eqB C 48 (by decide) dX12_fuzzy_34 (fun c_34 => ?_) (fun c_ => absurd c_ (by decide))
  refine mg_iconst C (x := nI 0) rfl dX12_fuzzy_48 ?_
  exact mg_iret C ⟨rfl, rfl⟩ dX12_fuzzy_49
set_option maxHeartbeats 4000000 in
set_option maxRecDepth 100000 in
theorem w188_in (l : Launch) (v : Nat → Int32) (f : Nat → Nat → Int32) (g : Nat → Nat → Int64) (x1 : Int32) (h1 : x1 < 0) : mMi l yX12_in cX12_in 3 (some .boolean) 0 0 true [.int x1, .int (nI 2), .int (nI 8)] v f g (fun r_ u_ => r_ = (bI false) ∧ u_ = (v, f, g)) := by
  intro D cI cJ cZ a sz
  refine mg_body (by decide +kernel) rfl (Nat.le_of_ble_eq_true rfl) ?_
  intro p e s m args below meth c hsz C
  clear hsz
  generalize va_A (mW cI cJ cZ a v f g) sz = A at C ⊢
  refine mg_lv (lv' := [(0, .int x1), (1, .int (nI 2)), (2, .int (nI 8))]) rfl ?_
  refine mg_iload_n C (i := 0) rfl 0 rfl dX12_in_0 ?_
  refine mg_iload_n C (i := 1) rfl 1 rfl dX12_in_1 ?_
  refine mg_icmp_lt C 14 (by decide) dX12_in_2 (fun c_2 => ?_) (fun c_ => absurd (cneg_lt h1 (by omega)) c_)
  refine mg_iconst C (x := nI 0) rfl dX12_in_14 ?_
  refine mg_cast (bI false) rfl ?_
  exact mg_zret C (bI_nar _) ⟨rfl, rfl⟩ dX12_in_15
set_option maxHeartbeats 4000000 in
set_option maxRecDepth 100000 in
theorem w189_least (l : Launch) (v : Nat → Int32) (f : Nat → Nat → Int32) (g : Nat → Nat → Int64) (x1 x2 : Int32) (h1 : x1 < 0) (h2 : v 72 = (nI 0)) : mMi l yX12_least cX12_least 3 (some .int) 1 23 false [.int x1, .int x2] v f g (fun r_ u_ => r_ = (nI 0) ∧ u_ = (upd v 99 (nI 1), f, g)) := by
  intro D cI cJ cZ a sz
  refine mg_body (by decide +kernel) rfl (Nat.le_of_ble_eq_true rfl) ?_
  intro p e s m args below meth c hsz C
  clear hsz
  generalize va_A (mW cI cJ cZ a v f g) sz = A at C ⊢
  refine mg_lv (lv' := [(0, .ref (a 0)), (1, .int x1), (2, .int x2)]) rfl ?_
  refine mg_aload_n C (i := 0) rfl 0 rfl dX12_least_0 ?_
  refine mg_iload_n C (i := 1) rfl 1 rfl dX12_least_1 ?_
  refine mg_iconst C (x := nI 2) rfl dX12_least_2 ?_
  refine mg_bipush C (x := nI 8) rfl dX12_least_3 ?_
  refine mg_dosi C (w188_in l v f g x1 h1) mCal_in rfl ⟨by decide, by decide⟩ rfl (Nat.le_of_ble_eq_true rfl) dX12_least_5 ?_
  refine mg_if_eqB C 24 (by decide) dX12_least_8 (fun c_8 => ?_) (fun c_ => absurd c_ (by decide))
  refine mg_iconst C (x := nI 0) rfl dX12_least_24 ?_
  refine mg_aload_n C (i := 0) rfl 0 rfl dX12_least_25 ?_
  refine mg_getI C (k := 72) (by decide) rfl mL_partsMany rfl dX12_least_26 ?_
  refine mg_cast (nI 0) h2 ?_
  refine mg_iload_n C (i := 1) rfl 1 rfl dX12_least_29 ?_
  refine mg_icmp_lt C 37 (by decide) dX12_least_30 (fun c_ => absurd c_ (cneg_ngt h1 (by omega))) (fun c_30 => ?_)
  refine mg_iconst C (x := nI 1) rfl dX12_least_33 ?_
  refine mg_goto C 38 (by decide) dX12_least_34 ?_
  refine mg_iconst C (x := nI 1) rfl dX12_least_38 ?_
  refine mg_doi C (w13_goes l v f g ) mCal_goes rfl ⟨by decide, by decide⟩ rfl (Nat.le_of_ble_eq_true rfl) dX12_least_39 ?_
  refine mg_if_eqB C 56 (by decide) dX12_least_42 (fun c_42 => ?_) (fun c_ => absurd c_ (by decide))
  refine mg_iconst C (x := nI 0) rfl dX12_least_56 ?_
  exact mg_iret C ⟨rfl, rfl⟩ dX12_least_57
set_option maxHeartbeats 4000000 in
set_option maxRecDepth 100000 in
theorem w190_in (l : Launch) (v : Nat → Int32) (f : Nat → Nat → Int32) (g : Nat → Nat → Int64) (n1 : Nat) (h1 : n1 ≤ 1) : mMi l yX12_in cX12_in 3 (some .boolean) 0 0 true [.int (nI n1), .int (nI 2), .int (nI 8)] v f g (fun r_ u_ => r_ = (bI false) ∧ u_ = (v, f, g)) := by
  intro D cI cJ cZ a sz
  refine mg_body (by decide +kernel) rfl (Nat.le_of_ble_eq_true rfl) ?_
  intro p e s m args below meth c hsz C
  clear hsz
  generalize va_A (mW cI cJ cZ a v f g) sz = A at C ⊢
  refine mg_lv (lv' := [(0, .int (nI n1)), (1, .int (nI 2)), (2, .int (nI 8))]) rfl ?_
  refine mg_iload_n C (i := 0) rfl 0 rfl dX12_in_0 ?_
  refine mg_iload_n C (i := 1) rfl 1 rfl dX12_in_1 ?_
  refine mg_icmp_ltN C (by omega) (by omega) 14 (by decide) dX12_in_2 (fun c_2 => ?_) (fun c_ => absurd c_ (by omega))
  refine mg_iconst C (x := nI 0) rfl dX12_in_14 ?_
  refine mg_cast (bI false) rfl ?_
  exact mg_zret C (bI_nar _) ⟨rfl, rfl⟩ dX12_in_15
set_option maxHeartbeats 4000000 in
set_option maxRecDepth 100000 in
theorem w191_in (l : Launch) (v : Nat → Int32) (f : Nat → Nat → Int32) (g : Nat → Nat → Int64) : mMi l yX12_in cX12_in 3 (some .boolean) 0 0 true [.int (nI 0), .int (nI 2), .int (nI 8)] v f g (fun r_ u_ => r_ = (bI false) ∧ u_ = (v, f, g)) := by
  intro D cI cJ cZ a sz
  refine mg_body (by decide +kernel) rfl (Nat.le_of_ble_eq_true rfl) ?_
  intro p e s m args below meth c hsz C
  clear hsz
  generalize va_A (mW cI cJ cZ a v f g) sz = A at C ⊢
  refine mg_lv (lv' := [(0, .int (nI 0)), (1, .int (nI 2)), (2, .int (nI 8))]) rfl ?_
  refine mg_iload_n C (i := 0) rfl 0 rfl dX12_in_0 ?_
  refine mg_iload_n C (i := 1) rfl 1 rfl dX12_in_1 ?_
  refine mg_icmp_ltN C (by omega) (by omega) 14 (by decide) dX12_in_2 (fun c_2 => ?_) (fun c_ => absurd c_ (by omega))
  refine mg_iconst C (x := nI 0) rfl dX12_in_14 ?_
  refine mg_cast (bI false) rfl ?_
  exact mg_zret C (bI_nar _) ⟨rfl, rfl⟩ dX12_in_15
set_option maxHeartbeats 4000000 in
set_option maxRecDepth 100000 in
theorem w192_least (l : Launch) (v : Nat → Int32) (f : Nat → Nat → Int32) (g : Nat → Nat → Int64) (x1 : Int32) (h1 : v 72 = (nI 0)) : mMi l yX12_least cX12_least 3 (some .int) 1 23 false [.int (nI 0), .int x1] v f g (fun r_ u_ => r_ = (nI 0) ∧ u_ = (upd v 99 (nI 1), f, g)) := by
  intro D cI cJ cZ a sz
  refine mg_body (by decide +kernel) rfl (Nat.le_of_ble_eq_true rfl) ?_
  intro p e s m args below meth c hsz C
  clear hsz
  generalize va_A (mW cI cJ cZ a v f g) sz = A at C ⊢
  refine mg_lv (lv' := [(0, .ref (a 0)), (1, .int (nI 0)), (2, .int x1)]) rfl ?_
  refine mg_aload_n C (i := 0) rfl 0 rfl dX12_least_0 ?_
  refine mg_iload_n C (i := 1) rfl 1 rfl dX12_least_1 ?_
  refine mg_iconst C (x := nI 2) rfl dX12_least_2 ?_
  refine mg_bipush C (x := nI 8) rfl dX12_least_3 ?_
  refine mg_dosi C (w191_in l v f g ) mCal_in rfl ⟨by decide, by decide⟩ rfl (Nat.le_of_ble_eq_true rfl) dX12_least_5 ?_
  refine mg_if_eqB C 24 (by decide) dX12_least_8 (fun c_8 => ?_) (fun c_ => absurd c_ (by decide))
  refine mg_iconst C (x := nI 0) rfl dX12_least_24 ?_
  refine mg_aload_n C (i := 0) rfl 0 rfl dX12_least_25 ?_
  refine mg_getI C (k := 72) (by decide) rfl mL_partsMany rfl dX12_least_26 ?_
  refine mg_cast (nI 0) h1 ?_
  refine mg_iload_n C (i := 1) rfl 1 rfl dX12_least_29 ?_
  refine mg_icmp_ltN C (by omega) (by omega) 37 (by decide) dX12_least_30 (fun c_ => absurd c_ (by omega)) (fun c_30 => ?_)
  refine mg_iconst C (x := nI 1) rfl dX12_least_33 ?_
  refine mg_goto C 38 (by decide) dX12_least_34 ?_
  refine mg_iconst C (x := nI 1) rfl dX12_least_38 ?_
  refine mg_doi C (w13_goes l v f g ) mCal_goes rfl ⟨by decide, by decide⟩ rfl (Nat.le_of_ble_eq_true rfl) dX12_least_39 ?_
  refine mg_if_eqB C 56 (by decide) dX12_least_42 (fun c_42 => ?_) (fun c_ => absurd c_ (by decide))
  refine mg_iconst C (x := nI 0) rfl dX12_least_56 ?_
  exact mg_iret C ⟨rfl, rfl⟩ dX12_least_57
set_option maxHeartbeats 4000000 in
set_option maxRecDepth 100000 in
theorem w193_in (l : Launch) (v : Nat → Int32) (f : Nat → Nat → Int32) (g : Nat → Nat → Int64) : mMi l yX12_in cX12_in 3 (some .boolean) 0 0 true [.int (nI 1), .int (nI 2), .int (nI 8)] v f g (fun r_ u_ => r_ = (bI false) ∧ u_ = (v, f, g)) := by
  intro D cI cJ cZ a sz
  refine mg_body (by decide +kernel) rfl (Nat.le_of_ble_eq_true rfl) ?_
  intro p e s m args below meth c hsz C
  clear hsz
  generalize va_A (mW cI cJ cZ a v f g) sz = A at C ⊢
  refine mg_lv (lv' := [(0, .int (nI 1)), (1, .int (nI 2)), (2, .int (nI 8))]) rfl ?_
  refine mg_iload_n C (i := 0) rfl 0 rfl dX12_in_0 ?_
  refine mg_iload_n C (i := 1) rfl 1 rfl dX12_in_1 ?_
  refine mg_icmp_ltN C (by omega) (by omega) 14 (by decide) dX12_in_2 (fun c_2 => ?_) (fun c_ => absurd c_ (by omega))
  refine mg_iconst C (x := nI 0) rfl dX12_in_14 ?_
  refine mg_cast (bI false) rfl ?_
  exact mg_zret C (bI_nar _) ⟨rfl, rfl⟩ dX12_in_15
set_option maxHeartbeats 4000000 in
set_option maxRecDepth 100000 in
theorem w194_goes (l : Launch) (v : Nat → Int32) (f : Nat → Nat → Int32) (g : Nat → Nat → Int64) : mMi l yX12_goes cX12_goes 4 (some .boolean) 0 0 false [.int (nI 0), .int (nI 0), .int (nI 1)] v f g (fun r_ u_ => r_ = (bI false) ∧ u_ = (upd v 99 (nI 1), f, g)) := by
  intro D cI cJ cZ a sz
  refine mg_body (by decide +kernel) rfl (Nat.le_of_ble_eq_true rfl) ?_
  intro p e s m args below meth c hsz C
  clear hsz
  generalize va_A (mW cI cJ cZ a v f g) sz = A at C ⊢
  refine mg_lv (lv' := [(0, .ref (a 0)), (1, .int (nI 0)), (2, .int (nI 0)), (3, .int (nI 1))]) rfl ?_
  refine mg_aload_n C (i := 0) rfl 0 rfl dX12_goes_0 ?_
  refine mg_iload_n C (i := 1) rfl 1 rfl dX12_goes_1 ?_
  refine mg_if_neN C (by omega) 9 (by decide) dX12_goes_2 (fun c_ => absurd c_ (by omega)) (fun c_2 => ?_)
  refine mg_iconst C (x := nI 1) rfl dX12_goes_5 ?_
  refine mg_goto C 26 (by decide) dX12_goes_6 ?_
  refine mg_put C (k := 99) (by decide) rfl mL_last rfl (by decide +kernel) mT_last rfl rfl dX12_goes_26 ?_
  refine mg_aload_n C (i := 0) rfl 0 rfl dX12_goes_29 ?_
  refine mg_getI C (k := 99) (by decide) rfl mL_last rfl dX12_goes_30 ?_
  refine mg_cast (nI 1) rfl ?_
  refine mg_if_neN C (by omega) 40 (by decide) dX12_goes_33 (fun c_33 => ?_) (fun c_ => absurd c_ (by omega))
  refine mg_iconst C (x := nI 0) rfl dX12_goes_40 ?_
  refine mg_cast (bI false) rfl ?_
  exact mg_zret C (bI_nar _) ⟨rfl, rfl⟩ dX12_goes_41
set_option maxHeartbeats 4000000 in
set_option maxRecDepth 100000 in
theorem w195_least (l : Launch) (v : Nat → Int32) (f : Nat → Nat → Int32) (g : Nat → Nat → Int64) (x1 : Int32) (h1 : v 72 = (nI 0)) : mMi l yX12_least cX12_least 3 (some .int) 1 23 false [.int (nI 1), .int x1] v f g (fun r_ u_ => r_ = (nI 0) ∧ u_ = (upd v 99 (nI 1), f, g)) := by
  intro D cI cJ cZ a sz
  refine mg_body (by decide +kernel) rfl (Nat.le_of_ble_eq_true rfl) ?_
  intro p e s m args below meth c hsz C
  clear hsz
  generalize va_A (mW cI cJ cZ a v f g) sz = A at C ⊢
  refine mg_lv (lv' := [(0, .ref (a 0)), (1, .int (nI 1)), (2, .int x1)]) rfl ?_
  refine mg_aload_n C (i := 0) rfl 0 rfl dX12_least_0 ?_
  refine mg_iload_n C (i := 1) rfl 1 rfl dX12_least_1 ?_
  refine mg_iconst C (x := nI 2) rfl dX12_least_2 ?_
  refine mg_bipush C (x := nI 8) rfl dX12_least_3 ?_
  refine mg_dosi C (w193_in l v f g ) mCal_in rfl ⟨by decide, by decide⟩ rfl (Nat.le_of_ble_eq_true rfl) dX12_least_5 ?_
  refine mg_if_eqB C 24 (by decide) dX12_least_8 (fun c_8 => ?_) (fun c_ => absurd c_ (by decide))
  refine mg_iconst C (x := nI 0) rfl dX12_least_24 ?_
  refine mg_aload_n C (i := 0) rfl 0 rfl dX12_least_25 ?_
  refine mg_getI C (k := 72) (by decide) rfl mL_partsMany rfl dX12_least_26 ?_
  refine mg_cast (nI 0) h1 ?_
  refine mg_iload_n C (i := 1) rfl 1 rfl dX12_least_29 ?_
  refine mg_icmp_ltN C (by omega) (by omega) 37 (by decide) dX12_least_30 (fun c_30 => ?_) (fun c_ => absurd c_ (by omega))
  refine mg_iconst C (x := nI 0) rfl dX12_least_37 ?_
  refine mg_iconst C (x := nI 1) rfl dX12_least_38 ?_
  refine mg_doi C (w194_goes l v f g ) mCal_goes rfl ⟨by decide, by decide⟩ rfl (Nat.le_of_ble_eq_true rfl) dX12_least_39 ?_
  refine mg_if_eqB C 56 (by decide) dX12_least_42 (fun c_42 => ?_) (fun c_ => absurd c_ (by decide))
  refine mg_iconst C (x := nI 0) rfl dX12_least_56 ?_
  exact mg_iret C ⟨rfl, rfl⟩ dX12_least_57
set_option maxHeartbeats 4000000 in
set_option maxRecDepth 100000 in
theorem w196_in (l : Launch) (v : Nat → Int32) (f : Nat → Nat → Int32) (g : Nat → Nat → Int64) (n1 : Nat) (h1 : 2 ≤ n1) (h2 : n1 ≤ 8) : mMi l yX12_in cX12_in 3 (some .boolean) 0 0 true [.int (nI n1), .int (nI 2), .int (nI 8)] v f g (fun r_ u_ => r_ = (bI true) ∧ u_ = (v, f, g)) := by
  intro D cI cJ cZ a sz
  refine mg_body (by decide +kernel) rfl (Nat.le_of_ble_eq_true rfl) ?_
  intro p e s m args below meth c hsz C
  clear hsz
  generalize va_A (mW cI cJ cZ a v f g) sz = A at C ⊢
  refine mg_lv (lv' := [(0, .int (nI n1)), (1, .int (nI 2)), (2, .int (nI 8))]) rfl ?_
  refine mg_iload_n C (i := 0) rfl 0 rfl dX12_in_0 ?_
  refine mg_iload_n C (i := 1) rfl 1 rfl dX12_in_1 ?_
  refine mg_icmp_ltN C (by omega) (by omega) 14 (by decide) dX12_in_2 (fun c_ => absurd c_ (by omega)) (fun c_2 => ?_)
  refine mg_iload_n C (i := 0) rfl 0 rfl dX12_in_5 ?_
  refine mg_iload_n C (i := 2) rfl 2 rfl dX12_in_6 ?_
  refine mg_icmp_gtN C (by omega) (by omega) 14 (by decide) dX12_in_7 (fun c_ => absurd c_ (by omega)) (fun c_7 => ?_)
  refine mg_iconst C (x := nI 1) rfl dX12_in_10 ?_
  refine mg_goto C 15 (by decide) dX12_in_11 ?_
  refine mg_cast (bI true) rfl ?_
  exact mg_zret C (bI_nar _) ⟨rfl, rfl⟩ dX12_in_15
set_option maxHeartbeats 4000000 in
set_option maxRecDepth 100000 in
theorem w197_in (l : Launch) (v : Nat → Int32) (f : Nat → Nat → Int32) (g : Nat → Nat → Int64) (n1 : Nat) (x1 : Int32) (h1 : x1 < 0) (h2 : 2 ≤ n1) (h3 : n1 ≤ 8) : mMi l yX12_in cX12_in 3 (some .boolean) 0 0 true [.int x1, .int (nI 1), .int (nI n1)] v f g (fun r_ u_ => r_ = (bI false) ∧ u_ = (v, f, g)) := by
  intro D cI cJ cZ a sz
  refine mg_body (by decide +kernel) rfl (Nat.le_of_ble_eq_true rfl) ?_
  intro p e s m args below meth c hsz C
  clear hsz
  generalize va_A (mW cI cJ cZ a v f g) sz = A at C ⊢
  refine mg_lv (lv' := [(0, .int x1), (1, .int (nI 1)), (2, .int (nI n1))]) rfl ?_
  refine mg_iload_n C (i := 0) rfl 0 rfl dX12_in_0 ?_
  refine mg_iload_n C (i := 1) rfl 1 rfl dX12_in_1 ?_
  refine mg_icmp_lt C 14 (by decide) dX12_in_2 (fun c_2 => ?_) (fun c_ => absurd (cneg_lt h1 (by omega)) c_)
  refine mg_iconst C (x := nI 0) rfl dX12_in_14 ?_
  refine mg_cast (bI false) rfl ?_
  exact mg_zret C (bI_nar _) ⟨rfl, rfl⟩ dX12_in_15
set_option maxHeartbeats 4000000 in
set_option maxRecDepth 100000 in
theorem w198_least (l : Launch) (v : Nat → Int32) (f : Nat → Nat → Int32) (g : Nat → Nat → Int64) (n1 : Nat) (x1 : Int32) (h1 : 2 ≤ n1) (h2 : n1 ≤ 8) (h3 : x1 < 0) (h4 : v 72 = (nI 0)) : mMi l yX12_least cX12_least 3 (some .int) 1 23 false [.int (nI n1), .int x1] v f g (fun r_ u_ => r_ = (nI 0) ∧ u_ = (upd v 99 (nI 1), f, g)) := by
  intro D cI cJ cZ a sz
  refine mg_body (by decide +kernel) rfl (Nat.le_of_ble_eq_true rfl) ?_
  intro p e s m args below meth c hsz C
  clear hsz
  generalize va_A (mW cI cJ cZ a v f g) sz = A at C ⊢
  refine mg_lv (lv' := [(0, .ref (a 0)), (1, .int (nI n1)), (2, .int x1)]) rfl ?_
  refine mg_aload_n C (i := 0) rfl 0 rfl dX12_least_0 ?_
  refine mg_iload_n C (i := 1) rfl 1 rfl dX12_least_1 ?_
  refine mg_iconst C (x := nI 2) rfl dX12_least_2 ?_
  refine mg_bipush C (x := nI 8) rfl dX12_least_3 ?_
  refine mg_dosi C (w196_in l v f g n1 (by omega) (by omega)) mCal_in rfl ⟨by decide, by decide⟩ rfl (Nat.le_of_ble_eq_true rfl) dX12_least_5 ?_
  refine mg_if_eqB C 24 (by decide) dX12_least_8 (fun c_ => absurd c_ (by decide)) (fun c_8 => ?_)
  refine mg_iload_n C (i := 2) rfl 2 rfl dX12_least_11 ?_
  refine mg_iconst C (x := nI 1) rfl dX12_least_12 ?_
  refine mg_iload_n C (i := 1) rfl 1 rfl dX12_least_13 ?_
  refine mg_dosi C (w197_in l v f g n1 x1 h3 (by omega) (by omega)) mCal_in rfl ⟨by decide, by decide⟩ rfl (Nat.le_of_ble_eq_true rfl) dX12_least_14 ?_
  refine mg_if_eqB C 24 (by decide) dX12_least_17 (fun c_17 => ?_) (fun c_ => absurd c_ (by decide))
  refine mg_iconst C (x := nI 0) rfl dX12_least_24 ?_
  refine mg_aload_n C (i := 0) rfl 0 rfl dX12_least_25 ?_
  refine mg_getI C (k := 72) (by decide) rfl mL_partsMany rfl dX12_least_26 ?_
  refine mg_cast (nI 0) h4 ?_
  refine mg_iload_n C (i := 1) rfl 1 rfl dX12_least_29 ?_
  refine mg_icmp_ltN C (by omega) (by omega) 37 (by decide) dX12_least_30 (fun c_30 => ?_) (fun c_ => absurd c_ (by omega))
  refine mg_iconst C (x := nI 0) rfl dX12_least_37 ?_
  refine mg_iconst C (x := nI 1) rfl dX12_least_38 ?_
  refine mg_doi C (w194_goes l v f g ) mCal_goes rfl ⟨by decide, by decide⟩ rfl (Nat.le_of_ble_eq_true rfl) dX12_least_39 ?_
  refine mg_if_eqB C 56 (by decide) dX12_least_42 (fun c_42 => ?_) (fun c_ => absurd c_ (by decide))
  refine mg_iconst C (x := nI 0) rfl dX12_least_56 ?_
  exact mg_iret C ⟨rfl, rfl⟩ dX12_least_57
set_option maxHeartbeats 4000000 in
set_option maxRecDepth 100000 in
theorem w199_in (l : Launch) (v : Nat → Int32) (f : Nat → Nat → Int32) (g : Nat → Nat → Int64) (n1 : Nat) (h1 : 2 ≤ n1) (h2 : n1 ≤ 8) : mMi l yX12_in cX12_in 3 (some .boolean) 0 0 true [.int (nI 0), .int (nI 1), .int (nI n1)] v f g (fun r_ u_ => r_ = (bI false) ∧ u_ = (v, f, g)) := by
  intro D cI cJ cZ a sz
  refine mg_body (by decide +kernel) rfl (Nat.le_of_ble_eq_true rfl) ?_
  intro p e s m args below meth c hsz C
  clear hsz
  generalize va_A (mW cI cJ cZ a v f g) sz = A at C ⊢
  refine mg_lv (lv' := [(0, .int (nI 0)), (1, .int (nI 1)), (2, .int (nI n1))]) rfl ?_
  refine mg_iload_n C (i := 0) rfl 0 rfl dX12_in_0 ?_
  refine mg_iload_n C (i := 1) rfl 1 rfl dX12_in_1 ?_
  refine mg_icmp_ltN C (by omega) (by omega) 14 (by decide) dX12_in_2 (fun c_2 => ?_) (fun c_ => absurd c_ (by omega))
  refine mg_iconst C (x := nI 0) rfl dX12_in_14 ?_
  refine mg_cast (bI false) rfl ?_
  exact mg_zret C (bI_nar _) ⟨rfl, rfl⟩ dX12_in_15
set_option maxHeartbeats 4000000 in
set_option maxRecDepth 100000 in
theorem w200_least (l : Launch) (v : Nat → Int32) (f : Nat → Nat → Int32) (g : Nat → Nat → Int64) (n1 : Nat) (h1 : 2 ≤ n1) (h2 : n1 ≤ 8) (h3 : v 72 = (nI 0)) : mMi l yX12_least cX12_least 3 (some .int) 1 23 false [.int (nI n1), .int (nI 0)] v f g (fun r_ u_ => r_ = (nI 0) ∧ u_ = (upd v 99 (nI 1), f, g)) := by
  intro D cI cJ cZ a sz
  refine mg_body (by decide +kernel) rfl (Nat.le_of_ble_eq_true rfl) ?_
  intro p e s m args below meth c hsz C
  clear hsz
  generalize va_A (mW cI cJ cZ a v f g) sz = A at C ⊢
  refine mg_lv (lv' := [(0, .ref (a 0)), (1, .int (nI n1)), (2, .int (nI 0))]) rfl ?_
  refine mg_aload_n C (i := 0) rfl 0 rfl dX12_least_0 ?_
  refine mg_iload_n C (i := 1) rfl 1 rfl dX12_least_1 ?_
  refine mg_iconst C (x := nI 2) rfl dX12_least_2 ?_
  refine mg_bipush C (x := nI 8) rfl dX12_least_3 ?_
  refine mg_dosi C (w196_in l v f g n1 (by omega) (by omega)) mCal_in rfl ⟨by decide, by decide⟩ rfl (Nat.le_of_ble_eq_true rfl) dX12_least_5 ?_
  refine mg_if_eqB C 24 (by decide) dX12_least_8 (fun c_ => absurd c_ (by decide)) (fun c_8 => ?_)
  refine mg_iload_n C (i := 2) rfl 2 rfl dX12_least_11 ?_
  refine mg_iconst C (x := nI 1) rfl dX12_least_12 ?_
  refine mg_iload_n C (i := 1) rfl 1 rfl dX12_least_13 ?_
  refine mg_dosi C (w199_in l v f g n1 (by omega) (by omega)) mCal_in rfl ⟨by decide, by decide⟩ rfl (Nat.le_of_ble_eq_true rfl) dX12_least_14 ?_
  refine mg_if_eqB C 24 (by decide) dX12_least_17 (fun c_17 => ?_) (fun c_ => absurd c_ (by decide))
  refine mg_iconst C (x := nI 0) rfl dX12_least_24 ?_
  refine mg_aload_n C (i := 0) rfl 0 rfl dX12_least_25 ?_
  refine mg_getI C (k := 72) (by decide) rfl mL_partsMany rfl dX12_least_26 ?_
  refine mg_cast (nI 0) h3 ?_
  refine mg_iload_n C (i := 1) rfl 1 rfl dX12_least_29 ?_
  refine mg_icmp_ltN C (by omega) (by omega) 37 (by decide) dX12_least_30 (fun c_30 => ?_) (fun c_ => absurd c_ (by omega))
  refine mg_iconst C (x := nI 0) rfl dX12_least_37 ?_
  refine mg_iconst C (x := nI 1) rfl dX12_least_38 ?_
  refine mg_doi C (w194_goes l v f g ) mCal_goes rfl ⟨by decide, by decide⟩ rfl (Nat.le_of_ble_eq_true rfl) dX12_least_39 ?_
  refine mg_if_eqB C 56 (by decide) dX12_least_42 (fun c_42 => ?_) (fun c_ => absurd c_ (by decide))
  refine mg_iconst C (x := nI 0) rfl dX12_least_56 ?_
  exact mg_iret C ⟨rfl, rfl⟩ dX12_least_57
set_option maxHeartbeats 4000000 in
set_option maxRecDepth 100000 in
theorem w201_in (l : Launch) (v : Nat → Int32) (f : Nat → Nat → Int32) (g : Nat → Nat → Int64) (n1 n2 : Nat) (h1 : 1 ≤ n1) (h2 : n1 ≤ 2147483647) (h3 : 2 ≤ n2) (h4 : n2 ≤ 8) (h5 : n2 < n1) : mMi l yX12_in cX12_in 3 (some .boolean) 0 0 true [.int (nI n1), .int (nI 1), .int (nI n2)] v f g (fun r_ u_ => r_ = (bI false) ∧ u_ = (v, f, g)) := by
  intro D cI cJ cZ a sz
  refine mg_body (by decide +kernel) rfl (Nat.le_of_ble_eq_true rfl) ?_
  intro p e s m args below meth c hsz C
  clear hsz
  generalize va_A (mW cI cJ cZ a v f g) sz = A at C ⊢
  refine mg_lv (lv' := [(0, .int (nI n1)), (1, .int (nI 1)), (2, .int (nI n2))]) rfl ?_
  refine mg_iload_n C (i := 0) rfl 0 rfl dX12_in_0 ?_
  refine mg_iload_n C (i := 1) rfl 1 rfl dX12_in_1 ?_
  refine mg_icmp_ltN C (by omega) (by omega) 14 (by decide) dX12_in_2 (fun c_ => absurd c_ (by omega)) (fun c_2 => ?_)
  refine mg_iload_n C (i := 0) rfl 0 rfl dX12_in_5 ?_
  refine mg_iload_n C (i := 2) rfl 2 rfl dX12_in_6 ?_
  refine mg_icmp_gtN C (by omega) (by omega) 14 (by decide) dX12_in_7 (fun c_7 => ?_) (fun c_ => absurd c_ (by omega))
  refine mg_iconst C (x := nI 0) rfl dX12_in_14 ?_
  refine mg_cast (bI false) rfl ?_
  exact mg_zret C (bI_nar _) ⟨rfl, rfl⟩ dX12_in_15
set_option maxHeartbeats 4000000 in
set_option maxRecDepth 100000 in
theorem w202_least (l : Launch) (v : Nat → Int32) (f : Nat → Nat → Int32) (g : Nat → Nat → Int64) (n1 n2 : Nat) (h1 : 2 ≤ n1) (h2 : n1 ≤ 8) (h3 : 1 ≤ n2) (h4 : n2 ≤ 2147483647) (h5 : n1 < n2) (h6 : v 72 = (nI 0)) : mMi l yX12_least cX12_least 3 (some .int) 1 23 false [.int (nI n1), .int (nI n2)] v f g (fun r_ u_ => r_ = (nI 0) ∧ u_ = (upd v 99 (nI 1), f, g)) := by
  intro D cI cJ cZ a sz
  refine mg_body (by decide +kernel) rfl (Nat.le_of_ble_eq_true rfl) ?_
  intro p e s m args below meth c hsz C
  clear hsz
  generalize va_A (mW cI cJ cZ a v f g) sz = A at C ⊢
  refine mg_lv (lv' := [(0, .ref (a 0)), (1, .int (nI n1)), (2, .int (nI n2))]) rfl ?_
  refine mg_aload_n C (i := 0) rfl 0 rfl dX12_least_0 ?_
  refine mg_iload_n C (i := 1) rfl 1 rfl dX12_least_1 ?_
  refine mg_iconst C (x := nI 2) rfl dX12_least_2 ?_
  refine mg_bipush C (x := nI 8) rfl dX12_least_3 ?_
  refine mg_dosi C (w196_in l v f g n1 (by omega) (by omega)) mCal_in rfl ⟨by decide, by decide⟩ rfl (Nat.le_of_ble_eq_true rfl) dX12_least_5 ?_
  refine mg_if_eqB C 24 (by decide) dX12_least_8 (fun c_ => absurd c_ (by decide)) (fun c_8 => ?_)
  refine mg_iload_n C (i := 2) rfl 2 rfl dX12_least_11 ?_
  refine mg_iconst C (x := nI 1) rfl dX12_least_12 ?_
  refine mg_iload_n C (i := 1) rfl 1 rfl dX12_least_13 ?_
  refine mg_dosi C (w201_in l v f g n2 n1 (by omega) (by omega) (by omega) (by omega) h5) mCal_in rfl ⟨by decide, by decide⟩ rfl (Nat.le_of_ble_eq_true rfl) dX12_least_14 ?_
  refine mg_if_eqB C 24 (by decide) dX12_least_17 (fun c_17 => ?_) (fun c_ => absurd c_ (by decide))
  refine mg_iconst C (x := nI 0) rfl dX12_least_24 ?_
  refine mg_aload_n C (i := 0) rfl 0 rfl dX12_least_25 ?_
  refine mg_getI C (k := 72) (by decide) rfl mL_partsMany rfl dX12_least_26 ?_
  refine mg_cast (nI 0) h6 ?_
  refine mg_iload_n C (i := 1) rfl 1 rfl dX12_least_29 ?_
  refine mg_icmp_ltN C (by omega) (by omega) 37 (by decide) dX12_least_30 (fun c_30 => ?_) (fun c_ => absurd c_ (by omega))
  refine mg_iconst C (x := nI 0) rfl dX12_least_37 ?_
  refine mg_iconst C (x := nI 1) rfl dX12_least_38 ?_
  refine mg_doi C (w194_goes l v f g ) mCal_goes rfl ⟨by decide, by decide⟩ rfl (Nat.le_of_ble_eq_true rfl) dX12_least_39 ?_
  refine mg_if_eqB C 56 (by decide) dX12_least_42 (fun c_42 => ?_) (fun c_ => absurd c_ (by decide))
  refine mg_iconst C (x := nI 0) rfl dX12_least_56 ?_
  exact mg_iret C ⟨rfl, rfl⟩ dX12_least_57
set_option maxHeartbeats 4000000 in
set_option maxRecDepth 100000 in
theorem w203_in (l : Launch) (v : Nat → Int32) (f : Nat → Nat → Int32) (g : Nat → Nat → Int64) (n1 n2 : Nat) (h1 : 1 ≤ n1) (h2 : n1 ≤ 2147483647) (h3 : 2 ≤ n2) (h4 : n2 ≤ 8) (h5 : n1 ≤ n2) : mMi l yX12_in cX12_in 3 (some .boolean) 0 0 true [.int (nI n1), .int (nI 1), .int (nI n2)] v f g (fun r_ u_ => r_ = (bI true) ∧ u_ = (v, f, g)) := by
  intro D cI cJ cZ a sz
  refine mg_body (by decide +kernel) rfl (Nat.le_of_ble_eq_true rfl) ?_
  intro p e s m args below meth c hsz C
  clear hsz
  generalize va_A (mW cI cJ cZ a v f g) sz = A at C ⊢
  refine mg_lv (lv' := [(0, .int (nI n1)), (1, .int (nI 1)), (2, .int (nI n2))]) rfl ?_
  refine mg_iload_n C (i := 0) rfl 0 rfl dX12_in_0 ?_
  refine mg_iload_n C (i := 1) rfl 1 rfl dX12_in_1 ?_
  refine mg_icmp_ltN C (by omega) (by omega) 14 (by decide) dX12_in_2 (fun c_ => absurd c_ (by omega)) (fun c_2 => ?_)
  refine mg_iload_n C (i := 0) rfl 0 rfl dX12_in_5 ?_
  refine mg_iload_n C (i := 2) rfl 2 rfl dX12_in_6 ?_
  refine mg_icmp_gtN C (by omega) (by omega) 14 (by decide) dX12_in_7 (fun c_ => absurd c_ (by omega)) (fun c_7 => ?_)
  refine mg_iconst C (x := nI 1) rfl dX12_in_10 ?_
  refine mg_goto C 15 (by decide) dX12_in_11 ?_
  refine mg_cast (bI true) rfl ?_
  exact mg_zret C (bI_nar _) ⟨rfl, rfl⟩ dX12_in_15
set_option maxHeartbeats 4000000 in
set_option maxRecDepth 100000 in
theorem w204_goes (l : Launch) (v : Nat → Int32) (f : Nat → Nat → Int32) (g : Nat → Nat → Int64) : mMi l yX12_goes cX12_goes 4 (some .boolean) 0 0 false [.int (nI 1), .int (nI 0), .int (nI 1)] v f g (fun r_ u_ => r_ = (bI false) ∧ u_ = (upd v 99 (nI 2), f, g)) := by
  intro D cI cJ cZ a sz
  refine mg_body (by decide +kernel) rfl (Nat.le_of_ble_eq_true rfl) ?_
  intro p e s m args below meth c hsz C
  clear hsz
  generalize va_A (mW cI cJ cZ a v f g) sz = A at C ⊢
  refine mg_lv (lv' := [(0, .ref (a 0)), (1, .int (nI 1)), (2, .int (nI 0)), (3, .int (nI 1))]) rfl ?_
  refine mg_aload_n C (i := 0) rfl 0 rfl dX12_goes_0 ?_
  refine mg_iload_n C (i := 1) rfl 1 rfl dX12_goes_1 ?_
  refine mg_if_neN C (by omega) 9 (by decide) dX12_goes_2 (fun c_2 => ?_) (fun c_ => absurd c_ (by omega))
  refine mg_iload_n C (i := 2) rfl 2 rfl dX12_goes_9 ?_
  refine mg_if_neN C (by omega) 17 (by decide) dX12_goes_10 (fun c_ => absurd c_ (by omega)) (fun c_10 => ?_)
  refine mg_iconst C (x := nI 2) rfl dX12_goes_13 ?_
  refine mg_goto C 26 (by decide) dX12_goes_14 ?_
  refine mg_put C (k := 99) (by decide) rfl mL_last rfl (by decide +kernel) mT_last rfl rfl dX12_goes_26 ?_
  refine mg_aload_n C (i := 0) rfl 0 rfl dX12_goes_29 ?_
  refine mg_getI C (k := 99) (by decide) rfl mL_last rfl dX12_goes_30 ?_
  refine mg_cast (nI 2) rfl ?_
  refine mg_if_neN C (by omega) 40 (by decide) dX12_goes_33 (fun c_33 => ?_) (fun c_ => absurd c_ (by omega))
  refine mg_iconst C (x := nI 0) rfl dX12_goes_40 ?_
  refine mg_cast (bI false) rfl ?_
  exact mg_zret C (bI_nar _) ⟨rfl, rfl⟩ dX12_goes_41
set_option maxHeartbeats 4000000 in
set_option maxRecDepth 100000 in
theorem w205_least (l : Launch) (v : Nat → Int32) (f : Nat → Nat → Int32) (g : Nat → Nat → Int64) (n1 n2 : Nat) (h1 : 2 ≤ n1) (h2 : n1 ≤ 8) (h3 : 1 ≤ n2) (h4 : n2 ≤ 2147483647) (h5 : n2 ≤ n1) (h6 : v 72 = (nI 0)) : mMi l yX12_least cX12_least 3 (some .int) 1 23 false [.int (nI n1), .int (nI n2)] v f g (fun r_ u_ => r_ = (nI 0) ∧ u_ = (upd v 99 (nI 2), f, g)) := by
  intro D cI cJ cZ a sz
  refine mg_body (by decide +kernel) rfl (Nat.le_of_ble_eq_true rfl) ?_
  intro p e s m args below meth c hsz C
  clear hsz
  generalize va_A (mW cI cJ cZ a v f g) sz = A at C ⊢
  refine mg_lv (lv' := [(0, .ref (a 0)), (1, .int (nI n1)), (2, .int (nI n2))]) rfl ?_
  refine mg_aload_n C (i := 0) rfl 0 rfl dX12_least_0 ?_
  refine mg_iload_n C (i := 1) rfl 1 rfl dX12_least_1 ?_
  refine mg_iconst C (x := nI 2) rfl dX12_least_2 ?_
  refine mg_bipush C (x := nI 8) rfl dX12_least_3 ?_
  refine mg_dosi C (w196_in l v f g n1 (by omega) (by omega)) mCal_in rfl ⟨by decide, by decide⟩ rfl (Nat.le_of_ble_eq_true rfl) dX12_least_5 ?_
  refine mg_if_eqB C 24 (by decide) dX12_least_8 (fun c_ => absurd c_ (by decide)) (fun c_8 => ?_)
  refine mg_iload_n C (i := 2) rfl 2 rfl dX12_least_11 ?_
  refine mg_iconst C (x := nI 1) rfl dX12_least_12 ?_
  refine mg_iload_n C (i := 1) rfl 1 rfl dX12_least_13 ?_
  refine mg_dosi C (w203_in l v f g n2 n1 (by omega) (by omega) (by omega) (by omega) h5) mCal_in rfl ⟨by decide, by decide⟩ rfl (Nat.le_of_ble_eq_true rfl) dX12_least_14 ?_
  refine mg_if_eqB C 24 (by decide) dX12_least_17 (fun c_ => absurd c_ (by decide)) (fun c_17 => ?_)
  refine mg_iconst C (x := nI 1) rfl dX12_least_20 ?_
  refine mg_goto C 25 (by decide) dX12_least_21 ?_
  refine mg_aload_n C (i := 0) rfl 0 rfl dX12_least_25 ?_
  refine mg_getI C (k := 72) (by decide) rfl mL_partsMany rfl dX12_least_26 ?_
  refine mg_cast (nI 0) h6 ?_
  refine mg_iload_n C (i := 1) rfl 1 rfl dX12_least_29 ?_
  refine mg_icmp_ltN C (by omega) (by omega) 37 (by decide) dX12_least_30 (fun c_30 => ?_) (fun c_ => absurd c_ (by omega))
  refine mg_iconst C (x := nI 0) rfl dX12_least_37 ?_
  refine mg_iconst C (x := nI 1) rfl dX12_least_38 ?_
  refine mg_doi C (w204_goes l v f g ) mCal_goes rfl ⟨by decide, by decide⟩ rfl (Nat.le_of_ble_eq_true rfl) dX12_least_39 ?_
  refine mg_if_eqB C 56 (by decide) dX12_least_42 (fun c_42 => ?_) (fun c_ => absurd c_ (by decide))
  refine mg_iconst C (x := nI 0) rfl dX12_least_56 ?_
  exact mg_iret C ⟨rfl, rfl⟩ dX12_least_57
set_option maxHeartbeats 4000000 in
set_option maxRecDepth 100000 in
theorem w206_in (l : Launch) (v : Nat → Int32) (f : Nat → Nat → Int32) (g : Nat → Nat → Int64) (n1 : Nat) (h1 : 9 ≤ n1) (h2 : n1 ≤ 2147483647) : mMi l yX12_in cX12_in 3 (some .boolean) 0 0 true [.int (nI n1), .int (nI 2), .int (nI 8)] v f g (fun r_ u_ => r_ = (bI false) ∧ u_ = (v, f, g)) := by
  intro D cI cJ cZ a sz
  refine mg_body (by decide +kernel) rfl (Nat.le_of_ble_eq_true rfl) ?_
  intro p e s m args below meth c hsz C
  clear hsz
  generalize va_A (mW cI cJ cZ a v f g) sz = A at C ⊢
  refine mg_lv (lv' := [(0, .int (nI n1)), (1, .int (nI 2)), (2, .int (nI 8))]) rfl ?_
  refine mg_iload_n C (i := 0) rfl 0 rfl dX12_in_0 ?_
  refine mg_iload_n C (i := 1) rfl 1 rfl dX12_in_1 ?_
  refine mg_icmp_ltN C (by omega) (by omega) 14 (by decide) dX12_in_2 (fun c_ => absurd c_ (by omega)) (fun c_2 => ?_)
  refine mg_iload_n C (i := 0) rfl 0 rfl dX12_in_5 ?_
  refine mg_iload_n C (i := 2) rfl 2 rfl dX12_in_6 ?_
  refine mg_icmp_gtN C (by omega) (by omega) 14 (by decide) dX12_in_7 (fun c_7 => ?_) (fun c_ => absurd c_ (by omega))
  refine mg_iconst C (x := nI 0) rfl dX12_in_14 ?_
  refine mg_cast (bI false) rfl ?_
  exact mg_zret C (bI_nar _) ⟨rfl, rfl⟩ dX12_in_15
set_option maxHeartbeats 4000000 in
set_option maxRecDepth 100000 in
theorem w207_least (l : Launch) (v : Nat → Int32) (f : Nat → Nat → Int32) (g : Nat → Nat → Int64) (n1 : Nat) (x1 : Int32) (h1 : 9 ≤ n1) (h2 : n1 ≤ 2147483647) (h3 : v 72 = (nI 0)) : mMi l yX12_least cX12_least 3 (some .int) 1 23 false [.int (nI n1), .int x1] v f g (fun r_ u_ => r_ = (nI 0) ∧ u_ = (upd v 99 (nI 1), f, g)) := by
  intro D cI cJ cZ a sz
  refine mg_body (by decide +kernel) rfl (Nat.le_of_ble_eq_true rfl) ?_
  intro p e s m args below meth c hsz C
  clear hsz
  generalize va_A (mW cI cJ cZ a v f g) sz = A at C ⊢
  refine mg_lv (lv' := [(0, .ref (a 0)), (1, .int (nI n1)), (2, .int x1)]) rfl ?_
  refine mg_aload_n C (i := 0) rfl 0 rfl dX12_least_0 ?_
  refine mg_iload_n C (i := 1) rfl 1 rfl dX12_least_1 ?_
  refine mg_iconst C (x := nI 2) rfl dX12_least_2 ?_
  refine mg_bipush C (x := nI 8) rfl dX12_least_3 ?_
  refine mg_dosi C (w206_in l v f g n1 (by omega) (by omega)) mCal_in rfl ⟨by decide, by decide⟩ rfl (Nat.le_of_ble_eq_true rfl) dX12_least_5 ?_
  refine mg_if_eqB C 24 (by decide) dX12_least_8 (fun c_8 => ?_) (fun c_ => absurd c_ (by decide))
  refine mg_iconst C (x := nI 0) rfl dX12_least_24 ?_
  refine mg_aload_n C (i := 0) rfl 0 rfl dX12_least_25 ?_
  refine mg_getI C (k := 72) (by decide) rfl mL_partsMany rfl dX12_least_26 ?_
  refine mg_cast (nI 0) h3 ?_
  refine mg_iload_n C (i := 1) rfl 1 rfl dX12_least_29 ?_
  refine mg_icmp_ltN C (by omega) (by omega) 37 (by decide) dX12_least_30 (fun c_30 => ?_) (fun c_ => absurd c_ (by omega))
  refine mg_iconst C (x := nI 0) rfl dX12_least_37 ?_
  refine mg_iconst C (x := nI 1) rfl dX12_least_38 ?_
  refine mg_doi C (w194_goes l v f g ) mCal_goes rfl ⟨by decide, by decide⟩ rfl (Nat.le_of_ble_eq_true rfl) dX12_least_39 ?_
  refine mg_if_eqB C 56 (by decide) dX12_least_42 (fun c_42 => ?_) (fun c_ => absurd c_ (by decide))
  refine mg_iconst C (x := nI 0) rfl dX12_least_56 ?_
  exact mg_iret C ⟨rfl, rfl⟩ dX12_least_57
set_option maxHeartbeats 4000000 in
set_option maxRecDepth 100000 in
theorem w208_but (l : Launch) (v : Nat → Int32) (f : Nat → Nat → Int32) (g : Nat → Nat → Int64) (h1 : v 72 = (nI 0)) : mMi l yX12_but cX12_but 1 (some .int) 1 23 false [] v f g (fun r_ u_ => r_ = (nI 0) ∧ u_ = (upd v 99 (nI 1), f, g)) := by
  intro D cI cJ cZ a sz
  refine mg_body (by decide +kernel) rfl (Nat.le_of_ble_eq_true rfl) ?_
  intro p e s m args below meth c hsz C
  clear hsz
  generalize va_A (mW cI cJ cZ a v f g) sz = A at C ⊢
  refine mg_lv (lv' := [(0, .ref (a 0))]) rfl ?_
  refine mg_aload_n C (i := 0) rfl 0 rfl dX12_but_0 ?_
  refine mg_aload_n C (i := 0) rfl 0 rfl dX12_but_1 ?_
  refine mg_getI C (k := 72) (by decide) rfl mL_partsMany rfl dX12_but_2 ?_
  refine mg_cast (nI 0) h1 ?_
  refine mg_iconst C (x := nI 2) rfl dX12_but_5 ?_
  refine mg_icmp_ltN C (by omega) (by omega) 13 (by decide) dX12_but_6 (fun c_6 => ?_) (fun c_ => absurd c_ (by omega))
  refine mg_iconst C (x := nI 0) rfl dX12_but_13 ?_
  refine mg_iconst C (x := nI 1) rfl dX12_but_14 ?_
  refine mg_iconst C (x := nI 1) rfl dX12_but_15 ?_
  refine mg_doi C (w13_goes l v f g ) mCal_goes rfl ⟨by decide, by decide⟩ rfl (Nat.le_of_ble_eq_true rfl) dX12_but_16 ?_
  refine mg_if_eqB C 33 (by decide) dX12_but_19 (fun c_19 => ?_) (fun c_ => absurd c_ (by decide))
  refine mg_iconst C (x := nI 0) rfl dX12_but_33 ?_
  exact mg_iret C ⟨rfl, rfl⟩ dX12_but_34
set_option maxHeartbeats 4000000 in
set_option maxRecDepth 100000 in
theorem w209_query (l : Launch) (v : Nat → Int32) (f : Nat → Nat → Int32) (g : Nat → Nat → Int64) (h1 : v 72 = (nI 0)) : mMi l yX12_query cX12_query 5 (some .int) 1 23 false [] v f g (fun r_ u_ => r_ = (nI 0) ∧ u_ = (upd v 99 (nI 1), f, g)) := by
  intro D cI cJ cZ a sz
  refine mg_body (by decide +kernel) rfl (Nat.le_of_ble_eq_true rfl) ?_
  intro p e s m args below meth c hsz C
  clear hsz
  generalize va_A (mW cI cJ cZ a v f g) sz = A at C ⊢
  refine mg_lv (lv' := [(0, .ref (a 0))]) rfl ?_
  refine mg_aload_n C (i := 0) rfl 0 rfl dX12_query_0 ?_
  refine mg_aload_n C (i := 0) rfl 0 rfl dX12_query_1 ?_
  refine mg_getI C (k := 72) (by decide) rfl mL_partsMany rfl dX12_query_2 ?_
  refine mg_cast (nI 0) h1 ?_
  refine mg_iconst C (x := nI 1) rfl dX12_query_5 ?_
  refine mg_icmp_neN C (by omega) (by omega) 22 (by decide) dX12_query_6 (fun c_6 => ?_) (fun c_ => absurd c_ (by omega))
  refine mg_iconst C (x := nI 0) rfl dX12_query_22 ?_
  refine mg_iconst C (x := nI 1) rfl dX12_query_23 ?_
  refine mg_iconst C (x := nI 1) rfl dX12_query_24 ?_
  refine mg_doi C (w13_goes l v f g ) mCal_goes rfl ⟨by decide, by decide⟩ rfl (Nat.le_of_ble_eq_true rfl) dX12_query_25 ?_
  refine mg_if_neB C 33 (by decide) dX12_query_28 (fun c_ => absurd c_ (by decide)) (fun c_28 => ?_)
  refine mg_iconst C (x := nI 0) rfl dX12_query_31 ?_
  exact mg_iret C ⟨rfl, rfl⟩ dX12_query_32
set_option maxHeartbeats 4000000 in
set_option maxRecDepth 100000 in
theorem w210_scraps (l : Launch) (v : Nat → Int32) (f : Nat → Nat → Int32) (g : Nat → Nat → Int64) : mMv l yX12_scraps cX12_scraps 1 none 0 0 false [] v f g (fun u_ => u_ = (upd (upd v 71 (nI 0)) 72 (nI 0), mU f 48 40 (nI 0), g)) := by
  intro D cI cJ cZ a sz
  refine mg_body (by decide +kernel) rfl (Nat.le_of_ble_eq_true rfl) ?_
  intro p e s m args below meth c hsz C
  clear hsz
  generalize va_A (mW cI cJ cZ a v f g) sz = A at C ⊢
  refine mg_lv (lv' := [(0, .ref (a 0))]) rfl ?_
  refine mg_aload_n C (i := 0) rfl 0 rfl dX12_scraps_0 ?_
  refine mg_arr C 48 (by decide) (by decide) rfl mL_opsMany rfl dX12_scraps_1 ?_
  refine mg_bipush C (x := nI 40) rfl dX12_scraps_4 ?_
  refine mg_iconst C (x := nI 0) rfl dX12_scraps_6 ?_
  refine mg_iastore C (n := 41) 48 40 (by decide) (by decide) rfl rfl (by omega) (by decide) dX12_scraps_7 ?_
  refine mg_aload_n C (i := 0) rfl 0 rfl dX12_scraps_8 ?_
  refine mg_iconst C (x := nI 0) rfl dX12_scraps_9 ?_
  refine mg_put C (k := 71) (by decide) rfl mL_leaves rfl (by decide +kernel) mT_leaves rfl rfl dX12_scraps_10 ?_
  refine mg_aload_n C (i := 0) rfl 0 rfl dX12_scraps_13 ?_
  refine mg_iconst C (x := nI 0) rfl dX12_scraps_14 ?_
  refine mg_put C (k := 72) (by decide) rfl mL_partsMany rfl (by decide +kernel) mT_partsMany rfl rfl dX12_scraps_15 ?_
  exact mg_vret C rfl dX12_scraps_18
set_option maxHeartbeats 4000000 in
set_option maxRecDepth 100000 in
theorem w211_scrap (l : Launch) (v : Nat → Int32) (f : Nat → Nat → Int32) (g : Nat → Nat → Int64) (h1 : v 72 = (nI 0)) : mMi l yX12_scrap cX12_scrap 2 (some .int) 1 20 false [] v f g (fun r_ u_ => r_ = (nI 0) ∧ u_ = (upd (upd (upd v 99 (nI 0)) 71 (nI 0)) 72 (nI 0), mU f 48 40 (nI 0), g)) := by
  intro D cI cJ cZ a sz
  refine mg_body (by decide +kernel) rfl (Nat.le_of_ble_eq_true rfl) ?_
  intro p e s m args below meth c hsz C
  clear hsz
  generalize va_A (mW cI cJ cZ a v f g) sz = A at C ⊢
  refine mg_lv (lv' := [(0, .ref (a 0))]) rfl ?_
  refine mg_aload_n C (i := 0) rfl 0 rfl dX12_scrap_0 ?_
  refine mg_iconst C (x := nI 0) rfl dX12_scrap_1 ?_
  refine mg_put C (k := 99) (by decide) rfl mL_last rfl (by decide +kernel) mT_last rfl rfl dX12_scrap_2 ?_
  refine mg_aload_n C (i := 0) rfl 0 rfl dX12_scrap_5 ?_
  refine mg_getI C (k := 72) (by decide) rfl mL_partsMany rfl dX12_scrap_6 ?_
  refine mg_cast (nI 0) h1 ?_
  refine mg_istore_n C (i := 1) (lv' := [(1, .int (nI 0)), (0, .ref (a 0))]) rfl (Nat.le_of_ble_eq_true rfl) rfl dX12_scrap_9 ?_
  refine mg_aload_n C (i := 0) rfl 1 rfl dX12_scrap_10 ?_
  refine mg_dov C (w210_scraps l (upd v 99 (nI 0)) f g ) mCal_scraps rfl ⟨by decide, by decide⟩ rfl (Nat.le_of_ble_eq_true rfl) dX12_scrap_11 ?_
  refine mg_iload_n C (i := 1) rfl 0 rfl dX12_scrap_14 ?_
  exact mg_iret C ⟨rfl, rfl⟩ dX12_scrap_15
set_option maxHeartbeats 4000000 in
set_option maxRecDepth 100000 in
theorem w212_in (l : Launch) (v : Nat → Int32) (f : Nat → Nat → Int32) (g : Nat → Nat → Int64) (x1 : Int32) (h1 : x1 < 0) : mMi l yX12_in cX12_in 3 (some .boolean) 0 0 true [.int x1, .int (nI 1), .int (nI 9)] v f g (fun r_ u_ => r_ = (bI false) ∧ u_ = (v, f, g)) := by
  intro D cI cJ cZ a sz
  refine mg_body (by decide +kernel) rfl (Nat.le_of_ble_eq_true rfl) ?_
  intro p e s m args below meth c hsz C
  clear hsz
  generalize va_A (mW cI cJ cZ a v f g) sz = A at C ⊢
  refine mg_lv (lv' := [(0, .int x1), (1, .int (nI 1)), (2, .int (nI 9))]) rfl ?_
  refine mg_iload_n C (i := 0) rfl 0 rfl dX12_in_0 ?_
  refine mg_iload_n C (i := 1) rfl 1 rfl dX12_in_1 ?_
  refine mg_icmp_lt C 14 (by decide) dX12_in_2 (fun c_2 => ?_) (fun c_ => absurd (cneg_lt h1 (by omega)) c_)
  refine mg_iconst C (x := nI 0) rfl dX12_in_14 ?_
  refine mg_cast (bI false) rfl ?_
  exact mg_zret C (bI_nar _) ⟨rfl, rfl⟩ dX12_in_15
set_option maxHeartbeats 4000000 in
set_option maxRecDepth 100000 in
theorem w213_goes (l : Launch) (v : Nat → Int32) (f : Nat → Nat → Int32) (g : Nat → Nat → Int64) : mMi l yX12_goes cX12_goes 4 (some .boolean) 0 0 false [.int (bI false), .int (bI false), .int (nI 1)] v f g (fun r_ u_ => r_ = (bI false) ∧ u_ = (upd v 99 (nI 1), f, g)) := by
  intro D cI cJ cZ a sz
  refine mg_body (by decide +kernel) rfl (Nat.le_of_ble_eq_true rfl) ?_
  intro p e s m args below meth c hsz C
  clear hsz
  generalize va_A (mW cI cJ cZ a v f g) sz = A at C ⊢
  refine mg_lv (lv' := [(0, .ref (a 0)), (1, .int (bI false)), (2, .int (bI false)), (3, .int (nI 1))]) rfl ?_
  refine mg_aload_n C (i := 0) rfl 0 rfl dX12_goes_0 ?_
  refine mg_iload_n C (i := 1) rfl 1 rfl dX12_goes_1 ?_
  refine mg_if_neB C 9 (by decide) dX12_goes_2 (fun c_ => absurd c_ (by decide)) (fun c_2 => ?_)
  refine mg_iconst C (x := nI 1) rfl dX12_goes_5 ?_
  refine mg_goto C 26 (by decide) dX12_goes_6 ?_
  refine mg_put C (k := 99) (by decide) rfl mL_last rfl (by decide +kernel) mT_last rfl rfl dX12_goes_26 ?_
  refine mg_aload_n C (i := 0) rfl 0 rfl dX12_goes_29 ?_
  refine mg_getI C (k := 99) (by decide) rfl mL_last rfl dX12_goes_30 ?_
  refine mg_cast (nI 1) rfl ?_
  refine mg_if_neN C (by omega) 40 (by decide) dX12_goes_33 (fun c_33 => ?_) (fun c_ => absurd c_ (by omega))
  refine mg_iconst C (x := nI 0) rfl dX12_goes_40 ?_
  refine mg_cast (bI false) rfl ?_
  exact mg_zret C (bI_nar _) ⟨rfl, rfl⟩ dX12_goes_41
set_option maxHeartbeats 4000000 in
set_option maxRecDepth 100000 in
theorem w214_weigh (l : Launch) (v : Nat → Int32) (f : Nat → Nat → Int32) (g : Nat → Nat → Int64) (x1 x2 : Int32) (h1 : x1 < 0) (h2 : x2 < 0) : mMi l yX12_weigh cX12_weigh 4 (some .int) 2 43 false [.int x1, .int x2] v f g (fun r_ u_ => r_ = (nI 0) ∧ u_ = (upd v 99 (nI 1), f, g)) := by
  intro D cI cJ cZ a sz
  refine mg_body (by decide +kernel) rfl (Nat.le_of_ble_eq_true rfl) ?_
  intro p e s m args below meth c hsz C
  clear hsz
  generalize va_A (mW cI cJ cZ a v f g) sz = A at C ⊢
  refine mg_lv (lv' := [(0, .ref (a 0)), (1, .int x1), (2, .int x2)]) rfl ?_
  refine mg_aload_n C (i := 0) rfl 0 rfl dX12_weigh_0 ?_
  refine mg_aload_n C (i := 0) rfl 0 rfl dX12_weigh_1 ?_
  refine mg_iload_n C (i := 1) rfl 1 rfl dX12_weigh_2 ?_
  refine mg_doi C (w107_isField l v f g x1 h1) mCal_isField rfl ⟨by decide, by decide⟩ rfl (Nat.le_of_ble_eq_true rfl) dX12_weigh_3 ?_
  refine mg_iload_n C (i := 2) rfl 2 rfl dX12_weigh_6 ?_
  refine mg_iconst C (x := nI 1) rfl dX12_weigh_7 ?_
  refine mg_bipush C (x := nI 9) rfl dX12_weigh_8 ?_
  refine mg_dosi C (w212_in l v f g x2 h2) mCal_in rfl ⟨by decide, by decide⟩ rfl (Nat.le_of_ble_eq_true rfl) dX12_weigh_10 ?_
  refine mg_iconst C (x := nI 1) rfl dX12_weigh_13 ?_
  refine mg_doi C (w213_goes l v f g ) mCal_goes rfl ⟨by decide, by decide⟩ rfl (Nat.le_of_ble_eq_true rfl) dX12_weigh_14 ?_
  refine mg_if_neB C 22 (by decide) dX12_weigh_17 (fun c_ => absurd c_ (by decide)) (fun c_17 => ?_)
  refine mg_iconst C (x := nI 0) rfl dX12_weigh_20 ?_
  exact mg_iret C ⟨rfl, rfl⟩ dX12_weigh_21
set_option maxHeartbeats 4000000 in
set_option maxRecDepth 100000 in
theorem w215_in (l : Launch) (v : Nat → Int32) (f : Nat → Nat → Int32) (g : Nat → Nat → Int64) : mMi l yX12_in cX12_in 3 (some .boolean) 0 0 true [.int (nI 0), .int (nI 1), .int (nI 9)] v f g (fun r_ u_ => r_ = (bI false) ∧ u_ = (v, f, g)) := by
  intro D cI cJ cZ a sz
  refine mg_body (by decide +kernel) rfl (Nat.le_of_ble_eq_true rfl) ?_
  intro p e s m args below meth c hsz C
  clear hsz
  generalize va_A (mW cI cJ cZ a v f g) sz = A at C ⊢
  refine mg_lv (lv' := [(0, .int (nI 0)), (1, .int (nI 1)), (2, .int (nI 9))]) rfl ?_
  refine mg_iload_n C (i := 0) rfl 0 rfl dX12_in_0 ?_
  refine mg_iload_n C (i := 1) rfl 1 rfl dX12_in_1 ?_
  refine mg_icmp_ltN C (by omega) (by omega) 14 (by decide) dX12_in_2 (fun c_2 => ?_) (fun c_ => absurd c_ (by omega))
  refine mg_iconst C (x := nI 0) rfl dX12_in_14 ?_
  refine mg_cast (bI false) rfl ?_
  exact mg_zret C (bI_nar _) ⟨rfl, rfl⟩ dX12_in_15
set_option maxHeartbeats 4000000 in
set_option maxRecDepth 100000 in
theorem w216_weigh (l : Launch) (v : Nat → Int32) (f : Nat → Nat → Int32) (g : Nat → Nat → Int64) (x1 : Int32) (h1 : x1 < 0) : mMi l yX12_weigh cX12_weigh 4 (some .int) 2 43 false [.int x1, .int (nI 0)] v f g (fun r_ u_ => r_ = (nI 0) ∧ u_ = (upd v 99 (nI 1), f, g)) := by
  intro D cI cJ cZ a sz
  refine mg_body (by decide +kernel) rfl (Nat.le_of_ble_eq_true rfl) ?_
  intro p e s m args below meth c hsz C
  clear hsz
  generalize va_A (mW cI cJ cZ a v f g) sz = A at C ⊢
  refine mg_lv (lv' := [(0, .ref (a 0)), (1, .int x1), (2, .int (nI 0))]) rfl ?_
  refine mg_aload_n C (i := 0) rfl 0 rfl dX12_weigh_0 ?_
  refine mg_aload_n C (i := 0) rfl 0 rfl dX12_weigh_1 ?_
  refine mg_iload_n C (i := 1) rfl 1 rfl dX12_weigh_2 ?_
  refine mg_doi C (w107_isField l v f g x1 h1) mCal_isField rfl ⟨by decide, by decide⟩ rfl (Nat.le_of_ble_eq_true rfl) dX12_weigh_3 ?_
  refine mg_iload_n C (i := 2) rfl 2 rfl dX12_weigh_6 ?_
  refine mg_iconst C (x := nI 1) rfl dX12_weigh_7 ?_
  refine mg_bipush C (x := nI 9) rfl dX12_weigh_8 ?_
  refine mg_dosi C (w215_in l v f g ) mCal_in rfl ⟨by decide, by decide⟩ rfl (Nat.le_of_ble_eq_true rfl) dX12_weigh_10 ?_
  refine mg_iconst C (x := nI 1) rfl dX12_weigh_13 ?_
  refine mg_doi C (w213_goes l v f g ) mCal_goes rfl ⟨by decide, by decide⟩ rfl (Nat.le_of_ble_eq_true rfl) dX12_weigh_14 ?_
  refine mg_if_neB C 22 (by decide) dX12_weigh_17 (fun c_ => absurd c_ (by decide)) (fun c_17 => ?_)
  refine mg_iconst C (x := nI 0) rfl dX12_weigh_20 ?_
  exact mg_iret C ⟨rfl, rfl⟩ dX12_weigh_21
set_option maxHeartbeats 4000000 in
set_option maxRecDepth 100000 in
theorem w217_in (l : Launch) (v : Nat → Int32) (f : Nat → Nat → Int32) (g : Nat → Nat → Int64) (n1 : Nat) (h1 : 1 ≤ n1) (h2 : n1 ≤ 9) : mMi l yX12_in cX12_in 3 (some .boolean) 0 0 true [.int (nI n1), .int (nI 1), .int (nI 9)] v f g (fun r_ u_ => r_ = (bI true) ∧ u_ = (v, f, g)) := by
  intro D cI cJ cZ a sz
  refine mg_body (by decide +kernel) rfl (Nat.le_of_ble_eq_true rfl) ?_
  intro p e s m args below meth c hsz C
  clear hsz
  generalize va_A (mW cI cJ cZ a v f g) sz = A at C ⊢
  refine mg_lv (lv' := [(0, .int (nI n1)), (1, .int (nI 1)), (2, .int (nI 9))]) rfl ?_
  refine mg_iload_n C (i := 0) rfl 0 rfl dX12_in_0 ?_
  refine mg_iload_n C (i := 1) rfl 1 rfl dX12_in_1 ?_
  refine mg_icmp_ltN C (by omega) (by omega) 14 (by decide) dX12_in_2 (fun c_ => absurd c_ (by omega)) (fun c_2 => ?_)
  refine mg_iload_n C (i := 0) rfl 0 rfl dX12_in_5 ?_
  refine mg_iload_n C (i := 2) rfl 2 rfl dX12_in_6 ?_
  refine mg_icmp_gtN C (by omega) (by omega) 14 (by decide) dX12_in_7 (fun c_ => absurd c_ (by omega)) (fun c_7 => ?_)
  refine mg_iconst C (x := nI 1) rfl dX12_in_10 ?_
  refine mg_goto C 15 (by decide) dX12_in_11 ?_
  refine mg_cast (bI true) rfl ?_
  exact mg_zret C (bI_nar _) ⟨rfl, rfl⟩ dX12_in_15
set_option maxHeartbeats 4000000 in
set_option maxRecDepth 100000 in
theorem w218_goes (l : Launch) (v : Nat → Int32) (f : Nat → Nat → Int32) (g : Nat → Nat → Int64) : mMi l yX12_goes cX12_goes 4 (some .boolean) 0 0 false [.int (bI false), .int (bI true), .int (nI 1)] v f g (fun r_ u_ => r_ = (bI false) ∧ u_ = (upd v 99 (nI 1), f, g)) := by
  intro D cI cJ cZ a sz
  refine mg_body (by decide +kernel) rfl (Nat.le_of_ble_eq_true rfl) ?_
  intro p e s m args below meth c hsz C
  clear hsz
  generalize va_A (mW cI cJ cZ a v f g) sz = A at C ⊢
  refine mg_lv (lv' := [(0, .ref (a 0)), (1, .int (bI false)), (2, .int (bI true)), (3, .int (nI 1))]) rfl ?_
  refine mg_aload_n C (i := 0) rfl 0 rfl dX12_goes_0 ?_
  refine mg_iload_n C (i := 1) rfl 1 rfl dX12_goes_1 ?_
  refine mg_if_neB C 9 (by decide) dX12_goes_2 (fun c_ => absurd c_ (by decide)) (fun c_2 => ?_)
  refine mg_iconst C (x := nI 1) rfl dX12_goes_5 ?_
  refine mg_goto C 26 (by decide) dX12_goes_6 ?_
  refine mg_put C (k := 99) (by decide) rfl mL_last rfl (by decide +kernel) mT_last rfl rfl dX12_goes_26 ?_
  refine mg_aload_n C (i := 0) rfl 0 rfl dX12_goes_29 ?_
  refine mg_getI C (k := 99) (by decide) rfl mL_last rfl dX12_goes_30 ?_
  refine mg_cast (nI 1) rfl ?_
  refine mg_if_neN C (by omega) 40 (by decide) dX12_goes_33 (fun c_33 => ?_) (fun c_ => absurd c_ (by omega))
  refine mg_iconst C (x := nI 0) rfl dX12_goes_40 ?_
  refine mg_cast (bI false) rfl ?_
  exact mg_zret C (bI_nar _) ⟨rfl, rfl⟩ dX12_goes_41
set_option maxHeartbeats 4000000 in
set_option maxRecDepth 100000 in
theorem w219_weigh (l : Launch) (v : Nat → Int32) (f : Nat → Nat → Int32) (g : Nat → Nat → Int64) (n1 : Nat) (x1 : Int32) (h1 : x1 < 0) (h2 : 1 ≤ n1) (h3 : n1 ≤ 9) : mMi l yX12_weigh cX12_weigh 4 (some .int) 2 43 false [.int x1, .int (nI n1)] v f g (fun r_ u_ => r_ = (nI 0) ∧ u_ = (upd v 99 (nI 1), f, g)) := by
  intro D cI cJ cZ a sz
  refine mg_body (by decide +kernel) rfl (Nat.le_of_ble_eq_true rfl) ?_
  intro p e s m args below meth c hsz C
  clear hsz
  generalize va_A (mW cI cJ cZ a v f g) sz = A at C ⊢
  refine mg_lv (lv' := [(0, .ref (a 0)), (1, .int x1), (2, .int (nI n1))]) rfl ?_
  refine mg_aload_n C (i := 0) rfl 0 rfl dX12_weigh_0 ?_
  refine mg_aload_n C (i := 0) rfl 0 rfl dX12_weigh_1 ?_
  refine mg_iload_n C (i := 1) rfl 1 rfl dX12_weigh_2 ?_
  refine mg_doi C (w107_isField l v f g x1 h1) mCal_isField rfl ⟨by decide, by decide⟩ rfl (Nat.le_of_ble_eq_true rfl) dX12_weigh_3 ?_
  refine mg_iload_n C (i := 2) rfl 2 rfl dX12_weigh_6 ?_
  refine mg_iconst C (x := nI 1) rfl dX12_weigh_7 ?_
  refine mg_bipush C (x := nI 9) rfl dX12_weigh_8 ?_
  refine mg_dosi C (w217_in l v f g n1 (by omega) (by omega)) mCal_in rfl ⟨by decide, by decide⟩ rfl (Nat.le_of_ble_eq_true rfl) dX12_weigh_10 ?_
  refine mg_iconst C (x := nI 1) rfl dX12_weigh_13 ?_
  refine mg_doi C (w218_goes l v f g ) mCal_goes rfl ⟨by decide, by decide⟩ rfl (Nat.le_of_ble_eq_true rfl) dX12_weigh_14 ?_
  refine mg_if_neB C 22 (by decide) dX12_weigh_17 (fun c_ => absurd c_ (by decide)) (fun c_17 => ?_)
  refine mg_iconst C (x := nI 0) rfl dX12_weigh_20 ?_
  exact mg_iret C ⟨rfl, rfl⟩ dX12_weigh_21
set_option maxHeartbeats 4000000 in
set_option maxRecDepth 100000 in
theorem w220_in (l : Launch) (v : Nat → Int32) (f : Nat → Nat → Int32) (g : Nat → Nat → Int64) (n1 : Nat) (h1 : 10 ≤ n1) (h2 : n1 ≤ 2147483647) : mMi l yX12_in cX12_in 3 (some .boolean) 0 0 true [.int (nI n1), .int (nI 1), .int (nI 9)] v f g (fun r_ u_ => r_ = (bI false) ∧ u_ = (v, f, g)) := by
  intro D cI cJ cZ a sz
  refine mg_body (by decide +kernel) rfl (Nat.le_of_ble_eq_true rfl) ?_
  intro p e s m args below meth c hsz C
  clear hsz
  generalize va_A (mW cI cJ cZ a v f g) sz = A at C ⊢
  refine mg_lv (lv' := [(0, .int (nI n1)), (1, .int (nI 1)), (2, .int (nI 9))]) rfl ?_
  refine mg_iload_n C (i := 0) rfl 0 rfl dX12_in_0 ?_
  refine mg_iload_n C (i := 1) rfl 1 rfl dX12_in_1 ?_
  refine mg_icmp_ltN C (by omega) (by omega) 14 (by decide) dX12_in_2 (fun c_ => absurd c_ (by omega)) (fun c_2 => ?_)
  refine mg_iload_n C (i := 0) rfl 0 rfl dX12_in_5 ?_
  refine mg_iload_n C (i := 2) rfl 2 rfl dX12_in_6 ?_
  refine mg_icmp_gtN C (by omega) (by omega) 14 (by decide) dX12_in_7 (fun c_7 => ?_) (fun c_ => absurd c_ (by omega))
  refine mg_iconst C (x := nI 0) rfl dX12_in_14 ?_
  refine mg_cast (bI false) rfl ?_
  exact mg_zret C (bI_nar _) ⟨rfl, rfl⟩ dX12_in_15
set_option maxHeartbeats 4000000 in
set_option maxRecDepth 100000 in
theorem w221_weigh (l : Launch) (v : Nat → Int32) (f : Nat → Nat → Int32) (g : Nat → Nat → Int64) (n1 : Nat) (x1 : Int32) (h1 : x1 < 0) (h2 : 10 ≤ n1) (h3 : n1 ≤ 2147483647) : mMi l yX12_weigh cX12_weigh 4 (some .int) 2 43 false [.int x1, .int (nI n1)] v f g (fun r_ u_ => r_ = (nI 0) ∧ u_ = (upd v 99 (nI 1), f, g)) := by
  intro D cI cJ cZ a sz
  refine mg_body (by decide +kernel) rfl (Nat.le_of_ble_eq_true rfl) ?_
  intro p e s m args below meth c hsz C
  clear hsz
  generalize va_A (mW cI cJ cZ a v f g) sz = A at C ⊢
  refine mg_lv (lv' := [(0, .ref (a 0)), (1, .int x1), (2, .int (nI n1))]) rfl ?_
  refine mg_aload_n C (i := 0) rfl 0 rfl dX12_weigh_0 ?_
  refine mg_aload_n C (i := 0) rfl 0 rfl dX12_weigh_1 ?_
  refine mg_iload_n C (i := 1) rfl 1 rfl dX12_weigh_2 ?_
  refine mg_doi C (w107_isField l v f g x1 h1) mCal_isField rfl ⟨by decide, by decide⟩ rfl (Nat.le_of_ble_eq_true rfl) dX12_weigh_3 ?_
  refine mg_iload_n C (i := 2) rfl 2 rfl dX12_weigh_6 ?_
  refine mg_iconst C (x := nI 1) rfl dX12_weigh_7 ?_
  refine mg_bipush C (x := nI 9) rfl dX12_weigh_8 ?_
  refine mg_dosi C (w220_in l v f g n1 (by omega) (by omega)) mCal_in rfl ⟨by decide, by decide⟩ rfl (Nat.le_of_ble_eq_true rfl) dX12_weigh_10 ?_
  refine mg_iconst C (x := nI 1) rfl dX12_weigh_13 ?_
  refine mg_doi C (w213_goes l v f g ) mCal_goes rfl ⟨by decide, by decide⟩ rfl (Nat.le_of_ble_eq_true rfl) dX12_weigh_14 ?_
  refine mg_if_neB C 22 (by decide) dX12_weigh_17 (fun c_ => absurd c_ (by decide)) (fun c_17 => ?_)
  refine mg_iconst C (x := nI 0) rfl dX12_weigh_20 ?_
  exact mg_iret C ⟨rfl, rfl⟩ dX12_weigh_21
set_option maxHeartbeats 4000000 in
set_option maxRecDepth 100000 in
theorem w222_goes (l : Launch) (v : Nat → Int32) (f : Nat → Nat → Int32) (g : Nat → Nat → Int64) : mMi l yX12_goes cX12_goes 4 (some .boolean) 0 0 false [.int (bI true), .int (bI false), .int (nI 1)] v f g (fun r_ u_ => r_ = (bI false) ∧ u_ = (upd v 99 (nI 2), f, g)) := by
  intro D cI cJ cZ a sz
  refine mg_body (by decide +kernel) rfl (Nat.le_of_ble_eq_true rfl) ?_
  intro p e s m args below meth c hsz C
  clear hsz
  generalize va_A (mW cI cJ cZ a v f g) sz = A at C ⊢
  refine mg_lv (lv' := [(0, .ref (a 0)), (1, .int (bI true)), (2, .int (bI false)), (3, .int (nI 1))]) rfl ?_
  refine mg_aload_n C (i := 0) rfl 0 rfl dX12_goes_0 ?_
  refine mg_iload_n C (i := 1) rfl 1 rfl dX12_goes_1 ?_
  refine mg_if_neB C 9 (by decide) dX12_goes_2 (fun c_2 => ?_) (fun c_ => absurd c_ (by decide))
  refine mg_iload_n C (i := 2) rfl 2 rfl dX12_goes_9 ?_
  refine mg_if_neB C 17 (by decide) dX12_goes_10 (fun c_ => absurd c_ (by decide)) (fun c_10 => ?_)
  refine mg_iconst C (x := nI 2) rfl dX12_goes_13 ?_
  refine mg_goto C 26 (by decide) dX12_goes_14 ?_
  refine mg_put C (k := 99) (by decide) rfl mL_last rfl (by decide +kernel) mT_last rfl rfl dX12_goes_26 ?_
  refine mg_aload_n C (i := 0) rfl 0 rfl dX12_goes_29 ?_
  refine mg_getI C (k := 99) (by decide) rfl mL_last rfl dX12_goes_30 ?_
  refine mg_cast (nI 2) rfl ?_
  refine mg_if_neN C (by omega) 40 (by decide) dX12_goes_33 (fun c_33 => ?_) (fun c_ => absurd c_ (by omega))
  refine mg_iconst C (x := nI 0) rfl dX12_goes_40 ?_
  refine mg_cast (bI false) rfl ?_
  exact mg_zret C (bI_nar _) ⟨rfl, rfl⟩ dX12_goes_41
set_option maxHeartbeats 4000000 in
set_option maxRecDepth 100000 in
theorem w223_weigh (l : Launch) (v : Nat → Int32) (f : Nat → Nat → Int32) (g : Nat → Nat → Int64) (n1 : Nat) (x1 : Int32) (h1 : n1 ≤ 1) (h2 : x1 < 0) : mMi l yX12_weigh cX12_weigh 4 (some .int) 2 43 false [.int (nI n1), .int x1] v f g (fun r_ u_ => r_ = (nI 0) ∧ u_ = (upd v 99 (nI 2), f, g)) := by
  intro D cI cJ cZ a sz
  refine mg_body (by decide +kernel) rfl (Nat.le_of_ble_eq_true rfl) ?_
  intro p e s m args below meth c hsz C
  clear hsz
  generalize va_A (mW cI cJ cZ a v f g) sz = A at C ⊢
  refine mg_lv (lv' := [(0, .ref (a 0)), (1, .int (nI n1)), (2, .int x1)]) rfl ?_
  refine mg_aload_n C (i := 0) rfl 0 rfl dX12_weigh_0 ?_
  refine mg_aload_n C (i := 0) rfl 0 rfl dX12_weigh_1 ?_
  refine mg_iload_n C (i := 1) rfl 1 rfl dX12_weigh_2 ?_
  refine mg_doi C (w113_isField l v f g n1 (by omega)) mCal_isField rfl ⟨by decide, by decide⟩ rfl (Nat.le_of_ble_eq_true rfl) dX12_weigh_3 ?_
  refine mg_iload_n C (i := 2) rfl 2 rfl dX12_weigh_6 ?_
  refine mg_iconst C (x := nI 1) rfl dX12_weigh_7 ?_
  refine mg_bipush C (x := nI 9) rfl dX12_weigh_8 ?_
  refine mg_dosi C (w212_in l v f g x1 h2) mCal_in rfl ⟨by decide, by decide⟩ rfl (Nat.le_of_ble_eq_true rfl) dX12_weigh_10 ?_
  refine mg_iconst C (x := nI 1) rfl dX12_weigh_13 ?_
  refine mg_doi C (w222_goes l v f g ) mCal_goes rfl ⟨by decide, by decide⟩ rfl (Nat.le_of_ble_eq_true rfl) dX12_weigh_14 ?_
  refine mg_if_neB C 22 (by decide) dX12_weigh_17 (fun c_ => absurd c_ (by decide)) (fun c_17 => ?_)
  refine mg_iconst C (x := nI 0) rfl dX12_weigh_20 ?_
  exact mg_iret C ⟨rfl, rfl⟩ dX12_weigh_21
set_option maxHeartbeats 4000000 in
set_option maxRecDepth 100000 in
theorem w224_weigh (l : Launch) (v : Nat → Int32) (f : Nat → Nat → Int32) (g : Nat → Nat → Int64) (n1 : Nat) (h1 : n1 ≤ 1) : mMi l yX12_weigh cX12_weigh 4 (some .int) 2 43 false [.int (nI n1), .int (nI 0)] v f g (fun r_ u_ => r_ = (nI 0) ∧ u_ = (upd v 99 (nI 2), f, g)) := by
  intro D cI cJ cZ a sz
  refine mg_body (by decide +kernel) rfl (Nat.le_of_ble_eq_true rfl) ?_
  intro p e s m args below meth c hsz C
  clear hsz
  generalize va_A (mW cI cJ cZ a v f g) sz = A at C ⊢
  refine mg_lv (lv' := [(0, .ref (a 0)), (1, .int (nI n1)), (2, .int (nI 0))]) rfl ?_
  refine mg_aload_n C (i := 0) rfl 0 rfl dX12_weigh_0 ?_
  refine mg_aload_n C (i := 0) rfl 0 rfl dX12_weigh_1 ?_
  refine mg_iload_n C (i := 1) rfl 1 rfl dX12_weigh_2 ?_
  refine mg_doi C (w113_isField l v f g n1 (by omega)) mCal_isField rfl ⟨by decide, by decide⟩ rfl (Nat.le_of_ble_eq_true rfl) dX12_weigh_3 ?_
  refine mg_iload_n C (i := 2) rfl 2 rfl dX12_weigh_6 ?_
  refine mg_iconst C (x := nI 1) rfl dX12_weigh_7 ?_
  refine mg_bipush C (x := nI 9) rfl dX12_weigh_8 ?_
  refine mg_dosi C (w215_in l v f g ) mCal_in rfl ⟨by decide, by decide⟩ rfl (Nat.le_of_ble_eq_true rfl) dX12_weigh_10 ?_
  refine mg_iconst C (x := nI 1) rfl dX12_weigh_13 ?_
  refine mg_doi C (w222_goes l v f g ) mCal_goes rfl ⟨by decide, by decide⟩ rfl (Nat.le_of_ble_eq_true rfl) dX12_weigh_14 ?_
  refine mg_if_neB C 22 (by decide) dX12_weigh_17 (fun c_ => absurd c_ (by decide)) (fun c_17 => ?_)
  refine mg_iconst C (x := nI 0) rfl dX12_weigh_20 ?_
  exact mg_iret C ⟨rfl, rfl⟩ dX12_weigh_21
set_option maxHeartbeats 4000000 in
set_option maxRecDepth 100000 in
theorem w225_isField (l : Launch) (v : Nat → Int32) (f : Nat → Nat → Int32) (g : Nat → Nat → Int64) : mMi l yX12_isField cX12_isField 2 (some .boolean) 1 22 false [.int (nI 0)] v f g (fun r_ u_ => r_ = (bI true) ∧ u_ = (v, f, g)) := by
  intro D cI cJ cZ a sz
  refine mg_body (by decide +kernel) rfl (Nat.le_of_ble_eq_true rfl) ?_
  intro p e s m args below meth c hsz C
  clear hsz
  generalize va_A (mW cI cJ cZ a v f g) sz = A at C ⊢
  refine mg_lv (lv' := [(0, .ref (a 0)), (1, .int (nI 0))]) rfl ?_
  refine mg_iload_n C (i := 1) rfl 1 rfl dX12_isField_0 ?_
  refine mg_iconst C (x := nI 0) rfl dX12_isField_1 ?_
  refine mg_iconst C (x := nI 1) rfl dX12_isField_2 ?_
  refine mg_dosi C (w18_in l v f g ) mCal_in rfl ⟨by decide, by decide⟩ rfl (Nat.le_of_ble_eq_true rfl) dX12_isField_3 ?_
  exact mg_zret C (bI_nar _) ⟨rfl, rfl⟩ dX12_isField_6
set_option maxHeartbeats 4000000 in
set_option maxRecDepth 100000 in
theorem w226_goes (l : Launch) (v : Nat → Int32) (f : Nat → Nat → Int32) (g : Nat → Nat → Int64) : mMi l yX12_goes cX12_goes 4 (some .boolean) 0 0 false [.int (bI true), .int (bI true), .int (nI 1)] v f g (fun r_ u_ => r_ = (bI true) ∧ u_ = (upd v 99 (nI 0), f, g)) := by
  intro D cI cJ cZ a sz
  refine mg_body (by decide +kernel) rfl (Nat.le_of_ble_eq_true rfl) ?_
  intro p e s m args below meth c hsz C
  clear hsz
  generalize va_A (mW cI cJ cZ a v f g) sz = A at C ⊢
  refine mg_lv (lv' := [(0, .ref (a 0)), (1, .int (bI true)), (2, .int (bI true)), (3, .int (nI 1))]) rfl ?_
  refine mg_aload_n C (i := 0) rfl 0 rfl dX12_goes_0 ?_
  refine mg_iload_n C (i := 1) rfl 1 rfl dX12_goes_1 ?_
  refine mg_if_neB C 9 (by decide) dX12_goes_2 (fun c_2 => ?_) (fun c_ => absurd c_ (by decide))
  refine mg_iload_n C (i := 2) rfl 2 rfl dX12_goes_9 ?_
  refine mg_if_neB C 17 (by decide) dX12_goes_10 (fun c_10 => ?_) (fun c_ => absurd c_ (by decide))
  refine mg_iload_n C (i := 3) rfl 3 rfl dX12_goes_17 ?_
  refine mg_if_eqN C (by omega) 25 (by decide) dX12_goes_18 (fun c_ => absurd c_ (by omega)) (fun c_18 => ?_)
  refine mg_iconst C (x := nI 0) rfl dX12_goes_21 ?_
  refine mg_goto C 26 (by decide) dX12_goes_22 ?_
  refine mg_put C (k := 99) (by decide) rfl mL_last rfl (by decide +kernel) mT_last rfl rfl dX12_goes_26 ?_
  refine mg_aload_n C (i := 0) rfl 0 rfl dX12_goes_29 ?_
  refine mg_getI C (k := 99) (by decide) rfl mL_last rfl dX12_goes_30 ?_
  refine mg_cast (nI 0) rfl ?_
  refine mg_if_neN C (by omega) 40 (by decide) dX12_goes_33 (fun c_ => absurd c_ (by omega)) (fun c_33 => ?_)
  refine mg_iconst C (x := nI 1) rfl dX12_goes_36 ?_
  refine mg_goto C 41 (by decide) dX12_goes_37 ?_
  refine mg_cast (bI true) rfl ?_
  exact mg_zret C (bI_nar _) ⟨rfl, rfl⟩ dX12_goes_41
set_option maxHeartbeats 4000000 in
set_option maxRecDepth 100000 in
theorem w227_weigh (l : Launch) (v : Nat → Int32) (f : Nat → Nat → Int32) (g : Nat → Nat → Int64) (n1 : Nat) (h1 : 1 ≤ n1) (h2 : n1 ≤ 9) (h3 : f 49 0 = (nI 3)) : mMi l yX12_weigh cX12_weigh 4 (some .int) 2 43 false [.int (nI 0), .int (nI n1)] v f g (fun r_ u_ => r_ = (nI 3) ∧ u_ = (upd v 99 (nI 0), mU f 49 0 (nI n1), g)) := by
  intro D cI cJ cZ a sz
  refine mg_body (by decide +kernel) rfl (Nat.le_of_ble_eq_true rfl) ?_
  intro p e s m args below meth c hsz C
  clear hsz
  generalize va_A (mW cI cJ cZ a v f g) sz = A at C ⊢
  refine mg_lv (lv' := [(0, .ref (a 0)), (1, .int (nI 0)), (2, .int (nI n1))]) rfl ?_
  refine mg_aload_n C (i := 0) rfl 0 rfl dX12_weigh_0 ?_
  refine mg_aload_n C (i := 0) rfl 0 rfl dX12_weigh_1 ?_
  refine mg_iload_n C (i := 1) rfl 1 rfl dX12_weigh_2 ?_
  refine mg_doi C (w225_isField l v f g ) mCal_isField rfl ⟨by decide, by decide⟩ rfl (Nat.le_of_ble_eq_true rfl) dX12_weigh_3 ?_
  refine mg_iload_n C (i := 2) rfl 2 rfl dX12_weigh_6 ?_
  refine mg_iconst C (x := nI 1) rfl dX12_weigh_7 ?_
  refine mg_bipush C (x := nI 9) rfl dX12_weigh_8 ?_
  refine mg_dosi C (w217_in l v f g n1 (by omega) (by omega)) mCal_in rfl ⟨by decide, by decide⟩ rfl (Nat.le_of_ble_eq_true rfl) dX12_weigh_10 ?_
  refine mg_iconst C (x := nI 1) rfl dX12_weigh_13 ?_
  refine mg_doi C (w226_goes l v f g ) mCal_goes rfl ⟨by decide, by decide⟩ rfl (Nat.le_of_ble_eq_true rfl) dX12_weigh_14 ?_
  refine mg_if_neB C 22 (by decide) dX12_weigh_17 (fun c_17 => ?_) (fun c_ => absurd c_ (by decide))
  refine mg_aload_n C (i := 0) rfl 0 rfl dX12_weigh_22 ?_
  refine mg_arr C 49 (by decide) (by decide) rfl mL_weights rfl dX12_weigh_23 ?_
  refine mg_iload_n C (i := 1) rfl 1 rfl dX12_weigh_26 ?_
  refine mg_iaload C (n := 2) 49 0 (by decide) (by decide) rfl rfl (by decide) (by decide) dX12_weigh_27 ?_
  refine mg_cast (nI 3) h3 ?_
  refine mg_istore_n C (i := 3) (lv' := [(3, .int (nI 3)), (0, .ref (a 0)), (1, .int (nI 0)), (2, .int (nI n1))]) rfl (Nat.le_of_ble_eq_true rfl) rfl dX12_weigh_28 ?_
  refine mg_aload_n C (i := 0) rfl 1 rfl dX12_weigh_29 ?_
  refine mg_arr C 49 (by decide) (by decide) rfl mL_weights rfl dX12_weigh_30 ?_
  refine mg_iload_n C (i := 1) rfl 2 rfl dX12_weigh_33 ?_
  refine mg_iload_n C (i := 2) rfl 3 rfl dX12_weigh_34 ?_
  refine mg_iastore C (n := 2) 49 0 (by decide) (by decide) rfl rfl (by omega) (by decide) dX12_weigh_35 ?_
  refine mg_iload_n C (i := 3) rfl 0 rfl dX12_weigh_36 ?_
  exact mg_iret C ⟨rfl, rfl⟩ dX12_weigh_37
set_option maxHeartbeats 4000000 in
set_option maxRecDepth 100000 in
theorem w228_isField (l : Launch) (v : Nat → Int32) (f : Nat → Nat → Int32) (g : Nat → Nat → Int64) : mMi l yX12_isField cX12_isField 2 (some .boolean) 1 22 false [.int (nI 1)] v f g (fun r_ u_ => r_ = (bI true) ∧ u_ = (v, f, g)) := by
  intro D cI cJ cZ a sz
  refine mg_body (by decide +kernel) rfl (Nat.le_of_ble_eq_true rfl) ?_
  intro p e s m args below meth c hsz C
  clear hsz
  generalize va_A (mW cI cJ cZ a v f g) sz = A at C ⊢
  refine mg_lv (lv' := [(0, .ref (a 0)), (1, .int (nI 1))]) rfl ?_
  refine mg_iload_n C (i := 1) rfl 1 rfl dX12_isField_0 ?_
  refine mg_iconst C (x := nI 0) rfl dX12_isField_1 ?_
  refine mg_iconst C (x := nI 1) rfl dX12_isField_2 ?_
  refine mg_dosi C (w20_in l v f g ) mCal_in rfl ⟨by decide, by decide⟩ rfl (Nat.le_of_ble_eq_true rfl) dX12_isField_3 ?_
  exact mg_zret C (bI_nar _) ⟨rfl, rfl⟩ dX12_isField_6
set_option maxHeartbeats 4000000 in
set_option maxRecDepth 100000 in
theorem w229_weigh (l : Launch) (v : Nat → Int32) (f : Nat → Nat → Int32) (g : Nat → Nat → Int64) (n1 : Nat) (h1 : 1 ≤ n1) (h2 : n1 ≤ 9) (h3 : f 49 1 = (nI 1)) : mMi l yX12_weigh cX12_weigh 4 (some .int) 2 43 false [.int (nI 1), .int (nI n1)] v f g (fun r_ u_ => r_ = (nI 1) ∧ u_ = (upd v 99 (nI 0), mU f 49 1 (nI n1), g)) := by
  intro D cI cJ cZ a sz
  refine mg_body (by decide +kernel) rfl (Nat.le_of_ble_eq_true rfl) ?_
  intro p e s m args below meth c hsz C
  clear hsz
  generalize va_A (mW cI cJ cZ a v f g) sz = A at C ⊢
  refine mg_lv (lv' := [(0, .ref (a 0)), (1, .int (nI 1)), (2, .int (nI n1))]) rfl ?_
  refine mg_aload_n C (i := 0) rfl 0 rfl dX12_weigh_0 ?_
  refine mg_aload_n C (i := 0) rfl 0 rfl dX12_weigh_1 ?_
  refine mg_iload_n C (i := 1) rfl 1 rfl dX12_weigh_2 ?_
  refine mg_doi C (w228_isField l v f g ) mCal_isField rfl ⟨by decide, by decide⟩ rfl (Nat.le_of_ble_eq_true rfl) dX12_weigh_3 ?_
  refine mg_iload_n C (i := 2) rfl 2 rfl dX12_weigh_6 ?_
  refine mg_iconst C (x := nI 1) rfl dX12_weigh_7 ?_
  refine mg_bipush C (x := nI 9) rfl dX12_weigh_8 ?_
  refine mg_dosi C (w217_in l v f g n1 (by omega) (by omega)) mCal_in rfl ⟨by decide, by decide⟩ rfl (Nat.le_of_ble_eq_true rfl) dX12_weigh_10 ?_
  refine mg_iconst C (x := nI 1) rfl dX12_weigh_13 ?_
  refine mg_doi C (w226_goes l v f g ) mCal_goes rfl ⟨by decide, by decide⟩ rfl (Nat.le_of_ble_eq_true rfl) dX12_weigh_14 ?_
  refine mg_if_neB C 22 (by decide) dX12_weigh_17 (fun c_17 => ?_) (fun c_ => absurd c_ (by decide))
  refine mg_aload_n C (i := 0) rfl 0 rfl dX12_weigh_22 ?_
  refine mg_arr C 49 (by decide) (by decide) rfl mL_weights rfl dX12_weigh_23 ?_
  refine mg_iload_n C (i := 1) rfl 1 rfl dX12_weigh_26 ?_
  refine mg_iaload C (n := 2) 49 1 (by decide) (by decide) rfl rfl (by decide) (by decide) dX12_weigh_27 ?_
  refine mg_cast (nI 1) h3 ?_
  refine mg_istore_n C (i := 3) (lv' := [(3, .int (nI 1)), (0, .ref (a 0)), (1, .int (nI 1)), (2, .int (nI n1))]) rfl (Nat.le_of_ble_eq_true rfl) rfl dX12_weigh_28 ?_
  refine mg_aload_n C (i := 0) rfl 1 rfl dX12_weigh_29 ?_
  refine mg_arr C 49 (by decide) (by decide) rfl mL_weights rfl dX12_weigh_30 ?_
  refine mg_iload_n C (i := 1) rfl 2 rfl dX12_weigh_33 ?_
  refine mg_iload_n C (i := 2) rfl 3 rfl dX12_weigh_34 ?_
  refine mg_iastore C (n := 2) 49 1 (by decide) (by decide) rfl rfl (by omega) (by decide) dX12_weigh_35 ?_
  refine mg_iload_n C (i := 3) rfl 0 rfl dX12_weigh_36 ?_
  exact mg_iret C ⟨rfl, rfl⟩ dX12_weigh_37
set_option maxHeartbeats 4000000 in
set_option maxRecDepth 100000 in
theorem w230_weigh (l : Launch) (v : Nat → Int32) (f : Nat → Nat → Int32) (g : Nat → Nat → Int64) (n1 n2 : Nat) (h1 : n1 ≤ 1) (h2 : 10 ≤ n2) (h3 : n2 ≤ 2147483647) : mMi l yX12_weigh cX12_weigh 4 (some .int) 2 43 false [.int (nI n1), .int (nI n2)] v f g (fun r_ u_ => r_ = (nI 0) ∧ u_ = (upd v 99 (nI 2), f, g)) := by
  intro D cI cJ cZ a sz
  refine mg_body (by decide +kernel) rfl (Nat.le_of_ble_eq_true rfl) ?_
  intro p e s m args below meth c hsz C
  clear hsz
  generalize va_A (mW cI cJ cZ a v f g) sz = A at C ⊢
  refine mg_lv (lv' := [(0, .ref (a 0)), (1, .int (nI n1)), (2, .int (nI n2))]) rfl ?_
  refine mg_aload_n C (i := 0) rfl 0 rfl dX12_weigh_0 ?_
  refine mg_aload_n C (i := 0) rfl 0 rfl dX12_weigh_1 ?_
  refine mg_iload_n C (i := 1) rfl 1 rfl dX12_weigh_2 ?_
  refine mg_doi C (w113_isField l v f g n1 (by omega)) mCal_isField rfl ⟨by decide, by decide⟩ rfl (Nat.le_of_ble_eq_true rfl) dX12_weigh_3 ?_
  refine mg_iload_n C (i := 2) rfl 2 rfl dX12_weigh_6 ?_
  refine mg_iconst C (x := nI 1) rfl dX12_weigh_7 ?_
  refine mg_bipush C (x := nI 9) rfl dX12_weigh_8 ?_
  refine mg_dosi C (w220_in l v f g n2 (by omega) (by omega)) mCal_in rfl ⟨by decide, by decide⟩ rfl (Nat.le_of_ble_eq_true rfl) dX12_weigh_10 ?_
  refine mg_iconst C (x := nI 1) rfl dX12_weigh_13 ?_
  refine mg_doi C (w222_goes l v f g ) mCal_goes rfl ⟨by decide, by decide⟩ rfl (Nat.le_of_ble_eq_true rfl) dX12_weigh_14 ?_
  refine mg_if_neB C 22 (by decide) dX12_weigh_17 (fun c_ => absurd c_ (by decide)) (fun c_17 => ?_)
  refine mg_iconst C (x := nI 0) rfl dX12_weigh_20 ?_
  exact mg_iret C ⟨rfl, rfl⟩ dX12_weigh_21
set_option maxHeartbeats 4000000 in
set_option maxRecDepth 100000 in
theorem w231_weigh (l : Launch) (v : Nat → Int32) (f : Nat → Nat → Int32) (g : Nat → Nat → Int64) (n1 : Nat) (x1 : Int32) (h1 : 2 ≤ n1) (h2 : n1 ≤ 2147483647) (h3 : x1 < 0) : mMi l yX12_weigh cX12_weigh 4 (some .int) 2 43 false [.int (nI n1), .int x1] v f g (fun r_ u_ => r_ = (nI 0) ∧ u_ = (upd v 99 (nI 1), f, g)) := by
  intro D cI cJ cZ a sz
  refine mg_body (by decide +kernel) rfl (Nat.le_of_ble_eq_true rfl) ?_
  intro p e s m args below meth c hsz C
  clear hsz
  generalize va_A (mW cI cJ cZ a v f g) sz = A at C ⊢
  refine mg_lv (lv' := [(0, .ref (a 0)), (1, .int (nI n1)), (2, .int x1)]) rfl ?_
  refine mg_aload_n C (i := 0) rfl 0 rfl dX12_weigh_0 ?_
  refine mg_aload_n C (i := 0) rfl 0 rfl dX12_weigh_1 ?_
  refine mg_iload_n C (i := 1) rfl 1 rfl dX12_weigh_2 ?_
  refine mg_doi C (w117_isField l v f g n1 (by omega) (by omega)) mCal_isField rfl ⟨by decide, by decide⟩ rfl (Nat.le_of_ble_eq_true rfl) dX12_weigh_3 ?_
  refine mg_iload_n C (i := 2) rfl 2 rfl dX12_weigh_6 ?_
  refine mg_iconst C (x := nI 1) rfl dX12_weigh_7 ?_
  refine mg_bipush C (x := nI 9) rfl dX12_weigh_8 ?_
  refine mg_dosi C (w212_in l v f g x1 h3) mCal_in rfl ⟨by decide, by decide⟩ rfl (Nat.le_of_ble_eq_true rfl) dX12_weigh_10 ?_
  refine mg_iconst C (x := nI 1) rfl dX12_weigh_13 ?_
  refine mg_doi C (w213_goes l v f g ) mCal_goes rfl ⟨by decide, by decide⟩ rfl (Nat.le_of_ble_eq_true rfl) dX12_weigh_14 ?_
  refine mg_if_neB C 22 (by decide) dX12_weigh_17 (fun c_ => absurd c_ (by decide)) (fun c_17 => ?_)
  refine mg_iconst C (x := nI 0) rfl dX12_weigh_20 ?_
  exact mg_iret C ⟨rfl, rfl⟩ dX12_weigh_21
set_option maxHeartbeats 4000000 in
set_option maxRecDepth 100000 in
theorem w232_weigh (l : Launch) (v : Nat → Int32) (f : Nat → Nat → Int32) (g : Nat → Nat → Int64) (n1 : Nat) (h1 : 2 ≤ n1) (h2 : n1 ≤ 2147483647) : mMi l yX12_weigh cX12_weigh 4 (some .int) 2 43 false [.int (nI n1), .int (nI 0)] v f g (fun r_ u_ => r_ = (nI 0) ∧ u_ = (upd v 99 (nI 1), f, g)) := by
  intro D cI cJ cZ a sz
  refine mg_body (by decide +kernel) rfl (Nat.le_of_ble_eq_true rfl) ?_
  intro p e s m args below meth c hsz C
  clear hsz
  generalize va_A (mW cI cJ cZ a v f g) sz = A at C ⊢
  refine mg_lv (lv' := [(0, .ref (a 0)), (1, .int (nI n1)), (2, .int (nI 0))]) rfl ?_
  refine mg_aload_n C (i := 0) rfl 0 rfl dX12_weigh_0 ?_
  refine mg_aload_n C (i := 0) rfl 0 rfl dX12_weigh_1 ?_
  refine mg_iload_n C (i := 1) rfl 1 rfl dX12_weigh_2 ?_
  refine mg_doi C (w117_isField l v f g n1 (by omega) (by omega)) mCal_isField rfl ⟨by decide, by decide⟩ rfl (Nat.le_of_ble_eq_true rfl) dX12_weigh_3 ?_
  refine mg_iload_n C (i := 2) rfl 2 rfl dX12_weigh_6 ?_
  refine mg_iconst C (x := nI 1) rfl dX12_weigh_7 ?_
  refine mg_bipush C (x := nI 9) rfl dX12_weigh_8 ?_
  refine mg_dosi C (w215_in l v f g ) mCal_in rfl ⟨by decide, by decide⟩ rfl (Nat.le_of_ble_eq_true rfl) dX12_weigh_10 ?_
  refine mg_iconst C (x := nI 1) rfl dX12_weigh_13 ?_
  refine mg_doi C (w213_goes l v f g ) mCal_goes rfl ⟨by decide, by decide⟩ rfl (Nat.le_of_ble_eq_true rfl) dX12_weigh_14 ?_
  refine mg_if_neB C 22 (by decide) dX12_weigh_17 (fun c_ => absurd c_ (by decide)) (fun c_17 => ?_)
  refine mg_iconst C (x := nI 0) rfl dX12_weigh_20 ?_
  exact mg_iret C ⟨rfl, rfl⟩ dX12_weigh_21
set_option maxHeartbeats 4000000 in
set_option maxRecDepth 100000 in
theorem w233_weigh (l : Launch) (v : Nat → Int32) (f : Nat → Nat → Int32) (g : Nat → Nat → Int64) (n1 n2 : Nat) (h1 : 2 ≤ n1) (h2 : n1 ≤ 2147483647) (h3 : 1 ≤ n2) (h4 : n2 ≤ 9) : mMi l yX12_weigh cX12_weigh 4 (some .int) 2 43 false [.int (nI n1), .int (nI n2)] v f g (fun r_ u_ => r_ = (nI 0) ∧ u_ = (upd v 99 (nI 1), f, g)) := by
  intro D cI cJ cZ a sz
  refine mg_body (by decide +kernel) rfl (Nat.le_of_ble_eq_true rfl) ?_
  intro p e s m args below meth c hsz C
  clear hsz
  generalize va_A (mW cI cJ cZ a v f g) sz = A at C ⊢
  refine mg_lv (lv' := [(0, .ref (a 0)), (1, .int (nI n1)), (2, .int (nI n2))]) rfl ?_
  refine mg_aload_n C (i := 0) rfl 0 rfl dX12_weigh_0 ?_
  refine mg_aload_n C (i := 0) rfl 0 rfl dX12_weigh_1 ?_
  refine mg_iload_n C (i := 1) rfl 1 rfl dX12_weigh_2 ?_
  refine mg_doi C (w117_isField l v f g n1 (by omega) (by omega)) mCal_isField rfl ⟨by decide, by decide⟩ rfl (Nat.le_of_ble_eq_true rfl) dX12_weigh_3 ?_
  refine mg_iload_n C (i := 2) rfl 2 rfl dX12_weigh_6 ?_
  refine mg_iconst C (x := nI 1) rfl dX12_weigh_7 ?_
  refine mg_bipush C (x := nI 9) rfl dX12_weigh_8 ?_
  refine mg_dosi C (w217_in l v f g n2 (by omega) (by omega)) mCal_in rfl ⟨by decide, by decide⟩ rfl (Nat.le_of_ble_eq_true rfl) dX12_weigh_10 ?_
  refine mg_iconst C (x := nI 1) rfl dX12_weigh_13 ?_
  refine mg_doi C (w218_goes l v f g ) mCal_goes rfl ⟨by decide, by decide⟩ rfl (Nat.le_of_ble_eq_true rfl) dX12_weigh_14 ?_
  refine mg_if_neB C 22 (by decide) dX12_weigh_17 (fun c_ => absurd c_ (by decide)) (fun c_17 => ?_)
  refine mg_iconst C (x := nI 0) rfl dX12_weigh_20 ?_
  exact mg_iret C ⟨rfl, rfl⟩ dX12_weigh_21
set_option maxHeartbeats 4000000 in
set_option maxRecDepth 100000 in
theorem w234_weigh (l : Launch) (v : Nat → Int32) (f : Nat → Nat → Int32) (g : Nat → Nat → Int64) (n1 n2 : Nat) (h1 : 2 ≤ n1) (h2 : n1 ≤ 2147483647) (h3 : 10 ≤ n2) (h4 : n2 ≤ 2147483647) : mMi l yX12_weigh cX12_weigh 4 (some .int) 2 43 false [.int (nI n1), .int (nI n2)] v f g (fun r_ u_ => r_ = (nI 0) ∧ u_ = (upd v 99 (nI 1), f, g)) := by
  intro D cI cJ cZ a sz
  refine mg_body (by decide +kernel) rfl (Nat.le_of_ble_eq_true rfl) ?_
  intro p e s m args below meth c hsz C
  clear hsz
  generalize va_A (mW cI cJ cZ a v f g) sz = A at C ⊢
  refine mg_lv (lv' := [(0, .ref (a 0)), (1, .int (nI n1)), (2, .int (nI n2))]) rfl ?_
  refine mg_aload_n C (i := 0) rfl 0 rfl dX12_weigh_0 ?_
  refine mg_aload_n C (i := 0) rfl 0 rfl dX12_weigh_1 ?_
  refine mg_iload_n C (i := 1) rfl 1 rfl dX12_weigh_2 ?_
  refine mg_doi C (w117_isField l v f g n1 (by omega) (by omega)) mCal_isField rfl ⟨by decide, by decide⟩ rfl (Nat.le_of_ble_eq_true rfl) dX12_weigh_3 ?_
  refine mg_iload_n C (i := 2) rfl 2 rfl dX12_weigh_6 ?_
  refine mg_iconst C (x := nI 1) rfl dX12_weigh_7 ?_
  refine mg_bipush C (x := nI 9) rfl dX12_weigh_8 ?_
  refine mg_dosi C (w220_in l v f g n2 (by omega) (by omega)) mCal_in rfl ⟨by decide, by decide⟩ rfl (Nat.le_of_ble_eq_true rfl) dX12_weigh_10 ?_
  refine mg_iconst C (x := nI 1) rfl dX12_weigh_13 ?_
  refine mg_doi C (w213_goes l v f g ) mCal_goes rfl ⟨by decide, by decide⟩ rfl (Nat.le_of_ble_eq_true rfl) dX12_weigh_14 ?_
  refine mg_if_neB C 22 (by decide) dX12_weigh_17 (fun c_ => absurd c_ (by decide)) (fun c_17 => ?_)
  refine mg_iconst C (x := nI 0) rfl dX12_weigh_20 ?_
  exact mg_iret C ⟨rfl, rfl⟩ dX12_weigh_21
set_option maxHeartbeats 4000000 in
set_option maxRecDepth 100000 in
theorem w235_goes (l : Launch) (v : Nat → Int32) (f : Nat → Nat → Int32) (g : Nat → Nat → Int64) : mMi l yX12_goes cX12_goes 4 (some .boolean) 0 0 false [.int (nI 0), .int (bI false), .int (nI 1)] v f g (fun r_ u_ => r_ = (bI false) ∧ u_ = (upd v 99 (nI 1), f, g)) := by
  intro D cI cJ cZ a sz
  refine mg_body (by decide +kernel) rfl (Nat.le_of_ble_eq_true rfl) ?_
  intro p e s m args below meth c hsz C
  clear hsz
  generalize va_A (mW cI cJ cZ a v f g) sz = A at C ⊢
  refine mg_lv (lv' := [(0, .ref (a 0)), (1, .int (nI 0)), (2, .int (bI false)), (3, .int (nI 1))]) rfl ?_
  refine mg_aload_n C (i := 0) rfl 0 rfl dX12_goes_0 ?_
  refine mg_iload_n C (i := 1) rfl 1 rfl dX12_goes_1 ?_
  refine mg_if_neN C (by omega) 9 (by decide) dX12_goes_2 (fun c_ => absurd c_ (by omega)) (fun c_2 => ?_)
  refine mg_iconst C (x := nI 1) rfl dX12_goes_5 ?_
  refine mg_goto C 26 (by decide) dX12_goes_6 ?_
  refine mg_put C (k := 99) (by decide) rfl mL_last rfl (by decide +kernel) mT_last rfl rfl dX12_goes_26 ?_
  refine mg_aload_n C (i := 0) rfl 0 rfl dX12_goes_29 ?_
  refine mg_getI C (k := 99) (by decide) rfl mL_last rfl dX12_goes_30 ?_
  refine mg_cast (nI 1) rfl ?_
  refine mg_if_neN C (by omega) 40 (by decide) dX12_goes_33 (fun c_33 => ?_) (fun c_ => absurd c_ (by omega))
  refine mg_iconst C (x := nI 0) rfl dX12_goes_40 ?_
  refine mg_cast (bI false) rfl ?_
  exact mg_zret C (bI_nar _) ⟨rfl, rfl⟩ dX12_goes_41
set_option maxHeartbeats 4000000 in
set_option maxRecDepth 100000 in
theorem w236_find (l : Launch) (v : Nat → Int32) (f : Nat → Nat → Int32) (g : Nat → Nat → Int64) (x1 x2 x3 : Int32) (h1 : x1 < 0) (h2 : x3 < 0) : mMi l yX12_find cX12_find 12 (some .int) 1 23 false [.int x1, .int x2, .int x3] v f g (fun r_ u_ => r_ = (nI 0) ∧ u_ = (upd v 99 (nI 1), f, g)) := by
  intro D cI cJ cZ a sz
  refine mg_body (by decide +kernel) rfl (Nat.le_of_ble_eq_true rfl) ?_
  intro p e s m args below meth c hsz C
  clear hsz
  generalize va_A (mW cI cJ cZ a v f g) sz = A at C ⊢
  refine mg_lv (lv' := [(0, .ref (a 0)), (1, .int x1), (2, .int x2), (3, .int x3)]) rfl ?_
  refine mg_aload_n C (i := 0) rfl 0 rfl dX12_find_0 ?_
  refine mg_iload_n C (i := 1) rfl 1 rfl dX12_find_1 ?_
  refine mg_doi C (w101_slotOf l v f g x1 h1) mCal_slotOf rfl ⟨by decide, by decide⟩ rfl (Nat.le_of_ble_eq_true rfl) dX12_find_2 ?_
  refine mg_istore C (lv' := [(4, .int ((-1))), (0, .ref (a 0)), (1, .int x1), (2, .int x2), (3, .int x3)]) (Nat.le_of_ble_eq_true rfl) rfl dX12_find_5 ?_
  refine mg_aload_n C (i := 0) rfl 1 rfl dX12_find_7 ?_
  refine mg_iload C 0 rfl dX12_find_8 ?_
  refine mg_iconst C (x := (-1)) rfl dX12_find_10 ?_
  refine mg_icmp_eq C 32 (by decide) dX12_find_11 (fun c_11 => ?_) (fun c_ => absurd c_ (by decide))
  refine mg_iconst C (x := nI 0) rfl dX12_find_32 ?_
  refine mg_iload_n C (i := 3) rfl 4 rfl dX12_find_33 ?_
  refine mg_iconst C (x := nI 1) rfl dX12_find_34 ?_
  refine mg_bipush C (x := nI 20) rfl dX12_find_35 ?_
  refine mg_dosi C (w138_in l v f g x3 h2) mCal_in rfl ⟨by decide, by decide⟩ rfl (Nat.le_of_ble_eq_true rfl) dX12_find_37 ?_
  refine mg_iconst C (x := nI 1) rfl dX12_find_40 ?_
  refine mg_doi C (w235_goes l v f g ) mCal_goes rfl ⟨by decide, by decide⟩ rfl (Nat.le_of_ble_eq_true rfl) dX12_find_41 ?_
  refine mg_if_neB C 49 (by decide) dX12_find_44 (fun c_ => absurd c_ (by decide)) (fun c_44 => ?_)
  refine mg_iconst C (x := nI 0) rfl dX12_find_47 ?_
  exact mg_iret C ⟨rfl, rfl⟩ dX12_find_48
set_option maxHeartbeats 4000000 in
set_option maxRecDepth 100000 in
theorem w237_find (l : Launch) (v : Nat → Int32) (f : Nat → Nat → Int32) (g : Nat → Nat → Int64) (x1 x2 : Int32) (h1 : x1 < 0) : mMi l yX12_find cX12_find 12 (some .int) 1 23 false [.int x1, .int x2, .int (nI 0)] v f g (fun r_ u_ => r_ = (nI 0) ∧ u_ = (upd v 99 (nI 1), f, g)) := by
  intro D cI cJ cZ a sz
  refine mg_body (by decide +kernel) rfl (Nat.le_of_ble_eq_true rfl) ?_
  intro p e s m args below meth c hsz C
  clear hsz
  generalize va_A (mW cI cJ cZ a v f g) sz = A at C ⊢
  refine mg_lv (lv' := [(0, .ref (a 0)), (1, .int x1), (2, .int x2), (3, .int (nI 0))]) rfl ?_
  refine mg_aload_n C (i := 0) rfl 0 rfl dX12_find_0 ?_
  refine mg_iload_n C (i := 1) rfl 1 rfl dX12_find_1 ?_
  refine mg_doi C (w101_slotOf l v f g x1 h1) mCal_slotOf rfl ⟨by decide, by decide⟩ rfl (Nat.le_of_ble_eq_true rfl) dX12_find_2 ?_
  refine mg_istore C (lv' := [(4, .int ((-1))), (0, .ref (a 0)), (1, .int x1), (2, .int x2), (3, .int (nI 0))]) (Nat.le_of_ble_eq_true rfl) rfl dX12_find_5 ?_
  refine mg_aload_n C (i := 0) rfl 1 rfl dX12_find_7 ?_
  refine mg_iload C 0 rfl dX12_find_8 ?_
  refine mg_iconst C (x := (-1)) rfl dX12_find_10 ?_
  refine mg_icmp_eq C 32 (by decide) dX12_find_11 (fun c_11 => ?_) (fun c_ => absurd c_ (by decide))
  refine mg_iconst C (x := nI 0) rfl dX12_find_32 ?_
  refine mg_iload_n C (i := 3) rfl 4 rfl dX12_find_33 ?_
  refine mg_iconst C (x := nI 1) rfl dX12_find_34 ?_
  refine mg_bipush C (x := nI 20) rfl dX12_find_35 ?_
  refine mg_dosi C (w142_in l v f g ) mCal_in rfl ⟨by decide, by decide⟩ rfl (Nat.le_of_ble_eq_true rfl) dX12_find_37 ?_
  refine mg_iconst C (x := nI 1) rfl dX12_find_40 ?_
  refine mg_doi C (w235_goes l v f g ) mCal_goes rfl ⟨by decide, by decide⟩ rfl (Nat.le_of_ble_eq_true rfl) dX12_find_41 ?_
  refine mg_if_neB C 49 (by decide) dX12_find_44 (fun c_ => absurd c_ (by decide)) (fun c_44 => ?_)
  refine mg_iconst C (x := nI 0) rfl dX12_find_47 ?_
  exact mg_iret C ⟨rfl, rfl⟩ dX12_find_48
set_option maxHeartbeats 4000000 in
set_option maxRecDepth 100000 in
theorem w238_goes (l : Launch) (v : Nat → Int32) (f : Nat → Nat → Int32) (g : Nat → Nat → Int64) : mMi l yX12_goes cX12_goes 4 (some .boolean) 0 0 false [.int (nI 0), .int (bI true), .int (nI 1)] v f g (fun r_ u_ => r_ = (bI false) ∧ u_ = (upd v 99 (nI 1), f, g)) := by
  intro D cI cJ cZ a sz
  refine mg_body (by decide +kernel) rfl (Nat.le_of_ble_eq_true rfl) ?_
  intro p e s m args below meth c hsz C
  clear hsz
  generalize va_A (mW cI cJ cZ a v f g) sz = A at C ⊢
  refine mg_lv (lv' := [(0, .ref (a 0)), (1, .int (nI 0)), (2, .int (bI true)), (3, .int (nI 1))]) rfl ?_
  refine mg_aload_n C (i := 0) rfl 0 rfl dX12_goes_0 ?_
  refine mg_iload_n C (i := 1) rfl 1 rfl dX12_goes_1 ?_
  refine mg_if_neN C (by omega) 9 (by decide) dX12_goes_2 (fun c_ => absurd c_ (by omega)) (fun c_2 => ?_)
  refine mg_iconst C (x := nI 1) rfl dX12_goes_5 ?_
  refine mg_goto C 26 (by decide) dX12_goes_6 ?_
  refine mg_put C (k := 99) (by decide) rfl mL_last rfl (by decide +kernel) mT_last rfl rfl dX12_goes_26 ?_
  refine mg_aload_n C (i := 0) rfl 0 rfl dX12_goes_29 ?_
  refine mg_getI C (k := 99) (by decide) rfl mL_last rfl dX12_goes_30 ?_
  refine mg_cast (nI 1) rfl ?_
  refine mg_if_neN C (by omega) 40 (by decide) dX12_goes_33 (fun c_33 => ?_) (fun c_ => absurd c_ (by omega))
  refine mg_iconst C (x := nI 0) rfl dX12_goes_40 ?_
  refine mg_cast (bI false) rfl ?_
  exact mg_zret C (bI_nar _) ⟨rfl, rfl⟩ dX12_goes_41
set_option maxHeartbeats 4000000 in
set_option maxRecDepth 100000 in
theorem w239_find (l : Launch) (v : Nat → Int32) (f : Nat → Nat → Int32) (g : Nat → Nat → Int64) (n1 : Nat) (x1 x2 : Int32) (h1 : x1 < 0) (h2 : 1 ≤ n1) (h3 : n1 ≤ 20) : mMi l yX12_find cX12_find 12 (some .int) 1 23 false [.int x1, .int x2, .int (nI n1)] v f g (fun r_ u_ => r_ = (nI 0) ∧ u_ = (upd v 99 (nI 1), f, g)) := by
  intro D cI cJ cZ a sz
  refine mg_body (by decide +kernel) rfl (Nat.le_of_ble_eq_true rfl) ?_
  intro p e s m args below meth c hsz C
  clear hsz
  generalize va_A (mW cI cJ cZ a v f g) sz = A at C ⊢
  refine mg_lv (lv' := [(0, .ref (a 0)), (1, .int x1), (2, .int x2), (3, .int (nI n1))]) rfl ?_
  refine mg_aload_n C (i := 0) rfl 0 rfl dX12_find_0 ?_
  refine mg_iload_n C (i := 1) rfl 1 rfl dX12_find_1 ?_
  refine mg_doi C (w101_slotOf l v f g x1 h1) mCal_slotOf rfl ⟨by decide, by decide⟩ rfl (Nat.le_of_ble_eq_true rfl) dX12_find_2 ?_
  refine mg_istore C (lv' := [(4, .int ((-1))), (0, .ref (a 0)), (1, .int x1), (2, .int x2), (3, .int (nI n1))]) (Nat.le_of_ble_eq_true rfl) rfl dX12_find_5 ?_
  refine mg_aload_n C (i := 0) rfl 1 rfl dX12_find_7 ?_
  refine mg_iload C 0 rfl dX12_find_8 ?_
  refine mg_iconst C (x := (-1)) rfl dX12_find_10 ?_
  refine mg_icmp_eq C 32 (by decide) dX12_find_11 (fun c_11 => ?_) (fun c_ => absurd c_ (by decide))
  refine mg_iconst C (x := nI 0) rfl dX12_find_32 ?_
  refine mg_iload_n C (i := 3) rfl 4 rfl dX12_find_33 ?_
  refine mg_iconst C (x := nI 1) rfl dX12_find_34 ?_
  refine mg_bipush C (x := nI 20) rfl dX12_find_35 ?_
  refine mg_dosi C (w144_in l v f g n1 (by omega) (by omega)) mCal_in rfl ⟨by decide, by decide⟩ rfl (Nat.le_of_ble_eq_true rfl) dX12_find_37 ?_
  refine mg_iconst C (x := nI 1) rfl dX12_find_40 ?_
  refine mg_doi C (w238_goes l v f g ) mCal_goes rfl ⟨by decide, by decide⟩ rfl (Nat.le_of_ble_eq_true rfl) dX12_find_41 ?_
  refine mg_if_neB C 49 (by decide) dX12_find_44 (fun c_ => absurd c_ (by decide)) (fun c_44 => ?_)
  refine mg_iconst C (x := nI 0) rfl dX12_find_47 ?_
  exact mg_iret C ⟨rfl, rfl⟩ dX12_find_48
set_option maxHeartbeats 4000000 in
set_option maxRecDepth 100000 in
theorem w240_find (l : Launch) (v : Nat → Int32) (f : Nat → Nat → Int32) (g : Nat → Nat → Int64) (n1 : Nat) (x1 x2 : Int32) (h1 : x1 < 0) (h2 : 21 ≤ n1) (h3 : n1 ≤ 2147483647) : mMi l yX12_find cX12_find 12 (some .int) 1 23 false [.int x1, .int x2, .int (nI n1)] v f g (fun r_ u_ => r_ = (nI 0) ∧ u_ = (upd v 99 (nI 1), f, g)) := by
  intro D cI cJ cZ a sz
  refine mg_body (by decide +kernel) rfl (Nat.le_of_ble_eq_true rfl) ?_
  intro p e s m args below meth c hsz C
  clear hsz
  generalize va_A (mW cI cJ cZ a v f g) sz = A at C ⊢
  refine mg_lv (lv' := [(0, .ref (a 0)), (1, .int x1), (2, .int x2), (3, .int (nI n1))]) rfl ?_
  refine mg_aload_n C (i := 0) rfl 0 rfl dX12_find_0 ?_
  refine mg_iload_n C (i := 1) rfl 1 rfl dX12_find_1 ?_
  refine mg_doi C (w101_slotOf l v f g x1 h1) mCal_slotOf rfl ⟨by decide, by decide⟩ rfl (Nat.le_of_ble_eq_true rfl) dX12_find_2 ?_
  refine mg_istore C (lv' := [(4, .int ((-1))), (0, .ref (a 0)), (1, .int x1), (2, .int x2), (3, .int (nI n1))]) (Nat.le_of_ble_eq_true rfl) rfl dX12_find_5 ?_
  refine mg_aload_n C (i := 0) rfl 1 rfl dX12_find_7 ?_
  refine mg_iload C 0 rfl dX12_find_8 ?_
  refine mg_iconst C (x := (-1)) rfl dX12_find_10 ?_
  refine mg_icmp_eq C 32 (by decide) dX12_find_11 (fun c_11 => ?_) (fun c_ => absurd c_ (by decide))
  refine mg_iconst C (x := nI 0) rfl dX12_find_32 ?_
  refine mg_iload_n C (i := 3) rfl 4 rfl dX12_find_33 ?_
  refine mg_iconst C (x := nI 1) rfl dX12_find_34 ?_
  refine mg_bipush C (x := nI 20) rfl dX12_find_35 ?_
  refine mg_dosi C (w146_in l v f g n1 (by omega) (by omega)) mCal_in rfl ⟨by decide, by decide⟩ rfl (Nat.le_of_ble_eq_true rfl) dX12_find_37 ?_
  refine mg_iconst C (x := nI 1) rfl dX12_find_40 ?_
  refine mg_doi C (w235_goes l v f g ) mCal_goes rfl ⟨by decide, by decide⟩ rfl (Nat.le_of_ble_eq_true rfl) dX12_find_41 ?_
  refine mg_if_neB C 49 (by decide) dX12_find_44 (fun c_ => absurd c_ (by decide)) (fun c_44 => ?_)
  refine mg_iconst C (x := nI 0) rfl dX12_find_47 ?_
  exact mg_iret C ⟨rfl, rfl⟩ dX12_find_48
set_option maxHeartbeats 4000000 in
set_option maxRecDepth 100000 in
theorem w241_find (l : Launch) (v : Nat → Int32) (f : Nat → Nat → Int32) (g : Nat → Nat → Int64) (n1 : Nat) (x1 x2 : Int32) (h1 : n1 ≤ 2147483647) (h2 : x2 < 0) (h3 : f 29 0 = ((-1))) (h4 : f 29 1 = ((-1))) (h5 : f 29 2 = ((-1))) (h6 : f 29 3 = ((-1))) (h7 : f 29 4 = ((-1))) : mMi l yX12_find cX12_find 12 (some .int) 1 23 false [.int (nI n1), .int x1, .int x2] v f g (fun r_ u_ => r_ = (nI 0) ∧ u_ = (upd v 99 (nI 1), f, g)) := by
  intro D cI cJ cZ a sz
  refine mg_body (by decide +kernel) rfl (Nat.le_of_ble_eq_true rfl) ?_
  intro p e s m args below meth c hsz C
  clear hsz
  generalize va_A (mW cI cJ cZ a v f g) sz = A at C ⊢
  refine mg_lv (lv' := [(0, .ref (a 0)), (1, .int (nI n1)), (2, .int x1), (3, .int x2)]) rfl ?_
  refine mg_aload_n C (i := 0) rfl 0 rfl dX12_find_0 ?_
  refine mg_iload_n C (i := 1) rfl 1 rfl dX12_find_1 ?_
  refine mg_doi C (w103_slotOf l v f g n1 (by omega) h3 h4 h5 h6 h7) mCal_slotOf rfl ⟨by decide, by decide⟩ rfl (Nat.le_of_ble_eq_true rfl) dX12_find_2 ?_
  refine mg_istore C (lv' := [(4, .int ((-1))), (0, .ref (a 0)), (1, .int (nI n1)), (2, .int x1), (3, .int x2)]) (Nat.le_of_ble_eq_true rfl) rfl dX12_find_5 ?_
  refine mg_aload_n C (i := 0) rfl 1 rfl dX12_find_7 ?_
  refine mg_iload C 0 rfl dX12_find_8 ?_
  refine mg_iconst C (x := (-1)) rfl dX12_find_10 ?_
  refine mg_icmp_eq C 32 (by decide) dX12_find_11 (fun c_11 => ?_) (fun c_ => absurd c_ (by decide))
  refine mg_iconst C (x := nI 0) rfl dX12_find_32 ?_
  refine mg_iload_n C (i := 3) rfl 4 rfl dX12_find_33 ?_
  refine mg_iconst C (x := nI 1) rfl dX12_find_34 ?_
  refine mg_bipush C (x := nI 20) rfl dX12_find_35 ?_
  refine mg_dosi C (w138_in l v f g x2 h2) mCal_in rfl ⟨by decide, by decide⟩ rfl (Nat.le_of_ble_eq_true rfl) dX12_find_37 ?_
  refine mg_iconst C (x := nI 1) rfl dX12_find_40 ?_
  refine mg_doi C (w235_goes l v f g ) mCal_goes rfl ⟨by decide, by decide⟩ rfl (Nat.le_of_ble_eq_true rfl) dX12_find_41 ?_
  refine mg_if_neB C 49 (by decide) dX12_find_44 (fun c_ => absurd c_ (by decide)) (fun c_44 => ?_)
  refine mg_iconst C (x := nI 0) rfl dX12_find_47 ?_
  exact mg_iret C ⟨rfl, rfl⟩ dX12_find_48
set_option maxHeartbeats 4000000 in
set_option maxRecDepth 100000 in
theorem w242_find (l : Launch) (v : Nat → Int32) (f : Nat → Nat → Int32) (g : Nat → Nat → Int64) (n1 : Nat) (x1 : Int32) (h1 : n1 ≤ 2147483647) (h2 : f 29 0 = ((-1))) (h3 : f 29 1 = ((-1))) (h4 : f 29 2 = ((-1))) (h5 : f 29 3 = ((-1))) (h6 : f 29 4 = ((-1))) : mMi l yX12_find cX12_find 12 (some .int) 1 23 false [.int (nI n1), .int x1, .int (nI 0)] v f g (fun r_ u_ => r_ = (nI 0) ∧ u_ = (upd v 99 (nI 1), f, g)) := by
  intro D cI cJ cZ a sz
  refine mg_body (by decide +kernel) rfl (Nat.le_of_ble_eq_true rfl) ?_
  intro p e s m args below meth c hsz C
  clear hsz
  generalize va_A (mW cI cJ cZ a v f g) sz = A at C ⊢
  refine mg_lv (lv' := [(0, .ref (a 0)), (1, .int (nI n1)), (2, .int x1), (3, .int (nI 0))]) rfl ?_
  refine mg_aload_n C (i := 0) rfl 0 rfl dX12_find_0 ?_
  refine mg_iload_n C (i := 1) rfl 1 rfl dX12_find_1 ?_
  refine mg_doi C (w103_slotOf l v f g n1 (by omega) h2 h3 h4 h5 h6) mCal_slotOf rfl ⟨by decide, by decide⟩ rfl (Nat.le_of_ble_eq_true rfl) dX12_find_2 ?_
  refine mg_istore C (lv' := [(4, .int ((-1))), (0, .ref (a 0)), (1, .int (nI n1)), (2, .int x1), (3, .int (nI 0))]) (Nat.le_of_ble_eq_true rfl) rfl dX12_find_5 ?_
  refine mg_aload_n C (i := 0) rfl 1 rfl dX12_find_7 ?_
  refine mg_iload C 0 rfl dX12_find_8 ?_
  refine mg_iconst C (x := (-1)) rfl dX12_find_10 ?_
  refine mg_icmp_eq C 32 (by decide) dX12_find_11 (fun c_11 => ?_) (fun c_ => absurd c_ (by decide))
  refine mg_iconst C (x := nI 0) rfl dX12_find_32 ?_
  refine mg_iload_n C (i := 3) rfl 4 rfl dX12_find_33 ?_
  refine mg_iconst C (x := nI 1) rfl dX12_find_34 ?_
  refine mg_bipush C (x := nI 20) rfl dX12_find_35 ?_
  refine mg_dosi C (w142_in l v f g ) mCal_in rfl ⟨by decide, by decide⟩ rfl (Nat.le_of_ble_eq_true rfl) dX12_find_37 ?_
  refine mg_iconst C (x := nI 1) rfl dX12_find_40 ?_
  refine mg_doi C (w235_goes l v f g ) mCal_goes rfl ⟨by decide, by decide⟩ rfl (Nat.le_of_ble_eq_true rfl) dX12_find_41 ?_
  refine mg_if_neB C 49 (by decide) dX12_find_44 (fun c_ => absurd c_ (by decide)) (fun c_44 => ?_)
  refine mg_iconst C (x := nI 0) rfl dX12_find_47 ?_
  exact mg_iret C ⟨rfl, rfl⟩ dX12_find_48
set_option maxHeartbeats 4000000 in
set_option maxRecDepth 100000 in
theorem w243_find (l : Launch) (v : Nat → Int32) (f : Nat → Nat → Int32) (g : Nat → Nat → Int64) (n1 n2 : Nat) (x1 : Int32) (h1 : n1 ≤ 2147483647) (h2 : 1 ≤ n2) (h3 : n2 ≤ 20) (h4 : f 29 0 = ((-1))) (h5 : f 29 1 = ((-1))) (h6 : f 29 2 = ((-1))) (h7 : f 29 3 = ((-1))) (h8 : f 29 4 = ((-1))) : mMi l yX12_find cX12_find 12 (some .int) 1 23 false [.int (nI n1), .int x1, .int (nI n2)] v f g (fun r_ u_ => r_ = (nI 0) ∧ u_ = (upd v 99 (nI 1), f, g)) := by
  intro D cI cJ cZ a sz
  refine mg_body (by decide +kernel) rfl (Nat.le_of_ble_eq_true rfl) ?_
  intro p e s m args below meth c hsz C
  clear hsz
  generalize va_A (mW cI cJ cZ a v f g) sz = A at C ⊢
  refine mg_lv (lv' := [(0, .ref (a 0)), (1, .int (nI n1)), (2, .int x1), (3, .int (nI n2))]) rfl ?_
  refine mg_aload_n C (i := 0) rfl 0 rfl dX12_find_0 ?_
  refine mg_iload_n C (i := 1) rfl 1 rfl dX12_find_1 ?_
  refine mg_doi C (w103_slotOf l v f g n1 (by omega) h4 h5 h6 h7 h8) mCal_slotOf rfl ⟨by decide, by decide⟩ rfl (Nat.le_of_ble_eq_true rfl) dX12_find_2 ?_
  refine mg_istore C (lv' := [(4, .int ((-1))), (0, .ref (a 0)), (1, .int (nI n1)), (2, .int x1), (3, .int (nI n2))]) (Nat.le_of_ble_eq_true rfl) rfl dX12_find_5 ?_
  refine mg_aload_n C (i := 0) rfl 1 rfl dX12_find_7 ?_
  refine mg_iload C 0 rfl dX12_find_8 ?_
  refine mg_iconst C (x := (-1)) rfl dX12_find_10 ?_
  refine mg_icmp_eq C 32 (by decide) dX12_find_11 (fun c_11 => ?_) (fun c_ => absurd c_ (by decide))
  refine mg_iconst C (x := nI 0) rfl dX12_find_32 ?_
  refine mg_iload_n C (i := 3) rfl 4 rfl dX12_find_33 ?_
  refine mg_iconst C (x := nI 1) rfl dX12_find_34 ?_
  refine mg_bipush C (x := nI 20) rfl dX12_find_35 ?_
  refine mg_dosi C (w144_in l v f g n2 (by omega) (by omega)) mCal_in rfl ⟨by decide, by decide⟩ rfl (Nat.le_of_ble_eq_true rfl) dX12_find_37 ?_
  refine mg_iconst C (x := nI 1) rfl dX12_find_40 ?_
  refine mg_doi C (w238_goes l v f g ) mCal_goes rfl ⟨by decide, by decide⟩ rfl (Nat.le_of_ble_eq_true rfl) dX12_find_41 ?_
  refine mg_if_neB C 49 (by decide) dX12_find_44 (fun c_ => absurd c_ (by decide)) (fun c_44 => ?_)
  refine mg_iconst C (x := nI 0) rfl dX12_find_47 ?_
  exact mg_iret C ⟨rfl, rfl⟩ dX12_find_48
set_option maxHeartbeats 4000000 in
set_option maxRecDepth 100000 in
theorem w244_find (l : Launch) (v : Nat → Int32) (f : Nat → Nat → Int32) (g : Nat → Nat → Int64) (n1 n2 : Nat) (x1 : Int32) (h1 : n1 ≤ 2147483647) (h2 : 21 ≤ n2) (h3 : n2 ≤ 2147483647) (h4 : f 29 0 = ((-1))) (h5 : f 29 1 = ((-1))) (h6 : f 29 2 = ((-1))) (h7 : f 29 3 = ((-1))) (h8 : f 29 4 = ((-1))) : mMi l yX12_find cX12_find 12 (some .int) 1 23 false [.int (nI n1), .int x1, .int (nI n2)] v f g (fun r_ u_ => r_ = (nI 0) ∧ u_ = (upd v 99 (nI 1), f, g)) := by
  intro D cI cJ cZ a sz
  refine mg_body (by decide +kernel) rfl (Nat.le_of_ble_eq_true rfl) ?_
  intro p e s m args below meth c hsz C
  clear hsz
  generalize va_A (mW cI cJ cZ a v f g) sz = A at C ⊢
  refine mg_lv (lv' := [(0, .ref (a 0)), (1, .int (nI n1)), (2, .int x1), (3, .int (nI n2))]) rfl ?_
  refine mg_aload_n C (i := 0) rfl 0 rfl dX12_find_0 ?_
  refine mg_iload_n C (i := 1) rfl 1 rfl dX12_find_1 ?_
  refine mg_doi C (w103_slotOf l v f g n1 (by omega) h4 h5 h6 h7 h8) mCal_slotOf rfl ⟨by decide, by decide⟩ rfl (Nat.le_of_ble_eq_true rfl) dX12_find_2 ?_
  refine mg_istore C (lv' := [(4, .int ((-1))), (0, .ref (a 0)), (1, .int (nI n1)), (2, .int x1), (3, .int (nI n2))]) (Nat.le_of_ble_eq_true rfl) rfl dX12_find_5 ?_
  refine mg_aload_n C (i := 0) rfl 1 rfl dX12_find_7 ?_
  refine mg_iload C 0 rfl dX12_find_8 ?_
  refine mg_iconst C (x := (-1)) rfl dX12_find_10 ?_
  refine mg_icmp_eq C 32 (by decide) dX12_find_11 (fun c_11 => ?_) (fun c_ => absurd c_ (by decide))
  refine mg_iconst C (x := nI 0) rfl dX12_find_32 ?_
  refine mg_iload_n C (i := 3) rfl 4 rfl dX12_find_33 ?_
  refine mg_iconst C (x := nI 1) rfl dX12_find_34 ?_
  refine mg_bipush C (x := nI 20) rfl dX12_find_35 ?_
  refine mg_dosi C (w146_in l v f g n2 (by omega) (by omega)) mCal_in rfl ⟨by decide, by decide⟩ rfl (Nat.le_of_ble_eq_true rfl) dX12_find_37 ?_
  refine mg_iconst C (x := nI 1) rfl dX12_find_40 ?_
  refine mg_doi C (w235_goes l v f g ) mCal_goes rfl ⟨by decide, by decide⟩ rfl (Nat.le_of_ble_eq_true rfl) dX12_find_41 ?_
  refine mg_if_neB C 49 (by decide) dX12_find_44 (fun c_ => absurd c_ (by decide)) (fun c_44 => ?_)
  refine mg_iconst C (x := nI 0) rfl dX12_find_47 ?_
  exact mg_iret C ⟨rfl, rfl⟩ dX12_find_48
set_option maxHeartbeats 4000000 in
set_option maxRecDepth 100000 in
theorem w245_hitAt (l : Launch) (v : Nat → Int32) (f : Nat → Nat → Int32) (g : Nat → Nat → Int64) (x1 : Int32) (h1 : x1 < 0) (h2 : v 88 = (nI 0)) : mMi l yX12_hitAt cX12_hitAt 2 (some .int) 1 23 false [.int x1] v f g (fun r_ u_ => r_ = (nI 0) ∧ u_ = (upd v 99 (nI 1), f, g)) := by
  intro D cI cJ cZ a sz
  refine mg_body (by decide +kernel) rfl (Nat.le_of_ble_eq_true rfl) ?_
  intro p e s m args below meth c hsz C
  clear hsz
  generalize va_A (mW cI cJ cZ a v f g) sz = A at C ⊢
  refine mg_lv (lv' := [(0, .ref (a 0)), (1, .int x1)]) rfl ?_
  refine mg_aload_n C (i := 0) rfl 0 rfl dX12_hitAt_0 ?_
  refine mg_iload_n C (i := 1) rfl 1 rfl dX12_hitAt_1 ?_
  refine mg_iconst C (x := nI 0) rfl dX12_hitAt_2 ?_
  refine mg_aload_n C (i := 0) rfl 0 rfl dX12_hitAt_3 ?_
  refine mg_getI C (k := 88) (by decide) rfl mL_hits rfl dX12_hitAt_4 ?_
  refine mg_cast (nI 0) h2 ?_
  refine mg_iconst C (x := nI 1) rfl dX12_hitAt_7 ?_
  refine mg_isub C dX12_hitAt_8 ?_
  refine mg_cast ((-1)) (by decide) ?_
  refine mg_dosi C (w73_in l v f g x1 h1) mCal_in rfl ⟨by decide, by decide⟩ rfl (Nat.le_of_ble_eq_true rfl) dX12_hitAt_9 ?_
  refine mg_iconst C (x := nI 1) rfl dX12_hitAt_12 ?_
  refine mg_iconst C (x := nI 1) rfl dX12_hitAt_13 ?_
  refine mg_doi C (w2_goes l v f g ) mCal_goes rfl ⟨by decide, by decide⟩ rfl (Nat.le_of_ble_eq_true rfl) dX12_hitAt_14 ?_
  refine mg_if_eqB C 29 (by decide) dX12_hitAt_17 (fun c_17 => ?_) (fun c_ => absurd c_ (by decide))
  refine mg_iconst C (x := nI 0) rfl dX12_hitAt_29 ?_
  exact mg_iret C ⟨rfl, rfl⟩ dX12_hitAt_30
set_option maxHeartbeats 4000000 in
set_option maxRecDepth 100000 in
theorem w246_hitAt (l : Launch) (v : Nat → Int32) (f : Nat → Nat → Int32) (g : Nat → Nat → Int64) (n1 : Nat) (h1 : n1 ≤ 2147483647) (h2 : v 88 = (nI 0)) : mMi l yX12_hitAt cX12_hitAt 2 (some .int) 1 23 false [.int (nI n1)] v f g (fun r_ u_ => r_ = (nI 0) ∧ u_ = (upd v 99 (nI 1), f, g)) := by
  intro D cI cJ cZ a sz
  refine mg_body (by decide +kernel) rfl (Nat.le_of_ble_eq_true rfl) ?_
  intro p e s m args below meth c hsz C
  clear hsz
  generalize va_A (mW cI cJ cZ a v f g) sz = A at C ⊢
  refine mg_lv (lv' := [(0, .ref (a 0)), (1, .int (nI n1))]) rfl ?_
  refine mg_aload_n C (i := 0) rfl 0 rfl dX12_hitAt_0 ?_
  refine mg_iload_n C (i := 1) rfl 1 rfl dX12_hitAt_1 ?_
  refine mg_iconst C (x := nI 0) rfl dX12_hitAt_2 ?_
  refine mg_aload_n C (i := 0) rfl 0 rfl dX12_hitAt_3 ?_
  refine mg_getI C (k := 88) (by decide) rfl mL_hits rfl dX12_hitAt_4 ?_
  refine mg_cast (nI 0) h2 ?_
  refine mg_iconst C (x := nI 1) rfl dX12_hitAt_7 ?_
  refine mg_isub C dX12_hitAt_8 ?_
  refine mg_cast ((-1)) (by decide) ?_
  refine mg_dosi C (w76_in l v f g n1 (by omega)) mCal_in rfl ⟨by decide, by decide⟩ rfl (Nat.le_of_ble_eq_true rfl) dX12_hitAt_9 ?_
  refine mg_iconst C (x := nI 1) rfl dX12_hitAt_12 ?_
  refine mg_iconst C (x := nI 1) rfl dX12_hitAt_13 ?_
  refine mg_doi C (w2_goes l v f g ) mCal_goes rfl ⟨by decide, by decide⟩ rfl (Nat.le_of_ble_eq_true rfl) dX12_hitAt_14 ?_
  refine mg_if_eqB C 29 (by decide) dX12_hitAt_17 (fun c_17 => ?_) (fun c_ => absurd c_ (by decide))
  refine mg_iconst C (x := nI 0) rfl dX12_hitAt_29 ?_
  exact mg_iret C ⟨rfl, rfl⟩ dX12_hitAt_30
set_option maxHeartbeats 4000000 in
set_option maxRecDepth 100000 in
theorem w247_rankAt (l : Launch) (v : Nat → Int32) (f : Nat → Nat → Int32) (g : Nat → Nat → Int64) (x1 : Int32) (h1 : x1 < 0) (h2 : v 88 = (nI 0)) : mMi l yX12_rankAt cX12_rankAt 2 (some .int) 1 23 false [.int x1] v f g (fun r_ u_ => r_ = (nI 0) ∧ u_ = (upd v 99 (nI 1), f, g)) := by
  intro D cI cJ cZ a sz
  refine mg_body (by decide +kernel) rfl (Nat.le_of_ble_eq_true rfl) ?_
  intro p e s m args below meth c hsz C
  clear hsz
  generalize va_A (mW cI cJ cZ a v f g) sz = A at C ⊢
  refine mg_lv (lv' := [(0, .ref (a 0)), (1, .int x1)]) rfl ?_
  refine mg_aload_n C (i := 0) rfl 0 rfl dX12_rankAt_0 ?_
  refine mg_iload_n C (i := 1) rfl 1 rfl dX12_rankAt_1 ?_
  refine mg_iconst C (x := nI 0) rfl dX12_rankAt_2 ?_
  refine mg_aload_n C (i := 0) rfl 0 rfl dX12_rankAt_3 ?_
  refine mg_getI C (k := 88) (by decide) rfl mL_hits rfl dX12_rankAt_4 ?_
  refine mg_cast (nI 0) h2 ?_
  refine mg_iconst C (x := nI 1) rfl dX12_rankAt_7 ?_
  refine mg_isub C dX12_rankAt_8 ?_
  refine mg_cast ((-1)) (by decide) ?_
  refine mg_dosi C (w73_in l v f g x1 h1) mCal_in rfl ⟨by decide, by decide⟩ rfl (Nat.le_of_ble_eq_true rfl) dX12_rankAt_9 ?_
  refine mg_iconst C (x := nI 1) rfl dX12_rankAt_12 ?_
  refine mg_iconst C (x := nI 1) rfl dX12_rankAt_13 ?_
  refine mg_doi C (w2_goes l v f g ) mCal_goes rfl ⟨by decide, by decide⟩ rfl (Nat.le_of_ble_eq_true rfl) dX12_rankAt_14 ?_
  refine mg_if_eqB C 29 (by decide) dX12_rankAt_17 (fun c_17 => ?_) (fun c_ => absurd c_ (by decide))
  refine mg_iconst C (x := nI 0) rfl dX12_rankAt_29 ?_
  exact mg_iret C ⟨rfl, rfl⟩ dX12_rankAt_30
set_option maxHeartbeats 4000000 in
set_option maxRecDepth 100000 in
theorem w248_rankAt (l : Launch) (v : Nat → Int32) (f : Nat → Nat → Int32) (g : Nat → Nat → Int64) (n1 : Nat) (h1 : n1 ≤ 2147483647) (h2 : v 88 = (nI 0)) : mMi l yX12_rankAt cX12_rankAt 2 (some .int) 1 23 false [.int (nI n1)] v f g (fun r_ u_ => r_ = (nI 0) ∧ u_ = (upd v 99 (nI 1), f, g)) := by
  intro D cI cJ cZ a sz
  refine mg_body (by decide +kernel) rfl (Nat.le_of_ble_eq_true rfl) ?_
  intro p e s m args below meth c hsz C
  clear hsz
  generalize va_A (mW cI cJ cZ a v f g) sz = A at C ⊢
  refine mg_lv (lv' := [(0, .ref (a 0)), (1, .int (nI n1))]) rfl ?_
  refine mg_aload_n C (i := 0) rfl 0 rfl dX12_rankAt_0 ?_
  refine mg_iload_n C (i := 1) rfl 1 rfl dX12_rankAt_1 ?_
  refine mg_iconst C (x := nI 0) rfl dX12_rankAt_2 ?_
  refine mg_aload_n C (i := 0) rfl 0 rfl dX12_rankAt_3 ?_
  refine mg_getI C (k := 88) (by decide) rfl mL_hits rfl dX12_rankAt_4 ?_
  refine mg_cast (nI 0) h2 ?_
  refine mg_iconst C (x := nI 1) rfl dX12_rankAt_7 ?_
  refine mg_isub C dX12_rankAt_8 ?_
  refine mg_cast ((-1)) (by decide) ?_
  refine mg_dosi C (w76_in l v f g n1 (by omega)) mCal_in rfl ⟨by decide, by decide⟩ rfl (Nat.le_of_ble_eq_true rfl) dX12_rankAt_9 ?_
  refine mg_iconst C (x := nI 1) rfl dX12_rankAt_12 ?_
  refine mg_iconst C (x := nI 1) rfl dX12_rankAt_13 ?_
  refine mg_doi C (w2_goes l v f g ) mCal_goes rfl ⟨by decide, by decide⟩ rfl (Nat.le_of_ble_eq_true rfl) dX12_rankAt_14 ?_
  refine mg_if_eqB C 29 (by decide) dX12_rankAt_17 (fun c_17 => ?_) (fun c_ => absurd c_ (by decide))
  refine mg_iconst C (x := nI 0) rfl dX12_rankAt_29 ?_
  exact mg_iret C ⟨rfl, rfl⟩ dX12_rankAt_30
set_option maxHeartbeats 4000000 in
set_option maxRecDepth 100000 in
theorem w249_skipped (l : Launch) (v : Nat → Int32) (f : Nat → Nat → Int32) (g : Nat → Nat → Int64) (h1 : v 89 = (nI 0)) : mMi l yX12_skipped cX12_skipped 1 (some .int) 0 0 false [] v f g (fun r_ u_ => r_ = (nI 0) ∧ u_ = (upd v 99 (nI 0), f, g)) := by
  intro D cI cJ cZ a sz
  refine mg_body (by decide +kernel) rfl (Nat.le_of_ble_eq_true rfl) ?_
  intro p e s m args below meth c hsz C
  clear hsz
  generalize va_A (mW cI cJ cZ a v f g) sz = A at C ⊢
  refine mg_lv (lv' := [(0, .ref (a 0))]) rfl ?_
  refine mg_aload_n C (i := 0) rfl 0 rfl dX12_skipped_0 ?_
  refine mg_iconst C (x := nI 0) rfl dX12_skipped_1 ?_
  refine mg_put C (k := 99) (by decide) rfl mL_last rfl (by decide +kernel) mT_last rfl rfl dX12_skipped_2 ?_
  refine mg_aload_n C (i := 0) rfl 0 rfl dX12_skipped_5 ?_
  refine mg_getI C (k := 89) (by decide) rfl mL_skips rfl dX12_skipped_6 ?_
  refine mg_cast (nI 0) h1 ?_
  exact mg_iret C ⟨rfl, rfl⟩ dX12_skipped_9
set_option maxHeartbeats 4000000 in
set_option maxRecDepth 100000 in
theorem w250_cached (l : Launch) (v : Nat → Int32) (f : Nat → Nat → Int32) (g : Nat → Nat → Int64) (h1 : v 90 = (nI 0)) : mMi l yX12_cached cX12_cached 1 (some .int) 0 0 false [] v f g (fun r_ u_ => r_ = (nI 0) ∧ u_ = (upd v 99 (nI 0), f, g)) := by
  intro D cI cJ cZ a sz
  refine mg_body (by decide +kernel) rfl (Nat.le_of_ble_eq_true rfl) ?_
  intro p e s m args below meth c hsz C
  clear hsz
  generalize va_A (mW cI cJ cZ a v f g) sz = A at C ⊢
  refine mg_lv (lv' := [(0, .ref (a 0))]) rfl ?_
  refine mg_aload_n C (i := 0) rfl 0 rfl dX12_cached_0 ?_
  refine mg_iconst C (x := nI 0) rfl dX12_cached_1 ?_
  refine mg_put C (k := 99) (by decide) rfl mL_last rfl (by decide +kernel) mT_last rfl rfl dX12_cached_2 ?_
  refine mg_aload_n C (i := 0) rfl 0 rfl dX12_cached_5 ?_
  refine mg_getI C (k := 90) (by decide) rfl mL_taken rfl dX12_cached_6 ?_
  refine mg_cast (nI 0) h1 ?_
  exact mg_iret C ⟨rfl, rfl⟩ dX12_cached_9
set_option maxHeartbeats 4000000 in
set_option maxRecDepth 100000 in
theorem w251_isAsked (l : Launch) (v : Nat → Int32) (f : Nat → Nat → Int32) (g : Nat → Nat → Int64) (x1 : Int32) : mMi l yX12_isAsked cX12_isAsked 3 (some .boolean) 0 0 false [.int ((-1)), .int x1] v f g (fun r_ u_ => r_ = (bI false) ∧ u_ = (v, f, g)) := by
  intro D cI cJ cZ a sz
  refine mg_body (by decide +kernel) rfl (Nat.le_of_ble_eq_true rfl) ?_
  intro p e s m args below meth c hsz C
  clear hsz
  generalize va_A (mW cI cJ cZ a v f g) sz = A at C ⊢
  refine mg_lv (lv' := [(0, .ref (a 0)), (1, .int ((-1))), (2, .int x1)]) rfl ?_
  refine mg_iload_n C (i := 1) rfl 1 rfl dX12_isAsked_0 ?_
  refine mg_iconst C (x := (-1)) rfl dX12_isAsked_1 ?_
  refine mg_icmp_eq C 23 (by decide) dX12_isAsked_2 (fun c_2 => ?_) (fun c_ => absurd c_ (by decide))
  refine mg_iconst C (x := nI 0) rfl dX12_isAsked_23 ?_
  refine mg_cast (bI false) rfl ?_
  exact mg_zret C (bI_nar _) ⟨rfl, rfl⟩ dX12_isAsked_24
set_option maxHeartbeats 4000000 in
set_option maxRecDepth 100000 in
theorem w252_rankByScan (l : Launch) (v : Nat → Int32) (f : Nat → Nat → Int32) (g : Nat → Nat → Int64) (x1 x2 x3 : Int32) (h1 : x1 < 0) : mMi l yX12_rankByScan cX12_rankByScan 6 (some .int) 1 23 false [.int x1, .int x2, .int x3] v f g (fun r_ u_ => r_ = (nI 0) ∧ u_ = (upd v 99 (nI 1), f, g)) := by
  intro D cI cJ cZ a sz
  refine mg_body (by decide +kernel) rfl (Nat.le_of_ble_eq_true rfl) ?_
  intro p e s m args below meth c hsz C
  clear hsz
  generalize va_A (mW cI cJ cZ a v f g) sz = A at C ⊢
  refine mg_lv (lv' := [(0, .ref (a 0)), (1, .int x1), (2, .int x2), (3, .int x3)]) rfl ?_
  refine mg_aload_n C (i := 0) rfl 0 rfl dX12_rankByScan_0 ?_
  refine mg_iload_n C (i := 1) rfl 1 rfl dX12_rankByScan_1 ?_
  refine mg_doi C (w101_slotOf l v f g x1 h1) mCal_slotOf rfl ⟨by decide, by decide⟩ rfl (Nat.le_of_ble_eq_true rfl) dX12_rankByScan_2 ?_
  refine mg_istore C (lv' := [(4, .int ((-1))), (0, .ref (a 0)), (1, .int x1), (2, .int x2), (3, .int x3)]) (Nat.le_of_ble_eq_true rfl) rfl dX12_rankByScan_5 ?_
  refine mg_aload_n C (i := 0) rfl 1 rfl dX12_rankByScan_7 ?_
  refine mg_aload_n C (i := 0) rfl 1 rfl dX12_rankByScan_8 ?_
  refine mg_iload C 0 rfl dX12_rankByScan_9 ?_
  refine mg_iload_n C (i := 2) rfl 3 rfl dX12_rankByScan_11 ?_
  refine mg_doi C (w251_isAsked l v f g x2) mCal_isAsked rfl ⟨by decide, by decide⟩ rfl (Nat.le_of_ble_eq_true rfl) dX12_rankByScan_12 ?_
  refine mg_if_eqB C 29 (by decide) dX12_rankByScan_15 (fun c_15 => ?_) (fun c_ => absurd c_ (by decide))
  refine mg_iconst C (x := nI 0) rfl dX12_rankByScan_29 ?_
  refine mg_iconst C (x := nI 1) rfl dX12_rankByScan_30 ?_
  refine mg_iconst C (x := nI 1) rfl dX12_rankByScan_31 ?_
  refine mg_doi C (w13_goes l v f g ) mCal_goes rfl ⟨by decide, by decide⟩ rfl (Nat.le_of_ble_eq_true rfl) dX12_rankByScan_32 ?_
  refine mg_if_neB C 40 (by decide) dX12_rankByScan_35 (fun c_ => absurd c_ (by decide)) (fun c_35 => ?_)
  refine mg_iconst C (x := nI 0) rfl dX12_rankByScan_38 ?_
  exact mg_iret C ⟨rfl, rfl⟩ dX12_rankByScan_39
set_option maxHeartbeats 4000000 in
set_option maxRecDepth 100000 in
theorem w253_rankByScan (l : Launch) (v : Nat → Int32) (f : Nat → Nat → Int32) (g : Nat → Nat → Int64) (n1 : Nat) (x1 x2 : Int32) (h1 : n1 ≤ 2147483647) (h2 : f 29 0 = ((-1))) (h3 : f 29 1 = ((-1))) (h4 : f 29 2 = ((-1))) (h5 : f 29 3 = ((-1))) (h6 : f 29 4 = ((-1))) : mMi l yX12_rankByScan cX12_rankByScan 6 (some .int) 1 23 false [.int (nI n1), .int x1, .int x2] v f g (fun r_ u_ => r_ = (nI 0) ∧ u_ = (upd v 99 (nI 1), f, g)) := by
  intro D cI cJ cZ a sz
  refine mg_body (by decide +kernel) rfl (Nat.le_of_ble_eq_true rfl) ?_
  intro p e s m args below meth c hsz C
  clear hsz
  generalize va_A (mW cI cJ cZ a v f g) sz = A at C ⊢
  refine mg_lv (lv' := [(0, .ref (a 0)), (1, .int (nI n1)), (2, .int x1), (3, .int x2)]) rfl ?_
  refine mg_aload_n C (i := 0) rfl 0 rfl dX12_rankByScan_0 ?_
  refine mg_iload_n C (i := 1) rfl 1 rfl dX12_rankByScan_1 ?_
  refine mg_doi C (w103_slotOf l v f g n1 (by omega) h2 h3 h4 h5 h6) mCal_slotOf rfl ⟨by decide, by decide⟩ rfl (Nat.le_of_ble_eq_true rfl) dX12_rankByScan_2 ?_
  refine mg_istore C (lv' := [(4, .int ((-1))), (0, .ref (a 0)), (1, .int (nI n1)), (2, .int x1), (3, .int x2)]) (Nat.le_of_ble_eq_true rfl) rfl dX12_rankByScan_5 ?_
  refine mg_aload_n C (i := 0) rfl 1 rfl dX12_rankByScan_7 ?_
  refine mg_aload_n C (i := 0) rfl 1 rfl dX12_rankByScan_8 ?_
  refine mg_iload C 0 rfl dX12_rankByScan_9 ?_
  refine mg_iload_n C (i := 2) rfl 3 rfl dX12_rankByScan_11 ?_
  refine mg_doi C (w251_isAsked l v f g x1) mCal_isAsked rfl ⟨by decide, by decide⟩ rfl (Nat.le_of_ble_eq_true rfl) dX12_rankByScan_12 ?_
  refine mg_if_eqB C 29 (by decide) dX12_rankByScan_15 (fun c_15 => ?_) (fun c_ => absurd c_ (by decide))
  refine mg_iconst C (x := nI 0) rfl dX12_rankByScan_29 ?_
  refine mg_iconst C (x := nI 1) rfl dX12_rankByScan_30 ?_
  refine mg_iconst C (x := nI 1) rfl dX12_rankByScan_31 ?_
  refine mg_doi C (w13_goes l v f g ) mCal_goes rfl ⟨by decide, by decide⟩ rfl (Nat.le_of_ble_eq_true rfl) dX12_rankByScan_32 ?_
  refine mg_if_neB C 40 (by decide) dX12_rankByScan_35 (fun c_ => absurd c_ (by decide)) (fun c_35 => ?_)
  refine mg_iconst C (x := nI 0) rfl dX12_rankByScan_38 ?_
  exact mg_iret C ⟨rfl, rfl⟩ dX12_rankByScan_39
set_option maxHeartbeats 4000000 in
set_option maxRecDepth 100000 in
theorem w254_matches (l : Launch) (v : Nat → Int32) (f : Nat → Nat → Int32) (g : Nat → Nat → Int64) (x1 x2 : Int32) (h1 : x1 < 0) : mMi l yX12_matches cX12_matches 4 (some .int) 1 23 false [.int x1, .int x2] v f g (fun r_ u_ => r_ = (nI 0) ∧ u_ = (upd v 99 (nI 1), f, g)) := by
  intro D cI cJ cZ a sz
  refine mg_body (by decide +kernel) rfl (Nat.le_of_ble_eq_true rfl) ?_
  intro p e s m args below meth c hsz C
  clear hsz
  generalize va_A (mW cI cJ cZ a v f g) sz = A at C ⊢
  refine mg_lv (lv' := [(0, .ref (a 0)), (1, .int x1), (2, .int x2)]) rfl ?_
  refine mg_aload_n C (i := 0) rfl 0 rfl dX12_matches_0 ?_
  refine mg_iload_n C (i := 1) rfl 1 rfl dX12_matches_1 ?_
  refine mg_doi C (w101_slotOf l v f g x1 h1) mCal_slotOf rfl ⟨by decide, by decide⟩ rfl (Nat.le_of_ble_eq_true rfl) dX12_matches_2 ?_
  refine mg_istore_n C (i := 3) (lv' := [(3, .int ((-1))), (0, .ref (a 0)), (1, .int x1), (2, .int x2)]) rfl (Nat.le_of_ble_eq_true rfl) rfl dX12_matches_5 ?_
  refine mg_aload_n C (i := 0) rfl 1 rfl dX12_matches_6 ?_
  refine mg_aload_n C (i := 0) rfl 1 rfl dX12_matches_7 ?_
  refine mg_iload_n C (i := 3) rfl 0 rfl dX12_matches_8 ?_
  refine mg_iload_n C (i := 2) rfl 3 rfl dX12_matches_9 ?_
  refine mg_doi C (w251_isAsked l v f g x2) mCal_isAsked rfl ⟨by decide, by decide⟩ rfl (Nat.le_of_ble_eq_true rfl) dX12_matches_10 ?_
  refine mg_iconst C (x := nI 1) rfl dX12_matches_13 ?_
  refine mg_iconst C (x := nI 1) rfl dX12_matches_14 ?_
  refine mg_doi C (w2_goes l v f g ) mCal_goes rfl ⟨by decide, by decide⟩ rfl (Nat.le_of_ble_eq_true rfl) dX12_matches_15 ?_
  refine mg_if_eqB C 31 (by decide) dX12_matches_18 (fun c_18 => ?_) (fun c_ => absurd c_ (by decide))
  refine mg_iconst C (x := nI 0) rfl dX12_matches_31 ?_
  exact mg_iret C ⟨rfl, rfl⟩ dX12_matches_32
set_option maxHeartbeats 4000000 in
set_option maxRecDepth 100000 in
theorem w255_matches (l : Launch) (v : Nat → Int32) (f : Nat → Nat → Int32) (g : Nat → Nat → Int64) (n1 : Nat) (x1 : Int32) (h1 : n1 ≤ 2147483647) (h2 : f 29 0 = ((-1))) (h3 : f 29 1 = ((-1))) (h4 : f 29 2 = ((-1))) (h5 : f 29 3 = ((-1))) (h6 : f 29 4 = ((-1))) : mMi l yX12_matches cX12_matches 4 (some .int) 1 23 false [.int (nI n1), .int x1] v f g (fun r_ u_ => r_ = (nI 0) ∧ u_ = (upd v 99 (nI 1), f, g)) := by
  intro D cI cJ cZ a sz
  refine mg_body (by decide +kernel) rfl (Nat.le_of_ble_eq_true rfl) ?_
  intro p e s m args below meth c hsz C
  clear hsz
  generalize va_A (mW cI cJ cZ a v f g) sz = A at C ⊢
  refine mg_lv (lv' := [(0, .ref (a 0)), (1, .int (nI n1)), (2, .int x1)]) rfl ?_
  refine mg_aload_n C (i := 0) rfl 0 rfl dX12_matches_0 ?_
  refine mg_iload_n C (i := 1) rfl 1 rfl dX12_matches_1 ?_
  refine mg_doi C (w103_slotOf l v f g n1 (by omega) h2 h3 h4 h5 h6) mCal_slotOf rfl ⟨by decide, by decide⟩ rfl (Nat.le_of_ble_eq_true rfl) dX12_matches_2 ?_
  refine mg_istore_n C (i := 3) (lv' := [(3, .int ((-1))), (0, .ref (a 0)), (1, .int (nI n1)), (2, .int x1)]) rfl (Nat.le_of_ble_eq_true rfl) rfl dX12_matches_5 ?_
  refine mg_aload_n C (i := 0) rfl 1 rfl dX12_matches_6 ?_
  refine mg_aload_n C (i := 0) rfl 1 rfl dX12_matches_7 ?_
  refine mg_iload_n C (i := 3) rfl 0 rfl dX12_matches_8 ?_
  refine mg_iload_n C (i := 2) rfl 3 rfl dX12_matches_9 ?_
  refine mg_doi C (w251_isAsked l v f g x1) mCal_isAsked rfl ⟨by decide, by decide⟩ rfl (Nat.le_of_ble_eq_true rfl) dX12_matches_10 ?_
  refine mg_iconst C (x := nI 1) rfl dX12_matches_13 ?_
  refine mg_iconst C (x := nI 1) rfl dX12_matches_14 ?_
  refine mg_doi C (w2_goes l v f g ) mCal_goes rfl ⟨by decide, by decide⟩ rfl (Nat.le_of_ble_eq_true rfl) dX12_matches_15 ?_
  refine mg_if_eqB C 31 (by decide) dX12_matches_18 (fun c_18 => ?_) (fun c_ => absurd c_ (by decide))
  refine mg_iconst C (x := nI 0) rfl dX12_matches_31 ?_
  exact mg_iret C ⟨rfl, rfl⟩ dX12_matches_32
set_option maxHeartbeats 4000000 in
set_option maxRecDepth 100000 in
theorem w256_matchesByScan (l : Launch) (v : Nat → Int32) (f : Nat → Nat → Int32) (g : Nat → Nat → Int64) (x1 x2 : Int32) (h1 : x1 < 0) : mMi l yX12_matchesByScan cX12_matchesByScan 3 (some .int) 2 46 false [.int x1, .int x2] v f g (fun r_ u_ => r_ = (nI 0) ∧ u_ = (upd v 99 (nI 1), f, g)) := by
  intro D cI cJ cZ a sz
  refine mg_body (by decide +kernel) rfl (Nat.le_of_ble_eq_true rfl) ?_
  intro p e s m args below meth c hsz C
  clear hsz
  generalize va_A (mW cI cJ cZ a v f g) sz = A at C ⊢
  refine mg_lv (lv' := [(0, .ref (a 0)), (1, .int x1), (2, .int x2)]) rfl ?_
  refine mg_aload_n C (i := 0) rfl 0 rfl dX12_matchesByScan_0 ?_
  refine mg_iload_n C (i := 1) rfl 1 rfl dX12_matchesByScan_1 ?_
  refine mg_iload_n C (i := 2) rfl 2 rfl dX12_matchesByScan_2 ?_
  refine mg_doi C (w254_matches l v f g x1 x2 h1) mCal_matches rfl ⟨by decide, by decide⟩ rfl (Nat.le_of_ble_eq_true rfl) dX12_matchesByScan_3 ?_
  exact mg_iret C ⟨rfl, rfl⟩ dX12_matchesByScan_6
set_option maxHeartbeats 4000000 in
set_option maxRecDepth 100000 in
theorem w257_matchesByScan (l : Launch) (v : Nat → Int32) (f : Nat → Nat → Int32) (g : Nat → Nat → Int64) (n1 : Nat) (x1 : Int32) (h1 : n1 ≤ 2147483647) (h2 : f 29 0 = ((-1))) (h3 : f 29 1 = ((-1))) (h4 : f 29 2 = ((-1))) (h5 : f 29 3 = ((-1))) (h6 : f 29 4 = ((-1))) : mMi l yX12_matchesByScan cX12_matchesByScan 3 (some .int) 2 46 false [.int (nI n1), .int x1] v f g (fun r_ u_ => r_ = (nI 0) ∧ u_ = (upd v 99 (nI 1), f, g)) := by
  intro D cI cJ cZ a sz
  refine mg_body (by decide +kernel) rfl (Nat.le_of_ble_eq_true rfl) ?_
  intro p e s m args below meth c hsz C
  clear hsz
  generalize va_A (mW cI cJ cZ a v f g) sz = A at C ⊢
  refine mg_lv (lv' := [(0, .ref (a 0)), (1, .int (nI n1)), (2, .int x1)]) rfl ?_
  refine mg_aload_n C (i := 0) rfl 0 rfl dX12_matchesByScan_0 ?_
  refine mg_iload_n C (i := 1) rfl 1 rfl dX12_matchesByScan_1 ?_
  refine mg_iload_n C (i := 2) rfl 2 rfl dX12_matchesByScan_2 ?_
  refine mg_doi C (w255_matches l v f g n1 x1 (by omega) h2 h3 h4 h5 h6) mCal_matches rfl ⟨by decide, by decide⟩ rfl (Nat.le_of_ble_eq_true rfl) dX12_matchesByScan_3 ?_
  exact mg_iret C ⟨rfl, rfl⟩ dX12_matchesByScan_6
set_option maxHeartbeats 4000000 in
set_option maxRecDepth 100000 in
theorem w258_facet (l : Launch) (v : Nat → Int32) (f : Nat → Nat → Int32) (g : Nat → Nat → Int64) (x1 x2 x3 : Int32) (h1 : x1 < 0) (h2 : x3 < 0) : mMi l yX12_facet cX12_facet 5 (some .int) 1 23 false [.int x1, .int x2, .int x3] v f g (fun r_ u_ => r_ = (nI 0) ∧ u_ = (upd v 99 (nI 1), f, g)) := by
  intro D cI cJ cZ a sz
  refine mg_body (by decide +kernel) rfl (Nat.le_of_ble_eq_true rfl) ?_
  intro p e s m args below meth c hsz C
  clear hsz
  generalize va_A (mW cI cJ cZ a v f g) sz = A at C ⊢
  refine mg_lv (lv' := [(0, .ref (a 0)), (1, .int x1), (2, .int x2), (3, .int x3)]) rfl ?_
  refine mg_aload_n C (i := 0) rfl 0 rfl dX12_facet_0 ?_
  refine mg_iload_n C (i := 1) rfl 1 rfl dX12_facet_1 ?_
  refine mg_doi C (w101_slotOf l v f g x1 h1) mCal_slotOf rfl ⟨by decide, by decide⟩ rfl (Nat.le_of_ble_eq_true rfl) dX12_facet_2 ?_
  refine mg_istore C (lv' := [(4, .int ((-1))), (0, .ref (a 0)), (1, .int x1), (2, .int x2), (3, .int x3)]) (Nat.le_of_ble_eq_true rfl) rfl dX12_facet_5 ?_
  refine mg_aload_n C (i := 0) rfl 1 rfl dX12_facet_7 ?_
  refine mg_aload_n C (i := 0) rfl 1 rfl dX12_facet_8 ?_
  refine mg_iload C 0 rfl dX12_facet_9 ?_
  refine mg_iload_n C (i := 2) rfl 3 rfl dX12_facet_11 ?_
  refine mg_doi C (w251_isAsked l v f g x2) mCal_isAsked rfl ⟨by decide, by decide⟩ rfl (Nat.le_of_ble_eq_true rfl) dX12_facet_12 ?_
  refine mg_iload_n C (i := 3) rfl 4 rfl dX12_facet_15 ?_
  refine mg_iconst C (x := nI 0) rfl dX12_facet_16 ?_
  refine mg_bipush C (x := nI 9) rfl dX12_facet_17 ?_
  refine mg_dosi C (w24_in l v f g x3 h2) mCal_in rfl ⟨by decide, by decide⟩ rfl (Nat.le_of_ble_eq_true rfl) dX12_facet_19 ?_
  refine mg_iconst C (x := nI 1) rfl dX12_facet_22 ?_
  refine mg_doi C (w213_goes l v f g ) mCal_goes rfl ⟨by decide, by decide⟩ rfl (Nat.le_of_ble_eq_true rfl) dX12_facet_23 ?_
  refine mg_if_eqB C 40 (by decide) dX12_facet_26 (fun c_26 => ?_) (fun c_ => absurd c_ (by decide))
  refine mg_iconst C (x := nI 0) rfl dX12_facet_40 ?_
  exact mg_iret C ⟨rfl, rfl⟩ dX12_facet_41
set_option maxHeartbeats 4000000 in
set_option maxRecDepth 100000 in
theorem w259_facet (l : Launch) (v : Nat → Int32) (f : Nat → Nat → Int32) (g : Nat → Nat → Int64) (n1 : Nat) (x1 x2 : Int32) (h1 : x1 < 0) (h2 : n1 ≤ 9) : mMi l yX12_facet cX12_facet 5 (some .int) 1 23 false [.int x1, .int x2, .int (nI n1)] v f g (fun r_ u_ => r_ = (nI 0) ∧ u_ = (upd v 99 (nI 1), f, g)) := by
  intro D cI cJ cZ a sz
  refine mg_body (by decide +kernel) rfl (Nat.le_of_ble_eq_true rfl) ?_
  intro p e s m args below meth c hsz C
  clear hsz
  generalize va_A (mW cI cJ cZ a v f g) sz = A at C ⊢
  refine mg_lv (lv' := [(0, .ref (a 0)), (1, .int x1), (2, .int x2), (3, .int (nI n1))]) rfl ?_
  refine mg_aload_n C (i := 0) rfl 0 rfl dX12_facet_0 ?_
  refine mg_iload_n C (i := 1) rfl 1 rfl dX12_facet_1 ?_
  refine mg_doi C (w101_slotOf l v f g x1 h1) mCal_slotOf rfl ⟨by decide, by decide⟩ rfl (Nat.le_of_ble_eq_true rfl) dX12_facet_2 ?_
  refine mg_istore C (lv' := [(4, .int ((-1))), (0, .ref (a 0)), (1, .int x1), (2, .int x2), (3, .int (nI n1))]) (Nat.le_of_ble_eq_true rfl) rfl dX12_facet_5 ?_
  refine mg_aload_n C (i := 0) rfl 1 rfl dX12_facet_7 ?_
  refine mg_aload_n C (i := 0) rfl 1 rfl dX12_facet_8 ?_
  refine mg_iload C 0 rfl dX12_facet_9 ?_
  refine mg_iload_n C (i := 2) rfl 3 rfl dX12_facet_11 ?_
  refine mg_doi C (w251_isAsked l v f g x2) mCal_isAsked rfl ⟨by decide, by decide⟩ rfl (Nat.le_of_ble_eq_true rfl) dX12_facet_12 ?_
  refine mg_iload_n C (i := 3) rfl 4 rfl dX12_facet_15 ?_
  refine mg_iconst C (x := nI 0) rfl dX12_facet_16 ?_
  refine mg_bipush C (x := nI 9) rfl dX12_facet_17 ?_
  refine mg_dosi C (w26_in l v f g n1 (by omega)) mCal_in rfl ⟨by decide, by decide⟩ rfl (Nat.le_of_ble_eq_true rfl) dX12_facet_19 ?_
  refine mg_iconst C (x := nI 1) rfl dX12_facet_22 ?_
  refine mg_doi C (w218_goes l v f g ) mCal_goes rfl ⟨by decide, by decide⟩ rfl (Nat.le_of_ble_eq_true rfl) dX12_facet_23 ?_
  refine mg_if_eqB C 40 (by decide) dX12_facet_26 (fun c_26 => ?_) (fun c_ => absurd c_ (by decide))
  refine mg_iconst C (x := nI 0) rfl dX12_facet_40 ?_
  exact mg_iret C ⟨rfl, rfl⟩ dX12_facet_41
set_option maxHeartbeats 4000000 in
set_option maxRecDepth 100000 in
theorem w260_facet (l : Launch) (v : Nat → Int32) (f : Nat → Nat → Int32) (g : Nat → Nat → Int64) (n1 : Nat) (x1 x2 : Int32) (h1 : x1 < 0) (h2 : 10 ≤ n1) (h3 : n1 ≤ 2147483647) : mMi l yX12_facet cX12_facet 5 (some .int) 1 23 false [.int x1, .int x2, .int (nI n1)] v f g (fun r_ u_ => r_ = (nI 0) ∧ u_ = (upd v 99 (nI 1), f, g)) := by
  intro D cI cJ cZ a sz
  refine mg_body (by decide +kernel) rfl (Nat.le_of_ble_eq_true rfl) ?_
  intro p e s m args below meth c hsz C
  clear hsz
  generalize va_A (mW cI cJ cZ a v f g) sz = A at C ⊢
  refine mg_lv (lv' := [(0, .ref (a 0)), (1, .int x1), (2, .int x2), (3, .int (nI n1))]) rfl ?_
  refine mg_aload_n C (i := 0) rfl 0 rfl dX12_facet_0 ?_
  refine mg_iload_n C (i := 1) rfl 1 rfl dX12_facet_1 ?_
  refine mg_doi C (w101_slotOf l v f g x1 h1) mCal_slotOf rfl ⟨by decide, by decide⟩ rfl (Nat.le_of_ble_eq_true rfl) dX12_facet_2 ?_
  refine mg_istore C (lv' := [(4, .int ((-1))), (0, .ref (a 0)), (1, .int x1), (2, .int x2), (3, .int (nI n1))]) (Nat.le_of_ble_eq_true rfl) rfl dX12_facet_5 ?_
  refine mg_aload_n C (i := 0) rfl 1 rfl dX12_facet_7 ?_
  refine mg_aload_n C (i := 0) rfl 1 rfl dX12_facet_8 ?_
  refine mg_iload C 0 rfl dX12_facet_9 ?_
  refine mg_iload_n C (i := 2) rfl 3 rfl dX12_facet_11 ?_
  refine mg_doi C (w251_isAsked l v f g x2) mCal_isAsked rfl ⟨by decide, by decide⟩ rfl (Nat.le_of_ble_eq_true rfl) dX12_facet_12 ?_
  refine mg_iload_n C (i := 3) rfl 4 rfl dX12_facet_15 ?_
  refine mg_iconst C (x := nI 0) rfl dX12_facet_16 ?_
  refine mg_bipush C (x := nI 9) rfl dX12_facet_17 ?_
  refine mg_dosi C (w34_in l v f g n1 (by omega) (by omega)) mCal_in rfl ⟨by decide, by decide⟩ rfl (Nat.le_of_ble_eq_true rfl) dX12_facet_19 ?_
  refine mg_iconst C (x := nI 1) rfl dX12_facet_22 ?_
  refine mg_doi C (w213_goes l v f g ) mCal_goes rfl ⟨by decide, by decide⟩ rfl (Nat.le_of_ble_eq_true rfl) dX12_facet_23 ?_
  refine mg_if_eqB C 40 (by decide) dX12_facet_26 (fun c_26 => ?_) (fun c_ => absurd c_ (by decide))
  refine mg_iconst C (x := nI 0) rfl dX12_facet_40 ?_
  exact mg_iret C ⟨rfl, rfl⟩ dX12_facet_41
set_option maxHeartbeats 4000000 in
set_option maxRecDepth 100000 in
theorem w261_facet (l : Launch) (v : Nat → Int32) (f : Nat → Nat → Int32) (g : Nat → Nat → Int64) (n1 : Nat) (x1 x2 : Int32) (h1 : n1 ≤ 2147483647) (h2 : x2 < 0) (h3 : f 29 0 = ((-1))) (h4 : f 29 1 = ((-1))) (h5 : f 29 2 = ((-1))) (h6 : f 29 3 = ((-1))) (h7 : f 29 4 = ((-1))) : mMi l yX12_facet cX12_facet 5 (some .int) 1 23 false [.int (nI n1), .int x1, .int x2] v f g (fun r_ u_ => r_ = (nI 0) ∧ u_ = (upd v 99 (nI 1), f, g)) := by
  intro D cI cJ cZ a sz
  refine mg_body (by decide +kernel) rfl (Nat.le_of_ble_eq_true rfl) ?_
  intro p e s m args below meth c hsz C
  clear hsz
  generalize va_A (mW cI cJ cZ a v f g) sz = A at C ⊢
  refine mg_lv (lv' := [(0, .ref (a 0)), (1, .int (nI n1)), (2, .int x1), (3, .int x2)]) rfl ?_
  refine mg_aload_n C (i := 0) rfl 0 rfl dX12_facet_0 ?_
  refine mg_iload_n C (i := 1) rfl 1 rfl dX12_facet_1 ?_
  refine mg_doi C (w103_slotOf l v f g n1 (by omega) h3 h4 h5 h6 h7) mCal_slotOf rfl ⟨by decide, by decide⟩ rfl (Nat.le_of_ble_eq_true rfl) dX12_facet_2 ?_
  refine mg_istore C (lv' := [(4, .int ((-1))), (0, .ref (a 0)), (1, .int (nI n1)), (2, .int x1), (3, .int x2)]) (Nat.le_of_ble_eq_true rfl) rfl dX12_facet_5 ?_
  refine mg_aload_n C (i := 0) rfl 1 rfl dX12_facet_7 ?_
  refine mg_aload_n C (i := 0) rfl 1 rfl dX12_facet_8 ?_
  refine mg_iload C 0 rfl dX12_facet_9 ?_
  refine mg_iload_n C (i := 2) rfl 3 rfl dX12_facet_11 ?_
  refine mg_doi C (w251_isAsked l v f g x1) mCal_isAsked rfl ⟨by decide, by decide⟩ rfl (Nat.le_of_ble_eq_true rfl) dX12_facet_12 ?_
  refine mg_iload_n C (i := 3) rfl 4 rfl dX12_facet_15 ?_
  refine mg_iconst C (x := nI 0) rfl dX12_facet_16 ?_
  refine mg_bipush C (x := nI 9) rfl dX12_facet_17 ?_
  refine mg_dosi C (w24_in l v f g x2 h2) mCal_in rfl ⟨by decide, by decide⟩ rfl (Nat.le_of_ble_eq_true rfl) dX12_facet_19 ?_
  refine mg_iconst C (x := nI 1) rfl dX12_facet_22 ?_
  refine mg_doi C (w213_goes l v f g ) mCal_goes rfl ⟨by decide, by decide⟩ rfl (Nat.le_of_ble_eq_true rfl) dX12_facet_23 ?_
  refine mg_if_eqB C 40 (by decide) dX12_facet_26 (fun c_26 => ?_) (fun c_ => absurd c_ (by decide))
  refine mg_iconst C (x := nI 0) rfl dX12_facet_40 ?_
  exact mg_iret C ⟨rfl, rfl⟩ dX12_facet_41
set_option maxHeartbeats 4000000 in
set_option maxRecDepth 100000 in
theorem w262_facet (l : Launch) (v : Nat → Int32) (f : Nat → Nat → Int32) (g : Nat → Nat → Int64) (n1 n2 : Nat) (x1 : Int32) (h1 : n1 ≤ 2147483647) (h2 : n2 ≤ 9) (h3 : f 29 0 = ((-1))) (h4 : f 29 1 = ((-1))) (h5 : f 29 2 = ((-1))) (h6 : f 29 3 = ((-1))) (h7 : f 29 4 = ((-1))) : mMi l yX12_facet cX12_facet 5 (some .int) 1 23 false [.int (nI n1), .int x1, .int (nI n2)] v f g (fun r_ u_ => r_ = (nI 0) ∧ u_ = (upd v 99 (nI 1), f, g)) := by
  intro D cI cJ cZ a sz
  refine mg_body (by decide +kernel) rfl (Nat.le_of_ble_eq_true rfl) ?_
  intro p e s m args below meth c hsz C
  clear hsz
  generalize va_A (mW cI cJ cZ a v f g) sz = A at C ⊢
  refine mg_lv (lv' := [(0, .ref (a 0)), (1, .int (nI n1)), (2, .int x1), (3, .int (nI n2))]) rfl ?_
  refine mg_aload_n C (i := 0) rfl 0 rfl dX12_facet_0 ?_
  refine mg_iload_n C (i := 1) rfl 1 rfl dX12_facet_1 ?_
  refine mg_doi C (w103_slotOf l v f g n1 (by omega) h3 h4 h5 h6 h7) mCal_slotOf rfl ⟨by decide, by decide⟩ rfl (Nat.le_of_ble_eq_true rfl) dX12_facet_2 ?_
  refine mg_istore C (lv' := [(4, .int ((-1))), (0, .ref (a 0)), (1, .int (nI n1)), (2, .int x1), (3, .int (nI n2))]) (Nat.le_of_ble_eq_true rfl) rfl dX12_facet_5 ?_
  refine mg_aload_n C (i := 0) rfl 1 rfl dX12_facet_7 ?_
  refine mg_aload_n C (i := 0) rfl 1 rfl dX12_facet_8 ?_
  refine mg_iload C 0 rfl dX12_facet_9 ?_
  refine mg_iload_n C (i := 2) rfl 3 rfl dX12_facet_11 ?_
  refine mg_doi C (w251_isAsked l v f g x1) mCal_isAsked rfl ⟨by decide, by decide⟩ rfl (Nat.le_of_ble_eq_true rfl) dX12_facet_12 ?_
  refine mg_iload_n C (i := 3) rfl 4 rfl dX12_facet_15 ?_
  refine mg_iconst C (x := nI 0) rfl dX12_facet_16 ?_
  refine mg_bipush C (x := nI 9) rfl dX12_facet_17 ?_
  refine mg_dosi C (w26_in l v f g n2 (by omega)) mCal_in rfl ⟨by decide, by decide⟩ rfl (Nat.le_of_ble_eq_true rfl) dX12_facet_19 ?_
  refine mg_iconst C (x := nI 1) rfl dX12_facet_22 ?_
  refine mg_doi C (w218_goes l v f g ) mCal_goes rfl ⟨by decide, by decide⟩ rfl (Nat.le_of_ble_eq_true rfl) dX12_facet_23 ?_
  refine mg_if_eqB C 40 (by decide) dX12_facet_26 (fun c_26 => ?_) (fun c_ => absurd c_ (by decide))
  refine mg_iconst C (x := nI 0) rfl dX12_facet_40 ?_
  exact mg_iret C ⟨rfl, rfl⟩ dX12_facet_41
set_option maxHeartbeats 4000000 in
set_option maxRecDepth 100000 in
theorem w263_facet (l : Launch) (v : Nat → Int32) (f : Nat → Nat → Int32) (g : Nat → Nat → Int64) (n1 n2 : Nat) (x1 : Int32) (h1 : n1 ≤ 2147483647) (h2 : 10 ≤ n2) (h3 : n2 ≤ 2147483647) (h4 : f 29 0 = ((-1))) (h5 : f 29 1 = ((-1))) (h6 : f 29 2 = ((-1))) (h7 : f 29 3 = ((-1))) (h8 : f 29 4 = ((-1))) : mMi l yX12_facet cX12_facet 5 (some .int) 1 23 false [.int (nI n1), .int x1, .int (nI n2)] v f g (fun r_ u_ => r_ = (nI 0) ∧ u_ = (upd v 99 (nI 1), f, g)) := by
  intro D cI cJ cZ a sz
  refine mg_body (by decide +kernel) rfl (Nat.le_of_ble_eq_true rfl) ?_
  intro p e s m args below meth c hsz C
  clear hsz
  generalize va_A (mW cI cJ cZ a v f g) sz = A at C ⊢
  refine mg_lv (lv' := [(0, .ref (a 0)), (1, .int (nI n1)), (2, .int x1), (3, .int (nI n2))]) rfl ?_
  refine mg_aload_n C (i := 0) rfl 0 rfl dX12_facet_0 ?_
  refine mg_iload_n C (i := 1) rfl 1 rfl dX12_facet_1 ?_
  refine mg_doi C (w103_slotOf l v f g n1 (by omega) h4 h5 h6 h7 h8) mCal_slotOf rfl ⟨by decide, by decide⟩ rfl (Nat.le_of_ble_eq_true rfl) dX12_facet_2 ?_
  refine mg_istore C (lv' := [(4, .int ((-1))), (0, .ref (a 0)), (1, .int (nI n1)), (2, .int x1), (3, .int (nI n2))]) (Nat.le_of_ble_eq_true rfl) rfl dX12_facet_5 ?_
  refine mg_aload_n C (i := 0) rfl 1 rfl dX12_facet_7 ?_
  refine mg_aload_n C (i := 0) rfl 1 rfl dX12_facet_8 ?_
  refine mg_iload C 0 rfl dX12_facet_9 ?_
  refine mg_iload_n C (i := 2) rfl 3 rfl dX12_facet_11 ?_
  refine mg_doi C (w251_isAsked l v f g x1) mCal_isAsked rfl ⟨by decide, by decide⟩ rfl (Nat.le_of_ble_eq_true rfl) dX12_facet_12 ?_
  refine mg_iload_n C (i := 3) rfl 4 rfl dX12_facet_15 ?_
  refine mg_iconst C (x := nI 0) rfl dX12_facet_16 ?_
  refine mg_bipush C (x := nI 9) rfl dX12_facet_17 ?_
  refine mg_dosi C (w34_in l v f g n2 (by omega) (by omega)) mCal_in rfl ⟨by decide, by decide⟩ rfl (Nat.le_of_ble_eq_true rfl) dX12_facet_19 ?_
  refine mg_iconst C (x := nI 1) rfl dX12_facet_22 ?_
  refine mg_doi C (w213_goes l v f g ) mCal_goes rfl ⟨by decide, by decide⟩ rfl (Nat.le_of_ble_eq_true rfl) dX12_facet_23 ?_
  refine mg_if_eqB C 40 (by decide) dX12_facet_26 (fun c_26 => ?_) (fun c_ => absurd c_ (by decide))
  refine mg_iconst C (x := nI 0) rfl dX12_facet_40 ?_
  exact mg_iret C ⟨rfl, rfl⟩ dX12_facet_41
set_option maxHeartbeats 4000000 in
set_option maxRecDepth 100000 in
theorem w264_sortedAt (l : Launch) (v : Nat → Int32) (f : Nat → Nat → Int32) (g : Nat → Nat → Int64) (x1 x2 x3 : Int32) (h1 : x1 < 0) (h2 : x3 < 0) : mMi l yX12_sortedAt cX12_sortedAt 9 (some .int) 1 23 false [.int x1, .int x2, .int (nI 1), .int x3] v f g (fun r_ u_ => r_ = (nI 0) ∧ u_ = (upd v 99 (nI 1), f, g)) := by
  intro D cI cJ cZ a sz
  refine mg_body (by decide +kernel) rfl (Nat.le_of_ble_eq_true rfl) ?_
  intro p e s m args below meth c hsz C
  clear hsz
  generalize va_A (mW cI cJ cZ a v f g) sz = A at C ⊢
  refine mg_lv (lv' := [(0, .ref (a 0)), (1, .int x1), (2, .int x2), (3, .int (nI 1)), (4, .int x3)]) rfl ?_
  refine mg_aload_n C (i := 0) rfl 0 rfl dX12_sortedAt_0 ?_
  refine mg_iload_n C (i := 1) rfl 1 rfl dX12_sortedAt_1 ?_
  refine mg_doi C (w101_slotOf l v f g x1 h1) mCal_slotOf rfl ⟨by decide, by decide⟩ rfl (Nat.le_of_ble_eq_true rfl) dX12_sortedAt_2 ?_
  refine mg_istore C (lv' := [(5, .int ((-1))), (0, .ref (a 0)), (1, .int x1), (2, .int x2), (3, .int (nI 1)), (4, .int x3)]) (Nat.le_of_ble_eq_true rfl) rfl dX12_sortedAt_5 ?_
  refine mg_iconst C (x := nI 0) rfl dX12_sortedAt_7 ?_
  refine mg_istore C (lv' := [(6, .int (nI 0)), (5, .int ((-1))), (0, .ref (a 0)), (1, .int x1), (2, .int x2), (3, .int (nI 1)), (4, .int x3)]) (Nat.le_of_ble_eq_true rfl) rfl dX12_sortedAt_8 ?_
  refine mg_aload_n C (i := 0) rfl 2 rfl dX12_sortedAt_10 ?_
  refine mg_iload C 1 rfl dX12_sortedAt_11 ?_
  refine mg_iload_n C (i := 2) rfl 4 rfl dX12_sortedAt_13 ?_
  refine mg_doi C (w251_isAsked l v f g x2) mCal_isAsked rfl ⟨by decide, by decide⟩ rfl (Nat.le_of_ble_eq_true rfl) dX12_sortedAt_14 ?_
  refine mg_if_eqB C 174 (by decide) dX12_sortedAt_17 (fun c_17 => ?_) (fun c_ => absurd c_ (by decide))
  refine mg_aload_n C (i := 0) rfl 2 rfl dX12_sortedAt_174 ?_
  refine mg_iload C 6 rfl dX12_sortedAt_175 ?_
  refine mg_iconst C (x := nI 0) rfl dX12_sortedAt_177 ?_
  refine mg_iload C 0 rfl dX12_sortedAt_178 ?_
  refine mg_iconst C (x := nI 1) rfl dX12_sortedAt_180 ?_
  refine mg_isub C dX12_sortedAt_181 ?_
  refine mg_cast ((-1)) (by decide) ?_
  refine mg_dosi C (w73_in l v f g x3 h2) mCal_in rfl ⟨by decide, by decide⟩ rfl (Nat.le_of_ble_eq_true rfl) dX12_sortedAt_182 ?_
  refine mg_iconst C (x := nI 1) rfl dX12_sortedAt_185 ?_
  refine mg_iconst C (x := nI 1) rfl dX12_sortedAt_186 ?_
  refine mg_doi C (w2_goes l v f g ) mCal_goes rfl ⟨by decide, by decide⟩ rfl (Nat.le_of_ble_eq_true rfl) dX12_sortedAt_187 ?_
  refine mg_if_eqB C 208 (by decide) dX12_sortedAt_190 (fun c_190 => ?_) (fun c_ => absurd c_ (by decide))
  refine mg_iconst C (x := nI 0) rfl dX12_sortedAt_208 ?_
  exact mg_iret C ⟨rfl, rfl⟩ dX12_sortedAt_209
set_option maxHeartbeats 4000000 in
set_option maxRecDepth 100000 in
theorem w265_sortedAt (l : Launch) (v : Nat → Int32) (f : Nat → Nat → Int32) (g : Nat → Nat → Int64) (n1 : Nat) (x1 x2 : Int32) (h1 : x1 < 0) (h2 : n1 ≤ 2147483647) : mMi l yX12_sortedAt cX12_sortedAt 9 (some .int) 1 23 false [.int x1, .int x2, .int (nI 1), .int (nI n1)] v f g (fun r_ u_ => r_ = (nI 0) ∧ u_ = (upd v 99 (nI 1), f, g)) := by
  intro D cI cJ cZ a sz
  refine mg_body (by decide +kernel) rfl (Nat.le_of_ble_eq_true rfl) ?_
  intro p e s m args below meth c hsz C
  clear hsz
  generalize va_A (mW cI cJ cZ a v f g) sz = A at C ⊢
  refine mg_lv (lv' := [(0, .ref (a 0)), (1, .int x1), (2, .int x2), (3, .int (nI 1)), (4, .int (nI n1))]) rfl ?_
  refine mg_aload_n C (i := 0) rfl 0 rfl dX12_sortedAt_0 ?_
  refine mg_iload_n C (i := 1) rfl 1 rfl dX12_sortedAt_1 ?_
  refine mg_doi C (w101_slotOf l v f g x1 h1) mCal_slotOf rfl ⟨by decide, by decide⟩ rfl (Nat.le_of_ble_eq_true rfl) dX12_sortedAt_2 ?_
  refine mg_istore C (lv' := [(5, .int ((-1))), (0, .ref (a 0)), (1, .int x1), (2, .int x2), (3, .int (nI 1)), (4, .int (nI n1))]) (Nat.le_of_ble_eq_true rfl) rfl dX12_sortedAt_5 ?_
  refine mg_iconst C (x := nI 0) rfl dX12_sortedAt_7 ?_
  refine mg_istore C (lv' := [(6, .int (nI 0)), (5, .int ((-1))), (0, .ref (a 0)), (1, .int x1), (2, .int x2), (3, .int (nI 1)), (4, .int (nI n1))]) (Nat.le_of_ble_eq_true rfl) rfl dX12_sortedAt_8 ?_
  refine mg_aload_n C (i := 0) rfl 2 rfl dX12_sortedAt_10 ?_
  refine mg_iload C 1 rfl dX12_sortedAt_11 ?_
  refine mg_iload_n C (i := 2) rfl 4 rfl dX12_sortedAt_13 ?_
  refine mg_doi C (w251_isAsked l v f g x2) mCal_isAsked rfl ⟨by decide, by decide⟩ rfl (Nat.le_of_ble_eq_true rfl) dX12_sortedAt_14 ?_
  refine mg_if_eqB C 174 (by decide) dX12_sortedAt_17 (fun c_17 => ?_) (fun c_ => absurd c_ (by decide))
  refine mg_aload_n C (i := 0) rfl 2 rfl dX12_sortedAt_174 ?_
  refine mg_iload C 6 rfl dX12_sortedAt_175 ?_
  refine mg_iconst C (x := nI 0) rfl dX12_sortedAt_177 ?_
  refine mg_iload C 0 rfl dX12_sortedAt_178 ?_
  refine mg_iconst C (x := nI 1) rfl dX12_sortedAt_180 ?_
  refine mg_isub C dX12_sortedAt_181 ?_
  refine mg_cast ((-1)) (by decide) ?_
  refine mg_dosi C (w76_in l v f g n1 (by omega)) mCal_in rfl ⟨by decide, by decide⟩ rfl (Nat.le_of_ble_eq_true rfl) dX12_sortedAt_182 ?_
  refine mg_iconst C (x := nI 1) rfl dX12_sortedAt_185 ?_
  refine mg_iconst C (x := nI 1) rfl dX12_sortedAt_186 ?_
  refine mg_doi C (w2_goes l v f g ) mCal_goes rfl ⟨by decide, by decide⟩ rfl (Nat.le_of_ble_eq_true rfl) dX12_sortedAt_187 ?_
  refine mg_if_eqB C 208 (by decide) dX12_sortedAt_190 (fun c_190 => ?_) (fun c_ => absurd c_ (by decide))
  refine mg_iconst C (x := nI 0) rfl dX12_sortedAt_208 ?_
  exact mg_iret C ⟨rfl, rfl⟩ dX12_sortedAt_209
set_option maxHeartbeats 4000000 in
set_option maxRecDepth 100000 in
theorem w266_sortedAt (l : Launch) (v : Nat → Int32) (f : Nat → Nat → Int32) (g : Nat → Nat → Int64) (n1 : Nat) (x1 x2 : Int32) (h1 : n1 ≤ 2147483647) (h2 : x2 < 0) (h3 : f 29 0 = ((-1))) (h4 : f 29 1 = ((-1))) (h5 : f 29 2 = ((-1))) (h6 : f 29 3 = ((-1))) (h7 : f 29 4 = ((-1))) : mMi l yX12_sortedAt cX12_sortedAt 9 (some .int) 1 23 false [.int (nI n1), .int x1, .int (nI 1), .int x2] v f g (fun r_ u_ => r_ = (nI 0) ∧ u_ = (upd v 99 (nI 1), f, g)) := by
  intro D cI cJ cZ a sz
  refine mg_body (by decide +kernel) rfl (Nat.le_of_ble_eq_true rfl) ?_
  intro p e s m args below meth c hsz C
  clear hsz
  generalize va_A (mW cI cJ cZ a v f g) sz = A at C ⊢
  refine mg_lv (lv' := [(0, .ref (a 0)), (1, .int (nI n1)), (2, .int x1), (3, .int (nI 1)), (4, .int x2)]) rfl ?_
  refine mg_aload_n C (i := 0) rfl 0 rfl dX12_sortedAt_0 ?_
  refine mg_iload_n C (i := 1) rfl 1 rfl dX12_sortedAt_1 ?_
  refine mg_doi C (w103_slotOf l v f g n1 (by omega) h3 h4 h5 h6 h7) mCal_slotOf rfl ⟨by decide, by decide⟩ rfl (Nat.le_of_ble_eq_true rfl) dX12_sortedAt_2 ?_
  refine mg_istore C (lv' := [(5, .int ((-1))), (0, .ref (a 0)), (1, .int (nI n1)), (2, .int x1), (3, .int (nI 1)), (4, .int x2)]) (Nat.le_of_ble_eq_true rfl) rfl dX12_sortedAt_5 ?_
  refine mg_iconst C (x := nI 0) rfl dX12_sortedAt_7 ?_
  refine mg_istore C (lv' := [(6, .int (nI 0)), (5, .int ((-1))), (0, .ref (a 0)), (1, .int (nI n1)), (2, .int x1), (3, .int (nI 1)), (4, .int x2)]) (Nat.le_of_ble_eq_true rfl) rfl dX12_sortedAt_8 ?_
  refine mg_aload_n C (i := 0) rfl 2 rfl dX12_sortedAt_10 ?_
  refine mg_iload C 1 rfl dX12_sortedAt_11 ?_
  refine mg_iload_n C (i := 2) rfl 4 rfl dX12_sortedAt_13 ?_
  refine mg_doi C (w251_isAsked l v f g x1) mCal_isAsked rfl ⟨by decide, by decide⟩ rfl (Nat.le_of_ble_eq_true rfl) dX12_sortedAt_14 ?_
  refine mg_if_eqB C 174 (by decide) dX12_sortedAt_17 (fun c_17 => ?_) (fun c_ => absurd c_ (by decide))
  refine mg_aload_n C (i := 0) rfl 2 rfl dX12_sortedAt_174 ?_
  refine mg_iload C 6 rfl dX12_sortedAt_175 ?_
  refine mg_iconst C (x := nI 0) rfl dX12_sortedAt_177 ?_
  refine mg_iload C 0 rfl dX12_sortedAt_178 ?_
  refine mg_iconst C (x := nI 1) rfl dX12_sortedAt_180 ?_
  refine mg_isub C dX12_sortedAt_181 ?_
  refine mg_cast ((-1)) (by decide) ?_
  refine mg_dosi C (w73_in l v f g x2 h2) mCal_in rfl ⟨by decide, by decide⟩ rfl (Nat.le_of_ble_eq_true rfl) dX12_sortedAt_182 ?_
  refine mg_iconst C (x := nI 1) rfl dX12_sortedAt_185 ?_
  refine mg_iconst C (x := nI 1) rfl dX12_sortedAt_186 ?_
  refine mg_doi C (w2_goes l v f g ) mCal_goes rfl ⟨by decide, by decide⟩ rfl (Nat.le_of_ble_eq_true rfl) dX12_sortedAt_187 ?_
  refine mg_if_eqB C 208 (by decide) dX12_sortedAt_190 (fun c_190 => ?_) (fun c_ => absurd c_ (by decide))
  refine mg_iconst C (x := nI 0) rfl dX12_sortedAt_208 ?_
  exact mg_iret C ⟨rfl, rfl⟩ dX12_sortedAt_209
set_option maxHeartbeats 4000000 in
set_option maxRecDepth 100000 in
theorem w267_sortedAt (l : Launch) (v : Nat → Int32) (f : Nat → Nat → Int32) (g : Nat → Nat → Int64) (n1 n2 : Nat) (x1 : Int32) (h1 : n1 ≤ 2147483647) (h2 : n2 ≤ 2147483647) (h3 : f 29 0 = ((-1))) (h4 : f 29 1 = ((-1))) (h5 : f 29 2 = ((-1))) (h6 : f 29 3 = ((-1))) (h7 : f 29 4 = ((-1))) : mMi l yX12_sortedAt cX12_sortedAt 9 (some .int) 1 23 false [.int (nI n1), .int x1, .int (nI 1), .int (nI n2)] v f g (fun r_ u_ => r_ = (nI 0) ∧ u_ = (upd v 99 (nI 1), f, g)) := by
  intro D cI cJ cZ a sz
  refine mg_body (by decide +kernel) rfl (Nat.le_of_ble_eq_true rfl) ?_
  intro p e s m args below meth c hsz C
  clear hsz
  generalize va_A (mW cI cJ cZ a v f g) sz = A at C ⊢
  refine mg_lv (lv' := [(0, .ref (a 0)), (1, .int (nI n1)), (2, .int x1), (3, .int (nI 1)), (4, .int (nI n2))]) rfl ?_
  refine mg_aload_n C (i := 0) rfl 0 rfl dX12_sortedAt_0 ?_
  refine mg_iload_n C (i := 1) rfl 1 rfl dX12_sortedAt_1 ?_
  refine mg_doi C (w103_slotOf l v f g n1 (by omega) h3 h4 h5 h6 h7) mCal_slotOf rfl ⟨by decide, by decide⟩ rfl (Nat.le_of_ble_eq_true rfl) dX12_sortedAt_2 ?_
  refine mg_istore C (lv' := [(5, .int ((-1))), (0, .ref (a 0)), (1, .int (nI n1)), (2, .int x1), (3, .int (nI 1)), (4, .int (nI n2))]) (Nat.le_of_ble_eq_true rfl) rfl dX12_sortedAt_5 ?_
  refine mg_iconst C (x := nI 0) rfl dX12_sortedAt_7 ?_
  refine mg_istore C (lv' := [(6, .int (nI 0)), (5, .int ((-1))), (0, .ref (a 0)), (1, .int (nI n1)), (2, .int x1), (3, .int (nI 1)), (4, .int (nI n2))]) (Nat.le_of_ble_eq_true rfl) rfl dX12_sortedAt_8 ?_
  refine mg_aload_n C (i := 0) rfl 2 rfl dX12_sortedAt_10 ?_
  refine mg_iload C 1 rfl dX12_sortedAt_11 ?_
  refine mg_iload_n C (i := 2) rfl 4 rfl dX12_sortedAt_13 ?_
  refine mg_doi C (w251_isAsked l v f g x1) mCal_isAsked rfl ⟨by decide, by decide⟩ rfl (Nat.le_of_ble_eq_true rfl) dX12_sortedAt_14 ?_
  refine mg_if_eqB C 174 (by decide) dX12_sortedAt_17 (fun c_17 => ?_) (fun c_ => absurd c_ (by decide))
  refine mg_aload_n C (i := 0) rfl 2 rfl dX12_sortedAt_174 ?_
  refine mg_iload C 6 rfl dX12_sortedAt_175 ?_
  refine mg_iconst C (x := nI 0) rfl dX12_sortedAt_177 ?_
  refine mg_iload C 0 rfl dX12_sortedAt_178 ?_
  refine mg_iconst C (x := nI 1) rfl dX12_sortedAt_180 ?_
  refine mg_isub C dX12_sortedAt_181 ?_
  refine mg_cast ((-1)) (by decide) ?_
  refine mg_dosi C (w76_in l v f g n2 (by omega)) mCal_in rfl ⟨by decide, by decide⟩ rfl (Nat.le_of_ble_eq_true rfl) dX12_sortedAt_182 ?_
  refine mg_iconst C (x := nI 1) rfl dX12_sortedAt_185 ?_
  refine mg_iconst C (x := nI 1) rfl dX12_sortedAt_186 ?_
  refine mg_doi C (w2_goes l v f g ) mCal_goes rfl ⟨by decide, by decide⟩ rfl (Nat.le_of_ble_eq_true rfl) dX12_sortedAt_187 ?_
  refine mg_if_eqB C 208 (by decide) dX12_sortedAt_190 (fun c_190 => ?_) (fun c_ => absurd c_ (by decide))
  refine mg_iconst C (x := nI 0) rfl dX12_sortedAt_208 ?_
  exact mg_iret C ⟨rfl, rfl⟩ dX12_sortedAt_209
set_option maxHeartbeats 4000000 in
set_option maxRecDepth 100000 in
theorem w268_sortedAt (l : Launch) (v : Nat → Int32) (f : Nat → Nat → Int32) (g : Nat → Nat → Int64) (x1 x2 x3 : Int32) (h1 : x1 < 0) (h2 : x3 < 0) : mMi l yX12_sortedAt cX12_sortedAt 9 (some .int) 1 23 false [.int x1, .int x2, .int (nI 0), .int x3] v f g (fun r_ u_ => r_ = (nI 0) ∧ u_ = (upd v 99 (nI 1), f, g)) := by
  intro D cI cJ cZ a sz
  refine mg_body (by decide +kernel) rfl (Nat.le_of_ble_eq_true rfl) ?_
  intro p e s m args below meth c hsz C
  clear hsz
  generalize va_A (mW cI cJ cZ a v f g) sz = A at C ⊢
  refine mg_lv (lv' := [(0, .ref (a 0)), (1, .int x1), (2, .int x2), (3, .int (nI 0)), (4, .int x3)]) rfl ?_
  refine mg_aload_n C (i := 0) rfl 0 rfl dX12_sortedAt_0 ?_
  refine mg_iload_n C (i := 1) rfl 1 rfl dX12_sortedAt_1 ?_
  refine mg_doi C (w101_slotOf l v f g x1 h1) mCal_slotOf rfl ⟨by decide, by decide⟩ rfl (Nat.le_of_ble_eq_true rfl) dX12_sortedAt_2 ?_
  refine mg_istore C (lv' := [(5, .int ((-1))), (0, .ref (a 0)), (1, .int x1), (2, .int x2), (3, .int (nI 0)), (4, .int x3)]) (Nat.le_of_ble_eq_true rfl) rfl dX12_sortedAt_5 ?_
  refine mg_iconst C (x := nI 0) rfl dX12_sortedAt_7 ?_
  refine mg_istore C (lv' := [(6, .int (nI 0)), (5, .int ((-1))), (0, .ref (a 0)), (1, .int x1), (2, .int x2), (3, .int (nI 0)), (4, .int x3)]) (Nat.le_of_ble_eq_true rfl) rfl dX12_sortedAt_8 ?_
  refine mg_aload_n C (i := 0) rfl 2 rfl dX12_sortedAt_10 ?_
  refine mg_iload C 1 rfl dX12_sortedAt_11 ?_
  refine mg_iload_n C (i := 2) rfl 4 rfl dX12_sortedAt_13 ?_
  refine mg_doi C (w251_isAsked l v f g x2) mCal_isAsked rfl ⟨by decide, by decide⟩ rfl (Nat.le_of_ble_eq_true rfl) dX12_sortedAt_14 ?_
  refine mg_if_eqB C 174 (by decide) dX12_sortedAt_17 (fun c_17 => ?_) (fun c_ => absurd c_ (by decide))
  refine mg_aload_n C (i := 0) rfl 2 rfl dX12_sortedAt_174 ?_
  refine mg_iload C 6 rfl dX12_sortedAt_175 ?_
  refine mg_iconst C (x := nI 0) rfl dX12_sortedAt_177 ?_
  refine mg_iload C 0 rfl dX12_sortedAt_178 ?_
  refine mg_iconst C (x := nI 1) rfl dX12_sortedAt_180 ?_
  refine mg_isub C dX12_sortedAt_181 ?_
  refine mg_cast ((-1)) (by decide) ?_
  refine mg_dosi C (w73_in l v f g x3 h2) mCal_in rfl ⟨by decide, by decide⟩ rfl (Nat.le_of_ble_eq_true rfl) dX12_sortedAt_182 ?_
  refine mg_iconst C (x := nI 1) rfl dX12_sortedAt_185 ?_
  refine mg_iconst C (x := nI 1) rfl dX12_sortedAt_186 ?_
  refine mg_doi C (w2_goes l v f g ) mCal_goes rfl ⟨by decide, by decide⟩ rfl (Nat.le_of_ble_eq_true rfl) dX12_sortedAt_187 ?_
  refine mg_if_eqB C 208 (by decide) dX12_sortedAt_190 (fun c_190 => ?_) (fun c_ => absurd c_ (by decide))
  refine mg_iconst C (x := nI 0) rfl dX12_sortedAt_208 ?_
  exact mg_iret C ⟨rfl, rfl⟩ dX12_sortedAt_209
set_option maxHeartbeats 4000000 in
set_option maxRecDepth 100000 in
theorem w269_sortedAt (l : Launch) (v : Nat → Int32) (f : Nat → Nat → Int32) (g : Nat → Nat → Int64) (n1 : Nat) (x1 x2 : Int32) (h1 : x1 < 0) (h2 : n1 ≤ 2147483647) : mMi l yX12_sortedAt cX12_sortedAt 9 (some .int) 1 23 false [.int x1, .int x2, .int (nI 0), .int (nI n1)] v f g (fun r_ u_ => r_ = (nI 0) ∧ u_ = (upd v 99 (nI 1), f, g)) := by
  intro D cI cJ cZ a sz
  refine mg_body (by decide +kernel) rfl (Nat.le_of_ble_eq_true rfl) ?_
  intro p e s m args below meth c hsz C
  clear hsz
  generalize va_A (mW cI cJ cZ a v f g) sz = A at C ⊢
  refine mg_lv (lv' := [(0, .ref (a 0)), (1, .int x1), (2, .int x2), (3, .int (nI 0)), (4, .int (nI n1))]) rfl ?_
  refine mg_aload_n C (i := 0) rfl 0 rfl dX12_sortedAt_0 ?_
  refine mg_iload_n C (i := 1) rfl 1 rfl dX12_sortedAt_1 ?_
  refine mg_doi C (w101_slotOf l v f g x1 h1) mCal_slotOf rfl ⟨by decide, by decide⟩ rfl (Nat.le_of_ble_eq_true rfl) dX12_sortedAt_2 ?_
  refine mg_istore C (lv' := [(5, .int ((-1))), (0, .ref (a 0)), (1, .int x1), (2, .int x2), (3, .int (nI 0)), (4, .int (nI n1))]) (Nat.le_of_ble_eq_true rfl) rfl dX12_sortedAt_5 ?_
  refine mg_iconst C (x := nI 0) rfl dX12_sortedAt_7 ?_
  refine mg_istore C (lv' := [(6, .int (nI 0)), (5, .int ((-1))), (0, .ref (a 0)), (1, .int x1), (2, .int x2), (3, .int (nI 0)), (4, .int (nI n1))]) (Nat.le_of_ble_eq_true rfl) rfl dX12_sortedAt_8 ?_
  refine mg_aload_n C (i := 0) rfl 2 rfl dX12_sortedAt_10 ?_
  refine mg_iload C 1 rfl dX12_sortedAt_11 ?_
  refine mg_iload_n C (i := 2) rfl 4 rfl dX12_sortedAt_13 ?_
  refine mg_doi C (w251_isAsked l v f g x2) mCal_isAsked rfl ⟨by decide, by decide⟩ rfl (Nat.le_of_ble_eq_true rfl) dX12_sortedAt_14 ?_
  refine mg_if_eqB C 174 (by decide) dX12_sortedAt_17 (fun c_17 => ?_) (fun c_ => absurd c_ (by decide))
  refine mg_aload_n C (i := 0) rfl 2 rfl dX12_sortedAt_174 ?_
  refine mg_iload C 6 rfl dX12_sortedAt_175 ?_
  refine mg_iconst C (x := nI 0) rfl dX12_sortedAt_177 ?_
  refine mg_iload C 0 rfl dX12_sortedAt_178 ?_
  refine mg_iconst C (x := nI 1) rfl dX12_sortedAt_180 ?_
  refine mg_isub C dX12_sortedAt_181 ?_
  refine mg_cast ((-1)) (by decide) ?_
  refine mg_dosi C (w76_in l v f g n1 (by omega)) mCal_in rfl ⟨by decide, by decide⟩ rfl (Nat.le_of_ble_eq_true rfl) dX12_sortedAt_182 ?_
  refine mg_iconst C (x := nI 1) rfl dX12_sortedAt_185 ?_
  refine mg_iconst C (x := nI 1) rfl dX12_sortedAt_186 ?_
  refine mg_doi C (w2_goes l v f g ) mCal_goes rfl ⟨by decide, by decide⟩ rfl (Nat.le_of_ble_eq_true rfl) dX12_sortedAt_187 ?_
  refine mg_if_eqB C 208 (by decide) dX12_sortedAt_190 (fun c_190 => ?_) (fun c_ => absurd c_ (by decide))
  refine mg_iconst C (x := nI 0) rfl dX12_sortedAt_208 ?_
  exact mg_iret C ⟨rfl, rfl⟩ dX12_sortedAt_209
set_option maxHeartbeats 4000000 in
set_option maxRecDepth 100000 in
theorem w270_sortedAt (l : Launch) (v : Nat → Int32) (f : Nat → Nat → Int32) (g : Nat → Nat → Int64) (n1 : Nat) (x1 x2 : Int32) (h1 : n1 ≤ 2147483647) (h2 : x2 < 0) (h3 : f 29 0 = ((-1))) (h4 : f 29 1 = ((-1))) (h5 : f 29 2 = ((-1))) (h6 : f 29 3 = ((-1))) (h7 : f 29 4 = ((-1))) : mMi l yX12_sortedAt cX12_sortedAt 9 (some .int) 1 23 false [.int (nI n1), .int x1, .int (nI 0), .int x2] v f g (fun r_ u_ => r_ = (nI 0) ∧ u_ = (upd v 99 (nI 1), f, g)) := by
  intro D cI cJ cZ a sz
  refine mg_body (by decide +kernel) rfl (Nat.le_of_ble_eq_true rfl) ?_
  intro p e s m args below meth c hsz C
  clear hsz
  generalize va_A (mW cI cJ cZ a v f g) sz = A at C ⊢
  refine mg_lv (lv' := [(0, .ref (a 0)), (1, .int (nI n1)), (2, .int x1), (3, .int (nI 0)), (4, .int x2)]) rfl ?_
  refine mg_aload_n C (i := 0) rfl 0 rfl dX12_sortedAt_0 ?_
  refine mg_iload_n C (i := 1) rfl 1 rfl dX12_sortedAt_1 ?_
  refine mg_doi C (w103_slotOf l v f g n1 (by omega) h3 h4 h5 h6 h7) mCal_slotOf rfl ⟨by decide, by decide⟩ rfl (Nat.le_of_ble_eq_true rfl) dX12_sortedAt_2 ?_
  refine mg_istore C (lv' := [(5, .int ((-1))), (0, .ref (a 0)), (1, .int (nI n1)), (2, .int x1), (3, .int (nI 0)), (4, .int x2)]) (Nat.le_of_ble_eq_true rfl) rfl dX12_sortedAt_5 ?_
  refine mg_iconst C (x := nI 0) rfl dX12_sortedAt_7 ?_
  refine mg_istore C (lv' := [(6, .int (nI 0)), (5, .int ((-1))), (0, .ref (a 0)), (1, .int (nI n1)), (2, .int x1), (3, .int (nI 0)), (4, .int x2)]) (Nat.le_of_ble_eq_true rfl) rfl dX12_sortedAt_8 ?_
  refine mg_aload_n C (i := 0) rfl 2 rfl dX12_sortedAt_10 ?_
  refine mg_iload C 1 rfl dX12_sortedAt_11 ?_
  refine mg_iload_n C (i := 2) rfl 4 rfl dX12_sortedAt_13 ?_
  refine mg_doi C (w251_isAsked l v f g x1) mCal_isAsked rfl ⟨by decide, by decide⟩ rfl (Nat.le_of_ble_eq_true rfl) dX12_sortedAt_14 ?_
  refine mg_if_eqB C 174 (by decide) dX12_sortedAt_17 (fun c_17 => ?_) (fun c_ => absurd c_ (by decide))
  refine mg_aload_n C (i := 0) rfl 2 rfl dX12_sortedAt_174 ?_
  refine mg_iload C 6 rfl dX12_sortedAt_175 ?_
  refine mg_iconst C (x := nI 0) rfl dX12_sortedAt_177 ?_
  refine mg_iload C 0 rfl dX12_sortedAt_178 ?_
  refine mg_iconst C (x := nI 1) rfl dX12_sortedAt_180 ?_
  refine mg_isub C dX12_sortedAt_181 ?_
  refine mg_cast ((-1)) (by decide) ?_
  refine mg_dosi C (w73_in l v f g x2 h2) mCal_in rfl ⟨by decide, by decide⟩ rfl (Nat.le_of_ble_eq_true rfl) dX12_sortedAt_182 ?_
  refine mg_iconst C (x := nI 1) rfl dX12_sortedAt_185 ?_
  refine mg_iconst C (x := nI 1) rfl dX12_sortedAt_186 ?_
  refine mg_doi C (w2_goes l v f g ) mCal_goes rfl ⟨by decide, by decide⟩ rfl (Nat.le_of_ble_eq_true rfl) dX12_sortedAt_187 ?_
  refine mg_if_eqB C 208 (by decide) dX12_sortedAt_190 (fun c_190 => ?_) (fun c_ => absurd c_ (by decide))
  refine mg_iconst C (x := nI 0) rfl dX12_sortedAt_208 ?_
  exact mg_iret C ⟨rfl, rfl⟩ dX12_sortedAt_209
set_option maxHeartbeats 4000000 in
set_option maxRecDepth 100000 in
theorem w271_sortedAt (l : Launch) (v : Nat → Int32) (f : Nat → Nat → Int32) (g : Nat → Nat → Int64) (n1 n2 : Nat) (x1 : Int32) (h1 : n1 ≤ 2147483647) (h2 : n2 ≤ 2147483647) (h3 : f 29 0 = ((-1))) (h4 : f 29 1 = ((-1))) (h5 : f 29 2 = ((-1))) (h6 : f 29 3 = ((-1))) (h7 : f 29 4 = ((-1))) : mMi l yX12_sortedAt cX12_sortedAt 9 (some .int) 1 23 false [.int (nI n1), .int x1, .int (nI 0), .int (nI n2)] v f g (fun r_ u_ => r_ = (nI 0) ∧ u_ = (upd v 99 (nI 1), f, g)) := by
  intro D cI cJ cZ a sz
  refine mg_body (by decide +kernel) rfl (Nat.le_of_ble_eq_true rfl) ?_
  intro p e s m args below meth c hsz C
  clear hsz
  generalize va_A (mW cI cJ cZ a v f g) sz = A at C ⊢
  refine mg_lv (lv' := [(0, .ref (a 0)), (1, .int (nI n1)), (2, .int x1), (3, .int (nI 0)), (4, .int (nI n2))]) rfl ?_
  refine mg_aload_n C (i := 0) rfl 0 rfl dX12_sortedAt_0 ?_
  refine mg_iload_n C (i := 1) rfl 1 rfl dX12_sortedAt_1 ?_
  refine mg_doi C (w103_slotOf l v f g n1 (by omega) h3 h4 h5 h6 h7) mCal_slotOf rfl ⟨by decide, by decide⟩ rfl (Nat.le_of_ble_eq_true rfl) dX12_sortedAt_2 ?_
  refine mg_istore C (lv' := [(5, .int ((-1))), (0, .ref (a 0)), (1, .int (nI n1)), (2, .int x1), (3, .int (nI 0)), (4, .int (nI n2))]) (Nat.le_of_ble_eq_true rfl) rfl dX12_sortedAt_5 ?_
  refine mg_iconst C (x := nI 0) rfl dX12_sortedAt_7 ?_
  refine mg_istore C (lv' := [(6, .int (nI 0)), (5, .int ((-1))), (0, .ref (a 0)), (1, .int (nI n1)), (2, .int x1), (3, .int (nI 0)), (4, .int (nI n2))]) (Nat.le_of_ble_eq_true rfl) rfl dX12_sortedAt_8 ?_
  refine mg_aload_n C (i := 0) rfl 2 rfl dX12_sortedAt_10 ?_
  refine mg_iload C 1 rfl dX12_sortedAt_11 ?_
  refine mg_iload_n C (i := 2) rfl 4 rfl dX12_sortedAt_13 ?_
  refine mg_doi C (w251_isAsked l v f g x1) mCal_isAsked rfl ⟨by decide, by decide⟩ rfl (Nat.le_of_ble_eq_true rfl) dX12_sortedAt_14 ?_
  refine mg_if_eqB C 174 (by decide) dX12_sortedAt_17 (fun c_17 => ?_) (fun c_ => absurd c_ (by decide))
  refine mg_aload_n C (i := 0) rfl 2 rfl dX12_sortedAt_174 ?_
  refine mg_iload C 6 rfl dX12_sortedAt_175 ?_
  refine mg_iconst C (x := nI 0) rfl dX12_sortedAt_177 ?_
  refine mg_iload C 0 rfl dX12_sortedAt_178 ?_
  refine mg_iconst C (x := nI 1) rfl dX12_sortedAt_180 ?_
  refine mg_isub C dX12_sortedAt_181 ?_
  refine mg_cast ((-1)) (by decide) ?_
  refine mg_dosi C (w76_in l v f g n2 (by omega)) mCal_in rfl ⟨by decide, by decide⟩ rfl (Nat.le_of_ble_eq_true rfl) dX12_sortedAt_182 ?_
  refine mg_iconst C (x := nI 1) rfl dX12_sortedAt_185 ?_
  refine mg_iconst C (x := nI 1) rfl dX12_sortedAt_186 ?_
  refine mg_doi C (w2_goes l v f g ) mCal_goes rfl ⟨by decide, by decide⟩ rfl (Nat.le_of_ble_eq_true rfl) dX12_sortedAt_187 ?_
  refine mg_if_eqB C 208 (by decide) dX12_sortedAt_190 (fun c_190 => ?_) (fun c_ => absurd c_ (by decide))
  refine mg_iconst C (x := nI 0) rfl dX12_sortedAt_208 ?_
  exact mg_iret C ⟨rfl, rfl⟩ dX12_sortedAt_209
set_option maxHeartbeats 4000000 in
set_option maxRecDepth 100000 in
theorem w272_passagesOf (l : Launch) (v : Nat → Int32) (f : Nat → Nat → Int32) (g : Nat → Nat → Int64) (x1 x2 x3 x4 : Int32) (h1 : x1 < 0) : mMi l yX12_passagesOf cX12_passagesOf 7 (some .int) 1 23 false [.int x1, .int x2, .int x3, .int x4] v f g (fun r_ u_ => r_ = ((-1)) ∧ u_ = (v, f, g)) := by
  intro D cI cJ cZ a sz
  refine mg_body (by decide +kernel) rfl (Nat.le_of_ble_eq_true rfl) ?_
  intro p e s m args below meth c hsz C
  clear hsz
  generalize va_A (mW cI cJ cZ a v f g) sz = A at C ⊢
  refine mg_lv (lv' := [(0, .ref (a 0)), (1, .int x1), (2, .int x2), (3, .int x3), (4, .int x4)]) rfl ?_
  refine mg_aload_n C (i := 0) rfl 0 rfl dX12_passagesOf_0 ?_
  refine mg_iload_n C (i := 1) rfl 1 rfl dX12_passagesOf_1 ?_
  refine mg_doi C (w101_slotOf l v f g x1 h1) mCal_slotOf rfl ⟨by decide, by decide⟩ rfl (Nat.le_of_ble_eq_true rfl) dX12_passagesOf_2 ?_
  refine mg_istore C (lv' := [(5, .int ((-1))), (0, .ref (a 0)), (1, .int x1), (2, .int x2), (3, .int x3), (4, .int x4)]) (Nat.le_of_ble_eq_true rfl) rfl dX12_passagesOf_5 ?_
  refine mg_aload_n C (i := 0) rfl 1 rfl dX12_passagesOf_7 ?_
  refine mg_iload C 0 rfl dX12_passagesOf_8 ?_
  refine mg_iload_n C (i := 2) rfl 3 rfl dX12_passagesOf_10 ?_
  refine mg_doi C (w251_isAsked l v f g x2) mCal_isAsked rfl ⟨by decide, by decide⟩ rfl (Nat.le_of_ble_eq_true rfl) dX12_passagesOf_11 ?_
  refine mg_if_eqB C 33 (by decide) dX12_passagesOf_14 (fun c_14 => ?_) (fun c_ => absurd c_ (by decide))
  refine mg_iconst C (x := (-1)) rfl dX12_passagesOf_33 ?_
  exact mg_iret C ⟨rfl, rfl⟩ dX12_passagesOf_34
set_option maxHeartbeats 4000000 in
set_option maxRecDepth 100000 in
theorem w273_passages (l : Launch) (v : Nat → Int32) (f : Nat → Nat → Int32) (g : Nat → Nat → Int64) (x1 x2 x3 x4 : Int32) (h1 : x1 < 0) : mMi l yX12_passages cX12_passages 6 (some .int) 2 49 false [.int x1, .int x2, .int x3, .int x4] v f g (fun r_ u_ => r_ = (nI 0) ∧ u_ = (upd v 99 (nI 1), f, g)) := by
  intro D cI cJ cZ a sz
  refine mg_body (by decide +kernel) rfl (Nat.le_of_ble_eq_true rfl) ?_
  intro p e s m args below meth c hsz C
  clear hsz
  generalize va_A (mW cI cJ cZ a v f g) sz = A at C ⊢
  refine mg_lv (lv' := [(0, .ref (a 0)), (1, .int x1), (2, .int x2), (3, .int x3), (4, .int x4)]) rfl ?_
  refine mg_aload_n C (i := 0) rfl 0 rfl dX12_passages_0 ?_
  refine mg_iload_n C (i := 1) rfl 1 rfl dX12_passages_1 ?_
  refine mg_iload_n C (i := 2) rfl 2 rfl dX12_passages_2 ?_
  refine mg_iload_n C (i := 3) rfl 3 rfl dX12_passages_3 ?_
  refine mg_iload C 4 rfl dX12_passages_4 ?_
  refine mg_doi C (w272_passagesOf l v f g x1 x2 x3 x4 h1) mCal_passagesOf rfl ⟨by decide, by decide⟩ rfl (Nat.le_of_ble_eq_true rfl) dX12_passages_6 ?_
  refine mg_istore C (lv' := [(5, .int ((-1))), (0, .ref (a 0)), (1, .int x1), (2, .int x2), (3, .int x3), (4, .int x4)]) (Nat.le_of_ble_eq_true rfl) rfl dX12_passages_9 ?_
  refine mg_aload_n C (i := 0) rfl 1 rfl dX12_passages_11 ?_
  refine mg_iload C 0 rfl dX12_passages_12 ?_
  refine mg_iconst C (x := (-1)) rfl dX12_passages_14 ?_
  refine mg_icmp_eq C 22 (by decide) dX12_passages_15 (fun c_15 => ?_) (fun c_ => absurd c_ (by decide))
  refine mg_iconst C (x := nI 0) rfl dX12_passages_22 ?_
  refine mg_iconst C (x := nI 1) rfl dX12_passages_23 ?_
  refine mg_iconst C (x := nI 1) rfl dX12_passages_24 ?_
  refine mg_doi C (w13_goes l v f g ) mCal_goes rfl ⟨by decide, by decide⟩ rfl (Nat.le_of_ble_eq_true rfl) dX12_passages_25 ?_
  refine mg_if_eqB C 36 (by decide) dX12_passages_28 (fun c_28 => ?_) (fun c_ => absurd c_ (by decide))
  refine mg_iconst C (x := nI 0) rfl dX12_passages_36 ?_
  exact mg_iret C ⟨rfl, rfl⟩ dX12_passages_37
set_option maxHeartbeats 4000000 in
set_option maxRecDepth 100000 in
theorem w274_passagesOf (l : Launch) (v : Nat → Int32) (f : Nat → Nat → Int32) (g : Nat → Nat → Int64) (n1 : Nat) (x1 x2 x3 : Int32) (h1 : n1 ≤ 2147483647) (h2 : f 29 0 = ((-1))) (h3 : f 29 1 = ((-1))) (h4 : f 29 2 = ((-1))) (h5 : f 29 3 = ((-1))) (h6 : f 29 4 = ((-1))) : mMi l yX12_passagesOf cX12_passagesOf 7 (some .int) 1 23 false [.int (nI n1), .int x1, .int x2, .int x3] v f g (fun r_ u_ => r_ = ((-1)) ∧ u_ = (v, f, g)) := by
  intro D cI cJ cZ a sz
  refine mg_body (by decide +kernel) rfl (Nat.le_of_ble_eq_true rfl) ?_
  intro p e s m args below meth c hsz C
  clear hsz
  generalize va_A (mW cI cJ cZ a v f g) sz = A at C ⊢
  refine mg_lv (lv' := [(0, .ref (a 0)), (1, .int (nI n1)), (2, .int x1), (3, .int x2), (4, .int x3)]) rfl ?_
  refine mg_aload_n C (i := 0) rfl 0 rfl dX12_passagesOf_0 ?_
  refine mg_iload_n C (i := 1) rfl 1 rfl dX12_passagesOf_1 ?_
  refine mg_doi C (w103_slotOf l v f g n1 (by omega) h2 h3 h4 h5 h6) mCal_slotOf rfl ⟨by decide, by decide⟩ rfl (Nat.le_of_ble_eq_true rfl) dX12_passagesOf_2 ?_
  refine mg_istore C (lv' := [(5, .int ((-1))), (0, .ref (a 0)), (1, .int (nI n1)), (2, .int x1), (3, .int x2), (4, .int x3)]) (Nat.le_of_ble_eq_true rfl) rfl dX12_passagesOf_5 ?_
  refine mg_aload_n C (i := 0) rfl 1 rfl dX12_passagesOf_7 ?_
  refine mg_iload C 0 rfl dX12_passagesOf_8 ?_
  refine mg_iload_n C (i := 2) rfl 3 rfl dX12_passagesOf_10 ?_
  refine mg_doi C (w251_isAsked l v f g x1) mCal_isAsked rfl ⟨by decide, by decide⟩ rfl (Nat.le_of_ble_eq_true rfl) dX12_passagesOf_11 ?_
  refine mg_if_eqB C 33 (by decide) dX12_passagesOf_14 (fun c_14 => ?_) (fun c_ => absurd c_ (by decide))
  refine mg_iconst C (x := (-1)) rfl dX12_passagesOf_33 ?_
  exact mg_iret C ⟨rfl, rfl⟩ dX12_passagesOf_34
set_option maxHeartbeats 4000000 in
set_option maxRecDepth 100000 in
theorem w275_passages (l : Launch) (v : Nat → Int32) (f : Nat → Nat → Int32) (g : Nat → Nat → Int64) (n1 : Nat) (x1 x2 x3 : Int32) (h1 : n1 ≤ 2147483647) (h2 : f 29 0 = ((-1))) (h3 : f 29 1 = ((-1))) (h4 : f 29 2 = ((-1))) (h5 : f 29 3 = ((-1))) (h6 : f 29 4 = ((-1))) : mMi l yX12_passages cX12_passages 6 (some .int) 2 49 false [.int (nI n1), .int x1, .int x2, .int x3] v f g (fun r_ u_ => r_ = (nI 0) ∧ u_ = (upd v 99 (nI 1), f, g)) := by
  intro D cI cJ cZ a sz
  refine mg_body (by decide +kernel) rfl (Nat.le_of_ble_eq_true rfl) ?_
  intro p e s m args below meth c hsz C
  clear hsz
  generalize va_A (mW cI cJ cZ a v f g) sz = A at C ⊢
  refine mg_lv (lv' := [(0, .ref (a 0)), (1, .int (nI n1)), (2, .int x1), (3, .int x2), (4, .int x3)]) rfl ?_
  refine mg_aload_n C (i := 0) rfl 0 rfl dX12_passages_0 ?_
  refine mg_iload_n C (i := 1) rfl 1 rfl dX12_passages_1 ?_
  refine mg_iload_n C (i := 2) rfl 2 rfl dX12_passages_2 ?_
  refine mg_iload_n C (i := 3) rfl 3 rfl dX12_passages_3 ?_
  refine mg_iload C 4 rfl dX12_passages_4 ?_
  refine mg_doi C (w274_passagesOf l v f g n1 x1 x2 x3 (by omega) h2 h3 h4 h5 h6) mCal_passagesOf rfl ⟨by decide, by decide⟩ rfl (Nat.le_of_ble_eq_true rfl) dX12_passages_6 ?_
  refine mg_istore C (lv' := [(5, .int ((-1))), (0, .ref (a 0)), (1, .int (nI n1)), (2, .int x1), (3, .int x2), (4, .int x3)]) (Nat.le_of_ble_eq_true rfl) rfl dX12_passages_9 ?_
  refine mg_aload_n C (i := 0) rfl 1 rfl dX12_passages_11 ?_
  refine mg_iload C 0 rfl dX12_passages_12 ?_
  refine mg_iconst C (x := (-1)) rfl dX12_passages_14 ?_
  refine mg_icmp_eq C 22 (by decide) dX12_passages_15 (fun c_15 => ?_) (fun c_ => absurd c_ (by decide))
  refine mg_iconst C (x := nI 0) rfl dX12_passages_22 ?_
  refine mg_iconst C (x := nI 1) rfl dX12_passages_23 ?_
  refine mg_iconst C (x := nI 1) rfl dX12_passages_24 ?_
  refine mg_doi C (w13_goes l v f g ) mCal_goes rfl ⟨by decide, by decide⟩ rfl (Nat.le_of_ble_eq_true rfl) dX12_passages_25 ?_
  refine mg_if_eqB C 36 (by decide) dX12_passages_28 (fun c_28 => ?_) (fun c_ => absurd c_ (by decide))
  refine mg_iconst C (x := nI 0) rfl dX12_passages_36 ?_
  exact mg_iret C ⟨rfl, rfl⟩ dX12_passages_37
set_option maxHeartbeats 4000000 in
set_option maxRecDepth 100000 in
theorem w276_passageAt (l : Launch) (v : Nat → Int32) (f : Nat → Nat → Int32) (g : Nat → Nat → Int64) (x1 x2 x3 x4 x5 : Int32) (h1 : x1 < 0) : mMi l yX12_passageAt cX12_passageAt 7 (some .int) 2 49 false [.int x1, .int x2, .int x3, .int x4, .int x5] v f g (fun r_ u_ => r_ = (nI 0) ∧ u_ = (upd v 99 (nI 1), f, g)) := by
  intro D cI cJ cZ a sz
  refine mg_body (by decide +kernel) rfl (Nat.le_of_ble_eq_true rfl) ?_
  intro p e s m args below meth c hsz C
  clear hsz
  generalize va_A (mW cI cJ cZ a v f g) sz = A at C ⊢
  refine mg_lv (lv' := [(0, .ref (a 0)), (1, .int x1), (2, .int x2), (3, .int x3), (4, .int x4), (5, .int x5)]) rfl ?_
  refine mg_aload_n C (i := 0) rfl 0 rfl dX12_passageAt_0 ?_
  refine mg_iload_n C (i := 1) rfl 1 rfl dX12_passageAt_1 ?_
  refine mg_iload_n C (i := 2) rfl 2 rfl dX12_passageAt_2 ?_
  refine mg_iload_n C (i := 3) rfl 3 rfl dX12_passageAt_3 ?_
  refine mg_iload C 4 rfl dX12_passageAt_4 ?_
  refine mg_doi C (w272_passagesOf l v f g x1 x2 x3 x4 h1) mCal_passagesOf rfl ⟨by decide, by decide⟩ rfl (Nat.le_of_ble_eq_true rfl) dX12_passageAt_6 ?_
  refine mg_istore C (lv' := [(6, .int ((-1))), (0, .ref (a 0)), (1, .int x1), (2, .int x2), (3, .int x3), (4, .int x4), (5, .int x5)]) (Nat.le_of_ble_eq_true rfl) rfl dX12_passageAt_9 ?_
  refine mg_aload_n C (i := 0) rfl 1 rfl dX12_passageAt_11 ?_
  refine mg_iload C 0 rfl dX12_passageAt_12 ?_
  refine mg_iconst C (x := (-1)) rfl dX12_passageAt_14 ?_
  refine mg_icmp_eq C 22 (by decide) dX12_passageAt_15 (fun c_15 => ?_) (fun c_ => absurd c_ (by decide))
  refine mg_iconst C (x := nI 0) rfl dX12_passageAt_22 ?_
  refine mg_iconst C (x := nI 1) rfl dX12_passageAt_23 ?_
  refine mg_iconst C (x := nI 1) rfl dX12_passageAt_24 ?_
  refine mg_doi C (w13_goes l v f g ) mCal_goes rfl ⟨by decide, by decide⟩ rfl (Nat.le_of_ble_eq_true rfl) dX12_passageAt_25 ?_
  refine mg_if_neB C 33 (by decide) dX12_passageAt_28 (fun c_ => absurd c_ (by decide)) (fun c_28 => ?_)
  refine mg_iconst C (x := nI 0) rfl dX12_passageAt_31 ?_
  exact mg_iret C ⟨rfl, rfl⟩ dX12_passageAt_32
set_option maxHeartbeats 4000000 in
set_option maxRecDepth 100000 in
theorem w277_passageAt (l : Launch) (v : Nat → Int32) (f : Nat → Nat → Int32) (g : Nat → Nat → Int64) (n1 : Nat) (x1 x2 x3 x4 : Int32) (h1 : n1 ≤ 2147483647) (h2 : f 29 0 = ((-1))) (h3 : f 29 1 = ((-1))) (h4 : f 29 2 = ((-1))) (h5 : f 29 3 = ((-1))) (h6 : f 29 4 = ((-1))) : mMi l yX12_passageAt cX12_passageAt 7 (some .int) 2 49 false [.int (nI n1), .int x1, .int x2, .int x3, .int x4] v f g (fun r_ u_ => r_ = (nI 0) ∧ u_ = (upd v 99 (nI 1), f, g)) := by
  intro D cI cJ cZ a sz
  refine mg_body (by decide +kernel) rfl (Nat.le_of_ble_eq_true rfl) ?_
  intro p e s m args below meth c hsz C
  clear hsz
  generalize va_A (mW cI cJ cZ a v f g) sz = A at C ⊢
  refine mg_lv (lv' := [(0, .ref (a 0)), (1, .int (nI n1)), (2, .int x1), (3, .int x2), (4, .int x3), (5, .int x4)]) rfl ?_
  refine mg_aload_n C (i := 0) rfl 0 rfl dX12_passageAt_0 ?_
  refine mg_iload_n C (i := 1) rfl 1 rfl dX12_passageAt_1 ?_
  refine mg_iload_n C (i := 2) rfl 2 rfl dX12_passageAt_2 ?_
  refine mg_iload_n C (i := 3) rfl 3 rfl dX12_passageAt_3 ?_
  refine mg_iload C 4 rfl dX12_passageAt_4 ?_
  refine mg_doi C (w274_passagesOf l v f g n1 x1 x2 x3 (by omega) h2 h3 h4 h5 h6) mCal_passagesOf rfl ⟨by decide, by decide⟩ rfl (Nat.le_of_ble_eq_true rfl) dX12_passageAt_6 ?_
  refine mg_istore C (lv' := [(6, .int ((-1))), (0, .ref (a 0)), (1, .int (nI n1)), (2, .int x1), (3, .int x2), (4, .int x3), (5, .int x4)]) (Nat.le_of_ble_eq_true rfl) rfl dX12_passageAt_9 ?_
  refine mg_aload_n C (i := 0) rfl 1 rfl dX12_passageAt_11 ?_
  refine mg_iload C 0 rfl dX12_passageAt_12 ?_
  refine mg_iconst C (x := (-1)) rfl dX12_passageAt_14 ?_
  refine mg_icmp_eq C 22 (by decide) dX12_passageAt_15 (fun c_15 => ?_) (fun c_ => absurd c_ (by decide))
  refine mg_iconst C (x := nI 0) rfl dX12_passageAt_22 ?_
  refine mg_iconst C (x := nI 1) rfl dX12_passageAt_23 ?_
  refine mg_iconst C (x := nI 1) rfl dX12_passageAt_24 ?_
  refine mg_doi C (w13_goes l v f g ) mCal_goes rfl ⟨by decide, by decide⟩ rfl (Nat.le_of_ble_eq_true rfl) dX12_passageAt_25 ?_
  refine mg_if_neB C 33 (by decide) dX12_passageAt_28 (fun c_ => absurd c_ (by decide)) (fun c_28 => ?_)
  refine mg_iconst C (x := nI 0) rfl dX12_passageAt_31 ?_
  exact mg_iret C ⟨rfl, rfl⟩ dX12_passageAt_32
