/-! the class: Text made and read; plain reads -/
set_option maxHeartbeats 4000000 in
set_option maxRecDepth 100000 in
theorem k_X9_init (l : Launch) (S : cS) (a : Nat) (ha : a ∈ cL S) (hk : cK S a = 9) : cMet (cQv (fun u_ => ∃ q1 q2 q3, q1 ∉ cL S ∧ q2 ∉ cL (cNewA S q1 14 40) ∧ q3 ∉ cL (cNewA (cNewA S q1 14 40) q2 15 0) ∧ u_ = cSi (cSr (cNewA (cSr (cNewA (cSi (cSr (cNewA S q1 14 40) 288 a (some q1)) 289 a (nI 0)) q2 15 0) 290 a (some q2)) q3 14 0) 291 a (some q3)) 292 a (nI 0))) l yX9_init cX9_init 1 none 1 3 40 32 [.ref a] S := by
  intro D Y tp dp sz
  refine cg_bodyI (by decide +kernel) (Nat.le_of_ble_eq_true rfl) ?_
  intro p e s m args below meth c C hin
  generalize va_A (cWd Y S) sz = A at C ⊢
  have C : cC p s m args meth c cX9_init 1 none A D Y tp dp RX9 := C
  refine cg_lv (lv' := [(0, .ref a)]) rfl ?_
  refine cg_aload_n C (i := 0) rfl 0 rfl dX9_init_0 ?_
  refine cg_objInit C co_X9_3 co_i co_c (by decide) (Nat.le_of_ble_eq_true rfl) dX9_init_1 ?_
  refine cg_aload_n C (i := 0) rfl 0 rfl dX9_init_4 ?_
  refine cg_bipush C (x := nI 40) rfl dX9_init_5 ?_
  refine cg_newI C 40 (by decide) ca_int (by decide) (by decide) dX9_init_7 (fun q7 hf_q7 => ?_)
  refine cg_putrF C (k := 9) (j := 0) (x := some q7) (ty := tyX9) (fty := tyX9 0) (cm_A ha) (ck_A (cm_ne ha hf_q7) hk) (by decide) rfl (by decide) rfl (by decide) rfl cWs_wsX90 tyX9_ok nmX9 cl_X9_9 rfl rfl hin rfl rfl rfl rfl dX9_init_9 ?_
  refine cg_aload_n C (i := 0) rfl 0 rfl dX9_init_12 ?_
  refine cg_iconst C (x := nI 0) rfl dX9_init_13 ?_
  refine cg_puti C (k := 9) (j := 1) (ty := tyX9) (fty := .int) (cm_A ha) (ck_A (cm_ne ha hf_q7) hk) (by decide) rfl (by decide) rfl (by decide) rfl cWs_wsX90 tyX9_ok nmX9 cl_X9_15 rfl rfl rfl rfl rfl dX9_init_14 ?_
  refine cg_aload_n C (i := 0) rfl 0 rfl dX9_init_17 ?_
  refine cg_iconst C (x := nI 0) rfl dX9_init_18 ?_
  refine cg_newJ C 0 (by decide) ca_long (by decide) (by decide) dX9_init_19 (fun q19 hf_q19 => ?_)
  refine cg_putr C (k := 9) (j := 2) (x := some q19) (ty := tyX9) (fty := tyX9 2) (cm_A (cm_A ha)) (ck_A (cm_ne (cm_A ha) hf_q19) (ck_A (cm_ne ha hf_q7) hk)) (by decide) rfl (by decide) rfl (by decide) rfl cWs_wsX90 tyX9_ok nmX9 cl_X9_19 rfl rfl rfl rfl rfl dX9_init_21 ?_
  refine cg_aload_n C (i := 0) rfl 0 rfl dX9_init_24 ?_
  refine cg_iconst C (x := nI 0) rfl dX9_init_25 ?_
  refine cg_newI C 0 (by decide) ca_int (by decide) (by decide) dX9_init_26 (fun q26 hf_q26 => ?_)
  refine cg_putr C (k := 9) (j := 3) (x := some q26) (ty := tyX9) (fty := tyX9 3) (cm_A (cm_A (cm_A ha))) (ck_A (cm_ne (cm_A (cm_A ha)) hf_q26) (ck_A (cm_ne (cm_A ha) hf_q19) (ck_A (cm_ne ha hf_q7) hk))) (by decide) rfl (by decide) rfl (by decide) rfl cWs_wsX90 tyX9_ok nmX9 cl_X9_23 rfl rfl rfl rfl rfl dX9_init_28 ?_
  refine cg_aload_n C (i := 0) rfl 0 rfl dX9_init_31 ?_
  refine cg_iconst C (x := nI 0) rfl dX9_init_32 ?_
  refine cg_puti C (k := 9) (j := 4) (ty := tyX9) (fty := .int) (cm_A (cm_A (cm_A ha))) (ck_A (cm_ne (cm_A (cm_A ha)) hf_q26) (ck_A (cm_ne (cm_A ha) hf_q19) (ck_A (cm_ne ha hf_q7) hk))) (by decide) rfl (by decide) rfl (by decide) rfl cWs_wsX90 tyX9_ok nmX9 cl_X9_26 rfl rfl rfl rfl rfl dX9_init_33 ?_
  exact cg_vret C ⟨q7, q19, q26, hf_q7, hf_q19, hf_q26, rfl⟩ dX9_init_36 (by decide) (by decide)
set_option maxHeartbeats 4000000 in
set_option maxRecDepth 100000 in
theorem k_X9_putSign (l : Launch) (S : cS) (a : Nat) (x : Nat) (bs : Nat) (n : Nat) (ha : a ∈ cL S) (hk : cK S a = 9) (hsr : cr S 288 a = some bs) (hsc : ci S 289 a = nI n) (hbs : bs ∈ cL S) (hbk : cK S bs = 14) (hbl : cn S bs = 40) (hn : n ≤ 40) (hx : x < 65536) : cMet (cQi (fun r_ u_ => r_ = nI (if n < 40 then n + 1 else n) ∧ u_ = if n < 40 then cSi (cSI S bs n (nI x)) 289 a (nI (n + 1)) else S)) l yX9_putSign cX9_putSign 2 (some .int) 0 0 0 0 [.ref a, .int (nI x)] S := by
  intro D Y tp dp sz
  refine cg_body (by decide +kernel) (Nat.le_of_ble_eq_true rfl) ?_
  intro p e s m args below meth c C
  generalize va_A (cWd Y S) sz = A at C ⊢
  have C : cC p s m args meth c cX9_putSign 2 (some .int) A D Y tp dp RX9 := C
  refine cg_lv (lv' := [(0, .ref a), (1, .int (nI x))]) rfl ?_
  refine cg_aload_n C (i := 0) rfl 0 rfl dX9_putSign_0 ?_
  refine cg_get C (k := 9) (j := 1) (.int (nI n)) ha hk (by decide) rfl (by decide) rfl (show cV _ 9 1 a = _ from congrArg Value.int hsc) cWs_wsX90 cl_X9_15 rfl dX9_putSign_1 ?_
  refine cg_aload_n C (i := 0) rfl 0 rfl dX9_putSign_4 ?_
  refine cg_get C (k := 9) (j := 0) (.ref bs) ha hk (by decide) rfl (by decide) rfl (show cV _ 9 0 a = _ from congrArg va_rf hsr) cWs_wsX90 cl_X9_9 rfl dX9_putSign_5 ?_
  refine cg_alen C hbs hbk (by decide) (by decide) dX9_putSign_8 ?_
  refine cg_cast (.int (nI 40)) (congrArg Value.int (congrArg nI hbl)) ?_
  refine cg_icmp_geN C (by omega) (by omega) 32 (by decide) dX9_putSign_9 (fun c_9 => ?_) (fun c_9 => ?_)
  · refine cg_aload_n C (i := 0) rfl 0 rfl dX9_putSign_32 ?_
    refine cg_get C (k := 9) (j := 1) (.int (nI n)) ha hk (by decide) rfl (by decide) rfl (show cV _ 9 1 a = _ from congrArg Value.int hsc) cWs_wsX90 cl_X9_15 rfl dX9_putSign_33 ?_
    exact cg_iret C (by first | exact ⟨by rw [if_pos (by omega)], by rw [if_pos (by omega)]⟩ | exact ⟨by rw [if_neg (by omega)], by rw [if_neg (by omega)]⟩) dX9_putSign_36 (by decide) (by decide)
  · refine cg_aload_n C (i := 0) rfl 0 rfl dX9_putSign_12 ?_
    refine cg_get C (k := 9) (j := 0) (.ref bs) ha hk (by decide) rfl (by decide) rfl (show cV _ 9 0 a = _ from congrArg va_rf hsr) cWs_wsX90 cl_X9_9 rfl dX9_putSign_13 ?_
    refine cg_aload_n C (i := 0) rfl 0 rfl dX9_putSign_16 ?_
    refine cg_get C (k := 9) (j := 1) (.int (nI n)) ha hk (by decide) rfl (by decide) rfl (show cV _ 9 1 a = _ from congrArg Value.int hsc) cWs_wsX90 cl_X9_15 rfl dX9_putSign_17 ?_
    refine cg_iload_n C (i := 1) rfl 1 rfl dX9_putSign_20 ?_
    refine cg_iastore C n hbs hbk (by rw [show cn _ _ = 40 from hbl]; exact (by omega)) (by rw [show cn _ _ = 40 from hbl]; exact (by omega)) dX9_putSign_21 ?_
    refine cg_aload_n C (i := 0) rfl 0 rfl dX9_putSign_22 ?_
    refine cg_dup C rfl dX9_putSign_23 ?_
    refine cg_get C (k := 9) (j := 1) (.int (nI n)) ha hk (by decide) rfl (by decide) rfl (show cV _ 9 1 a = _ from congrArg Value.int hsc) cWs_wsX90 cl_X9_15 rfl dX9_putSign_24 ?_
    refine cg_iconst C (x := nI 1) rfl dX9_putSign_27 ?_
    refine cg_iaddN C dX9_putSign_28 ?_
    refine cg_puti C (k := 9) (j := 1) (ty := tyX9) (fty := .int) ha hk (by decide) rfl (by decide) rfl (by decide) rfl cWs_wsX90 tyX9_ok nmX9 cl_X9_15 rfl rfl rfl rfl rfl dX9_putSign_29 ?_
    refine cg_aload_n C (i := 0) rfl 0 rfl dX9_putSign_32 ?_
    refine cg_get C (k := 9) (j := 1) (.int (nI (n + 1))) ha hk (by decide) rfl (by decide) rfl (show cV _ 9 1 a = _ from congrArg Value.int ci_s) cWs_wsX90 cl_X9_15 rfl dX9_putSign_33 ?_
    exact cg_iret C (by first | exact ⟨by rw [if_pos (by omega)], by rw [if_pos (by omega)]⟩ | exact ⟨by rw [if_neg (by omega)], by rw [if_neg (by omega)]⟩) dX9_putSign_36 (by decide) (by decide)
set_option maxHeartbeats 4000000 in
set_option maxRecDepth 100000 in
theorem k_X9_signOf (l : Launch) (S : cS) (a : Nat) (k : Nat) (bs : Nat) (n : Nat) (ha : a ∈ cL S) (hk : cK S a = 9) (hsr : cr S 288 a = some bs) (hsc : ci S 289 a = nI n) (hbs : bs ∈ cL S) (hbk : cK S bs = 14) (hbl : cn S bs = 40) (hn : n ≤ 40) (hk2 : k < 2 ^ 31) : cMet (cQi (fun r_ u_ => r_ = (if k < n then cI S bs k else nI 32) ∧ u_ = S)) l yX9_signOf cX9_signOf 2 (some .int) 0 0 0 0 [.ref a, .int (nI k)] S := by
  intro D Y tp dp sz
  refine cg_body (by decide +kernel) (Nat.le_of_ble_eq_true rfl) ?_
  intro p e s m args below meth c C
  generalize va_A (cWd Y S) sz = A at C ⊢
  have C : cC p s m args meth c cX9_signOf 2 (some .int) A D Y tp dp RX9 := C
  refine cg_lv (lv' := [(0, .ref a), (1, .int (nI k))]) rfl ?_
  refine cg_iload_n C (i := 1) rfl 1 rfl dX9_signOf_0 ?_
  refine cg_if_ltN C (by omega) 21 (by decide) dX9_signOf_1 ?_
  refine cg_iload_n C (i := 1) rfl 1 rfl dX9_signOf_4 ?_
  refine cg_aload_n C (i := 0) rfl 0 rfl dX9_signOf_5 ?_
  refine cg_get C (k := 9) (j := 1) (.int (nI n)) ha hk (by decide) rfl (by decide) rfl (show cV _ 9 1 a = _ from congrArg Value.int hsc) cWs_wsX90 cl_X9_15 rfl dX9_signOf_6 ?_
  refine cg_icmp_geN C (by omega) (by omega) 21 (by decide) dX9_signOf_9 (fun c_9 => ?_) (fun c_9 => ?_)
  · refine cg_bipush C (x := nI 32) rfl dX9_signOf_21 ?_
    refine cg_goto C 32 (by decide) dX9_signOf_23 ?_
    exact cg_iret C (by first | exact ⟨(if_pos (by omega)).symm, rfl⟩ | exact ⟨(if_neg (by omega)).symm, rfl⟩) dX9_signOf_32 (by decide) (by decide)
  · refine cg_iload_n C (i := 1) rfl 1 rfl dX9_signOf_12 ?_
    refine cg_aload_n C (i := 0) rfl 0 rfl dX9_signOf_13 ?_
    refine cg_get C (k := 9) (j := 0) (.ref bs) ha hk (by decide) rfl (by decide) rfl (show cV _ 9 0 a = _ from congrArg va_rf hsr) cWs_wsX90 cl_X9_9 rfl dX9_signOf_14 ?_
    refine cg_alen C hbs hbk (by decide) (by decide) dX9_signOf_17 ?_
    refine cg_cast (.int (nI 40)) (congrArg Value.int (congrArg nI hbl)) ?_
    refine cg_icmp_ltN C (by omega) (by omega) 26 (by decide) dX9_signOf_18 (fun c_18 => ?_) (fun c_18 => ?_)
    · refine cg_aload_n C (i := 0) rfl 0 rfl dX9_signOf_26 ?_
      refine cg_get C (k := 9) (j := 0) (.ref bs) ha hk (by decide) rfl (by decide) rfl (show cV _ 9 0 a = _ from congrArg va_rf hsr) cWs_wsX90 cl_X9_9 rfl dX9_signOf_27 ?_
      refine cg_iload_n C (i := 1) rfl 1 rfl dX9_signOf_30 ?_
      refine cg_iaload C k hbs hbk (by rw [show cn _ _ = 40 from hbl]; exact (by omega)) (by rw [show cn _ _ = 40 from hbl]; exact (by omega)) dX9_signOf_31 ?_
      exact cg_iret C (by first | exact ⟨(if_pos (by omega)).symm, rfl⟩ | exact ⟨(if_neg (by omega)).symm, rfl⟩) dX9_signOf_32 (by decide) (by decide)
    · refine cg_bipush C (x := nI 32) rfl dX9_signOf_21 ?_
      refine cg_goto C 32 (by decide) dX9_signOf_23 ?_
      exact cg_iret C (by first | exact ⟨(if_pos (by omega)).symm, rfl⟩ | exact ⟨(if_neg (by omega)).symm, rfl⟩) dX9_signOf_32 (by decide) (by decide)
set_option maxHeartbeats 4000000 in
set_option maxRecDepth 100000 in
theorem k_X11_writes (l : Launch) (S : cS) (a : Nat) (ha : a ∈ cL S) (hk : cK S a = 11) : cMet (cQi (fun r_ u_ => r_ = ci S 368 a ∧ u_ = S)) l yX11_writes cX11_writes 1 (some .int) 0 0 0 0 [.ref a] S := by
  intro D Y tp dp sz
  refine cg_body (by decide +kernel) (Nat.le_of_ble_eq_true rfl) ?_
  intro p e s m args below meth c C
  generalize va_A (cWd Y S) sz = A at C ⊢
  have C : cC p s m args meth c cX11_writes 1 (some .int) A D Y tp dp RX11 := C
  refine cg_lv (lv' := [(0, .ref a)]) rfl ?_
  refine cg_aload_n C (i := 0) rfl 0 rfl dX11_writes_0 ?_
  refine cg_get C (k := 11) (j := 16) (.int (ci S 368 a)) ha hk (by decide) rfl (by decide) rfl (show cV _ 11 16 a = _ from congrArg Value.int rfl) cWs_wsX110 cl_X11_90 rfl dX11_writes_1 ?_
  exact cg_iret C ⟨by first | rfl | simp_all, rfl⟩ dX11_writes_4 (by decide) (by decide)
set_option maxHeartbeats 4000000 in
set_option maxRecDepth 100000 in
theorem k_X11_isDown (l : Launch) (S : cS) (a : Nat) (ha : a ∈ cL S) (hk : cK S a = 11) (b : Bool) (hb : ci S 370 a = bI b) : cMet (cQi (fun r_ u_ => r_ = bI b ∧ u_ = S)) l yX11_isDown cX11_isDown 1 (some .boolean) 0 0 0 0 [.ref a] S := by
  intro D Y tp dp sz
  refine cg_body (by decide +kernel) (Nat.le_of_ble_eq_true rfl) ?_
  intro p e s m args below meth c C
  generalize va_A (cWd Y S) sz = A at C ⊢
  have C : cC p s m args meth c cX11_isDown 1 (some .boolean) A D Y tp dp RX11 := C
  refine cg_lv (lv' := [(0, .ref a)]) rfl ?_
  refine cg_aload_n C (i := 0) rfl 0 rfl dX11_isDown_0 ?_
  refine cg_get C (k := 11) (j := 18) (.int (bI b)) ha hk (by decide) rfl (by decide) rfl (show cV _ 11 18 a = _ from congrArg Value.int hb) cWs_wsX110 cl_X11_96 rfl dX11_isDown_1 ?_
  exact cg_zret C (bI_nar _) ⟨by first | rfl | simp_all, rfl⟩ dX11_isDown_4 (by decide) (by decide)
set_option maxHeartbeats 4000000 in
set_option maxRecDepth 100000 in
theorem k_X11_skipped (l : Launch) (S : cS) (a : Nat) (ha : a ∈ cL S) (hk : cK S a = 11) (fi : Nat) (hfi : cr S 365 a = some fi) (hf1 : fi ∈ cL S) (hf2 : cK S fi = 1) : cMet (cQi (fun r_ u_ => r_ = ci S 36 fi ∧ u_ = S)) l yX11_skipped cX11_skipped 1 (some .int) 0 0 0 0 [.ref a] S := by
  intro D Y tp dp sz
  refine cg_body (by decide +kernel) (Nat.le_of_ble_eq_true rfl) ?_
  intro p e s m args below meth c C
  generalize va_A (cWd Y S) sz = A at C ⊢
  have C : cC p s m args meth c cX11_skipped 1 (some .int) A D Y tp dp RX11 := C
  refine cg_lv (lv' := [(0, .ref a)]) rfl ?_
  refine cg_aload_n C (i := 0) rfl 0 rfl dX11_skipped_0 ?_
  refine cg_get C (k := 11) (j := 13) (.ref fi) ha hk (by decide) rfl (by decide) rfl (show cV _ 11 13 a = _ from congrArg va_rf hfi) cWs_wsX110 cl_X11_80 rfl dX11_skipped_1 ?_
  refine cg_get C (k := 1) (j := 4) (.int (ci S 36 fi)) hf1 hf2 (by decide) rfl (by decide) rfl (show cV _ 1 4 fi = _ from congrArg Value.int rfl) cWs_wsX10 cl_X11_415 rfl dX11_skipped_4 ?_
  exact cg_iret C ⟨by first | rfl | simp_all, rfl⟩ dX11_skipped_7 (by decide) (by decide)
