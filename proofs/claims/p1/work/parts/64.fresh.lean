/-! the class: calls on a fresh machine -/
set_option maxHeartbeats 4000000 in
set_option maxRecDepth 100000 in
theorem z12_X11_type (l : Launch) (hlt : l.stackTraces = false) (S : cS) (dp : Nat) (o1 : Nat) (n1 : Nat) (h1 : n1 ≤ 31) : cMetX "java/lang/IllegalArgumentException" (fun u_ => u_ = S) l yX11_type cX11_type 2 (some .int) 6 1 6 82 [.ref o1, .int (nI n1)] S dp := by
  intro D Y tp sz
  refine cg_bodyX (by decide +kernel) (Nat.le_of_ble_eq_true rfl) ?_
  intro p e s m args below meth c C hne
  generalize va_A (cWd Y S) sz = A at C ⊢
  have C : cC p s m args meth c cX11_type 2 (some .int) A D Y tp dp RX11 := C
  refine cg_lv (lv' := [(0, .ref o1), (1, .int (nI n1))]) rfl ?_
  refine cg_iload_n C (i := 1) rfl 1 rfl dX11_type_0 ?_
  refine cg_bipush C (x := nI 32) rfl dX11_type_1 ?_
  refine cg_icmp_ltN C (by omega) (by omega) 12 (by decide) dX11_type_3 (fun c_3 => ?_) (fun c_ => absurd c_ (by omega))
  exact cg_throw1 C hlt hne "the sign is out of range" ce_X11_100 cei_1 (by decide) dX11_type_12 dX11_type_15 dX11_type_16 dX11_type_18 dX11_type_21 (by decide) (by decide) ⟨by decide, by decide⟩ ⟨by decide, by decide⟩ rfl
set_option maxHeartbeats 4000000 in
set_option maxRecDepth 100000 in
theorem z13_L_type (l : Launch) (hlt : l.stackTraces = false) (S : cS) (dp : Nat) (o1 o2 : Nat) (n1 : Nat) (h1 : n1 ≤ 31) (h2 : o1 ∈ cL S) (h3 : cK S o1 = 11) : cMetW (cQi (fun r_ u_ => r_ = (nI 1) ∧ u_ = S)) l yL_type cL_type 4 (some .int) [(0, 9, 12, 13), (0, 9, 15, 15)] 7 1 6 103 [.ref o1, .int (nI n1), .ref o2] S dp := by
  intro D Y tp sz
  refine cg_bodyW (by decide +kernel) (Nat.le_of_ble_eq_true rfl) ?_
  intro p e s m args below meth c C htab
  generalize va_A (cWd Y S) sz = A at C ⊢
  have C : cC p s m args meth c cL_type 4 (some .int) A D Y tp dp RL := C
  refine cg_lv (lv' := [(0, .ref o1), (1, .int (nI n1)), (2, .ref o2)]) rfl ?_
  refine cg_aload_n C (i := 2) rfl 2 rfl dL_type_0 ?_
  refine cg_iconst C (x := nI 0) rfl dL_type_1 ?_
  refine cg_aload_n C (i := 0) rfl 0 rfl dL_type_2 ?_
  refine cg_iload_n C (i := 1) rfl 1 rfl dL_type_3 ?_
  refine cg_callx_catch C htab (z12_X11_type l hlt S dp o1 n1 (by omega)) cc_L_7 h2 h3 (by decide) rfl rfl ⟨by decide, by decide⟩ ⟨by decide, by decide⟩ rfl (Nat.le_of_ble_eq_true rfl) dL_type_4 (tableOf []) ⟨0, 9, 12, 13⟩ (tableOf [(0, 9, 15, 15)]) rfl (fun z hz => nomatch hz) (by decide) (by decide) (name := "java/lang/IllegalArgumentException") ce_L_13 (by decide) 12 rfl (fun x_4 u_4 h_4 => ?_)
  have hu_4 := h_4
  have hw_4 := hu_4.symm
  subst hw_4
  refine cg_astore_n (lv' := [(3, .ref x_4), (0, .ref o1), (1, .int (nI n1)), (2, .ref o2)]) C (i := 3) rfl (Nat.le_of_ble_eq_true rfl) rfl dL_type_12 ?_
  refine cg_iconst C (x := nI 1) rfl dL_type_13 ?_
  exact cg_iret C ⟨rfl, rfl⟩ dL_type_14 (by decide) (by decide)
set_option maxHeartbeats 4000000 in
set_option maxRecDepth 100000 in
theorem z14_X9_putSign (l : Launch) (hlt : l.stackTraces = false) (S : cS) (dp : Nat) (o1 o2 : Nat) (n1 : Nat) (h1 : 32 ≤ n1) (h2 : n1 ≤ 126) (h3 : ci S 289 o1 = (nI 0)) (h4 : cK S o1 = 9) (h5 : o1 ∈ cL S) (h6 : cr S 288 o1 = (some o2)) (h7 : cK S o2 = 14) (h8 : o2 ∈ cL S) (h9 : cn S o2 = 40) : cMet (cQi (fun r_ u_ => ∃ (S1 : cS), S1 = cSI S o2 0 (nI n1) ∧ ∃ (S2 : cS), S2 = cSi S1 289 o1 (nI 1) ∧ r_ = (nI 1) ∧ u_ = S2)) l yX9_putSign cX9_putSign 2 (some .int) 0 0 0 0 [.ref o1, .int (nI n1)] S dp := by
  intro D Y tp sz
  refine cg_body (by decide +kernel) (Nat.le_of_ble_eq_true rfl) ?_
  intro p e s m args below meth c C
  generalize va_A (cWd Y S) sz = A at C ⊢
  have C : cC p s m args meth c cX9_putSign 2 (some .int) A D Y tp dp RX9 := C
  refine cg_lv (lv' := [(0, .ref o1), (1, .int (nI n1))]) rfl ?_
  refine cg_aload_n C (i := 0) rfl 0 rfl dX9_putSign_0 ?_
  refine cg_get C (k := 9) (j := 1) (.int (nI 0)) h5 h4 (by decide) rfl (by decide) rfl (show cV _ 9 1 o1 = _ from congrArg Value.int h3) cWs_wsX90 cl_X9_15 rfl dX9_putSign_1 ?_
  refine cg_aload_n C (i := 0) rfl 0 rfl dX9_putSign_4 ?_
  refine cg_get C (k := 9) (j := 0) (.ref o2) h5 h4 (by decide) rfl (by decide) rfl (show cV _ 9 0 o1 = _ from congrArg va_rf h6) cWs_wsX90 cl_X9_9 rfl dX9_putSign_5 ?_
  refine cg_alen C h8 h7 (by decide) (by decide) dX9_putSign_8 ?_
  refine cg_cast (.int (nI 40)) (congrArg Value.int (congrArg nI h9)) ?_
  refine cg_icmp_geN C (by omega) (by omega) 32 (by decide) dX9_putSign_9 (fun c_ => absurd c_ (by omega)) (fun c_9 => ?_)
  refine cg_aload_n C (i := 0) rfl 0 rfl dX9_putSign_12 ?_
  refine cg_get C (k := 9) (j := 0) (.ref o2) h5 h4 (by decide) rfl (by decide) rfl (show cV _ 9 0 o1 = _ from congrArg va_rf h6) cWs_wsX90 cl_X9_9 rfl dX9_putSign_13 ?_
  refine cg_aload_n C (i := 0) rfl 0 rfl dX9_putSign_16 ?_
  refine cg_get C (k := 9) (j := 1) (.int (nI 0)) h5 h4 (by decide) rfl (by decide) rfl (show cV _ 9 1 o1 = _ from congrArg Value.int h3) cWs_wsX90 cl_X9_15 rfl dX9_putSign_17 ?_
  refine cg_iload_n C (i := 1) rfl 1 rfl dX9_putSign_20 ?_
  refine cg_iastore C 0 h8 h7 (by rw [show cn _ _ = 40 from h9]; omega) (by rw [show cn _ _ = 40 from h9]; omega) dX9_putSign_21 ?_
  refine cg_nm (fun S1 (hS1 : S1 = cSI S o2 0 (nI n1)) => ?_)
  refine cg_aload_n C (i := 0) rfl 0 rfl dX9_putSign_22 ?_
  refine cg_dup C rfl dX9_putSign_23 ?_
  refine cg_get C (k := 9) (j := 1) (.int (nI 0)) (hm_SI hS1 h5) (hk_SI hS1 h4) (by decide) rfl (by decide) rfl (show cV _ 9 1 o1 = _ from congrArg Value.int (hi_SI hS1 h3)) cWs_wsX90 cl_X9_15 rfl dX9_putSign_24 ?_
  refine cg_iconst C (x := nI 1) rfl dX9_putSign_27 ?_
  refine cg_iadd C dX9_putSign_28 ?_
  refine cg_cast (.int (nI 1)) (congrArg Value.int (by decide)) ?_
  refine cg_puti C (k := 9) (j := 1) (ty := tyX9) (fty := .int) (hm_SI hS1 h5) (hk_SI hS1 h4) (by decide) rfl (by decide) rfl (by decide) rfl cWs_wsX90 tyX9_ok nmX9 cl_X9_15 rfl rfl rfl rfl rfl dX9_putSign_29 ?_
  refine cg_nm (fun S2 (hS2 : S2 = cSi S1 289 o1 (nI 1)) => ?_)
  refine cg_aload_n C (i := 0) rfl 0 rfl dX9_putSign_32 ?_
  refine cg_get C (k := 9) (j := 1) (.int (nI 1)) (hm_Si hS2 (hm_SI hS1 h5)) (hk_Si hS2 (hk_SI hS1 h4)) (by decide) rfl (by decide) rfl (show cV _ 9 1 o1 = _ from congrArg Value.int (hi_Si_s hS2)) cWs_wsX90 cl_X9_15 rfl dX9_putSign_33 ?_
  exact cg_iret C ⟨S1, hS1, S2, hS2, rfl, rfl⟩ dX9_putSign_36 (by decide) (by decide)
set_option maxHeartbeats 4000000 in
set_option maxRecDepth 100000 in
theorem z15_X11_type (l : Launch) (hlt : l.stackTraces = false) (S : cS) (dp : Nat) (o1 o2 o3 o4 : Nat) (n1 : Nat) (h1 : 32 ≤ n1) (h2 : n1 ≤ 126) (h3 : cr S 352 o1 = (some o2)) (h4 : cK S o1 = 11) (h5 : o1 ∈ cL S) (h6 : cr S 96 o2 = (some o3)) (h7 : cK S o2 = 3) (h8 : o2 ∈ cL S) (h9 : ci S 289 o3 = (nI 0)) (h10 : cK S o3 = 9) (h11 : o3 ∈ cL S) (h12 : cr S 288 o3 = (some o4)) (h13 : cK S o4 = 14) (h14 : o4 ∈ cL S) (h15 : cn S o4 = 40) : cMet (cQi (fun r_ u_ => ∃ (S1 : cS), S1 = cSI S o4 0 (nI n1) ∧ ∃ (S2 : cS), S2 = cSi S1 289 o3 (nI 1) ∧ r_ = (nI 1) ∧ u_ = S2)) l yX11_type cX11_type 2 (some .int) 1 0 0 21 [.ref o1, .int (nI n1)] S dp := by
  intro D Y tp sz
  refine cg_body (by decide +kernel) (Nat.le_of_ble_eq_true rfl) ?_
  intro p e s m args below meth c C
  generalize va_A (cWd Y S) sz = A at C ⊢
  have C : cC p s m args meth c cX11_type 2 (some .int) A D Y tp dp RX11 := C
  refine cg_lv (lv' := [(0, .ref o1), (1, .int (nI n1))]) rfl ?_
  refine cg_iload_n C (i := 1) rfl 1 rfl dX11_type_0 ?_
  refine cg_bipush C (x := nI 32) rfl dX11_type_1 ?_
  refine cg_icmp_ltN C (by omega) (by omega) 12 (by decide) dX11_type_3 (fun c_ => absurd c_ (by omega)) (fun c_3 => ?_)
  refine cg_iload_n C (i := 1) rfl 1 rfl dX11_type_6 ?_
  refine cg_bipush C (x := nI 126) rfl dX11_type_7 ?_
  refine cg_icmp_leN C (by omega) (by omega) 22 (by decide) dX11_type_9 (fun c_9 => ?_) (fun c_ => absurd c_ (by omega))
  refine cg_aload_n C (i := 0) rfl 0 rfl dX11_type_22 ?_
  refine cg_get C (k := 11) (j := 0) (.ref o2) h5 h4 (by decide) rfl (by decide) rfl (show cV _ 11 0 o1 = _ from congrArg va_rf h3) cWs_wsX110 cl_X11_10 rfl dX11_type_23 ?_
  refine cg_get C (k := 3) (j := 0) (.ref o3) h8 h7 (by decide) rfl (by decide) rfl (show cV _ 3 0 o2 = _ from congrArg va_rf h6) cWs_wsX30 cl_X11_107 rfl dX11_type_26 ?_
  refine cg_get C (k := 9) (j := 1) (.int (nI 0)) h11 h10 (by decide) rfl (by decide) rfl (show cV _ 9 1 o3 = _ from congrArg Value.int h9) cWs_wsX90 cl_X11_111 rfl dX11_type_29 ?_
  refine cg_bipush C (x := nI 40) rfl dX11_type_32 ?_
  refine cg_icmp_ltN C (by omega) (by omega) 47 (by decide) dX11_type_34 (fun c_34 => ?_) (fun c_ => absurd c_ (by omega))
  refine cg_aload_n C (i := 0) rfl 0 rfl dX11_type_47 ?_
  refine cg_get C (k := 11) (j := 0) (.ref o2) h5 h4 (by decide) rfl (by decide) rfl (show cV _ 11 0 o1 = _ from congrArg va_rf h3) cWs_wsX110 cl_X11_10 rfl dX11_type_48 ?_
  refine cg_get C (k := 3) (j := 0) (.ref o3) h8 h7 (by decide) rfl (by decide) rfl (show cV _ 3 0 o2 = _ from congrArg va_rf h6) cWs_wsX30 cl_X11_107 rfl dX11_type_51 ?_
  refine cg_iload_n C (i := 1) rfl 1 rfl dX11_type_54 ?_
  refine cg_calli C (z14_X9_putSign l hlt S dp o3 o4 n1 (by omega) (by omega) h9 h10 h11 h12 h13 h14 h15) cc_X11_121 h11 h10 (by decide) rfl rfl ⟨by decide, by decide⟩ ⟨by decide, by decide⟩ rfl (Nat.le_of_ble_eq_true rfl) dX11_type_55 (fun r_55 u_55 h_55 => ?_)
  obtain ⟨S1, hS1, S2, hS2, hr_55, hu_55⟩ := h_55
  have hw_55 := hu_55.symm
  subst hw_55
  have hx_55 := hr_55.symm
  subst hx_55
  exact cg_iret C ⟨S1, hS1, S2, hS2, rfl, rfl⟩ dX11_type_58 (by decide) (by decide)
set_option maxHeartbeats 4000000 in
set_option maxRecDepth 100000 in
theorem z16_L_type (l : Launch) (hlt : l.stackTraces = false) (S : cS) (dp : Nat) (o1 o2 o3 o4 o5 : Nat) (n1 : Nat) (h1 : 32 ≤ n1) (h2 : n1 ≤ 126) (h3 : cr S 352 o1 = (some o3)) (h4 : cK S o1 = 11) (h5 : o1 ∈ cL S) (h6 : cr S 96 o3 = (some o4)) (h7 : cK S o3 = 3) (h8 : o3 ∈ cL S) (h9 : ci S 289 o4 = (nI 0)) (h10 : cK S o4 = 9) (h11 : o4 ∈ cL S) (h12 : cr S 288 o4 = (some o5)) (h13 : cK S o5 = 14) (h14 : o5 ∈ cL S) (h15 : cn S o5 = 40) (h16 : cK S o2 = 15) (h17 : cn S o2 = 1) (h18 : o2 ∈ cL S) : cMetW (cQi (fun r_ u_ => ∃ (S1 : cS), S1 = cSI S o5 0 (nI n1) ∧ ∃ (S2 : cS), S2 = cSi S1 289 o4 (nI 1) ∧ ∃ (S3 : cS), S3 = cSJ S2 o2 0 (((nI 1)).toInt64) ∧ r_ = (nI 0) ∧ u_ = S3)) l yL_type cL_type 4 (some .int) [(0, 9, 12, 13), (0, 9, 15, 15)] 2 0 0 42 [.ref o1, .int (nI n1), .ref o2] S dp := by
  intro D Y tp sz
  refine cg_bodyW (by decide +kernel) (Nat.le_of_ble_eq_true rfl) ?_
  intro p e s m args below meth c C htab
  generalize va_A (cWd Y S) sz = A at C ⊢
  have C : cC p s m args meth c cL_type 4 (some .int) A D Y tp dp RL := C
  refine cg_lv (lv' := [(0, .ref o1), (1, .int (nI n1)), (2, .ref o2)]) rfl ?_
  refine cg_aload_n C (i := 2) rfl 2 rfl dL_type_0 ?_
  refine cg_iconst C (x := nI 0) rfl dL_type_1 ?_
  refine cg_aload_n C (i := 0) rfl 0 rfl dL_type_2 ?_
  refine cg_iload_n C (i := 1) rfl 1 rfl dL_type_3 ?_
  refine cg_calli C (z15_X11_type l hlt S dp o1 o3 o4 o5 n1 (by omega) (by omega) h3 h4 h5 h6 h7 h8 h9 h10 h11 h12 h13 h14 h15) cc_L_7 h5 h4 (by decide) rfl rfl ⟨by decide, by decide⟩ ⟨by decide, by decide⟩ rfl (Nat.le_of_ble_eq_true rfl) dL_type_4 (fun r_4 u_4 h_4 => ?_)
  obtain ⟨S1, hS1, S2, hS2, hr_4, hu_4⟩ := h_4
  have hw_4 := hu_4.symm
  subst hw_4
  have hx_4 := hr_4.symm
  subst hx_4
  refine cg_i2l C dL_type_7 ?_
  refine cg_lastore C 0 (hm_Si hS2 (hm_SI hS1 h18)) (hk_Si hS2 (hk_SI hS1 h16)) (by rw [show cn _ _ = 1 from (hn_Si hS2 (hn_SI hS1 h17))]; omega) (by rw [show cn _ _ = 1 from (hn_Si hS2 (hn_SI hS1 h17))]; omega) dL_type_8 ?_
  refine cg_nm (fun S3 (hS3 : S3 = cSJ S2 o2 0 (((nI 1)).toInt64)) => ?_)
  refine cg_goto C 18 (by decide) dL_type_9 ?_
  refine cg_iconst C (x := nI 0) rfl dL_type_18 ?_
  exact cg_iret C ⟨S1, hS1, S2, hS2, S3, hS3, rfl, rfl⟩ dL_type_19 (by decide) (by decide)
set_option maxHeartbeats 4000000 in
set_option maxRecDepth 100000 in
theorem z17_X11_type (l : Launch) (hlt : l.stackTraces = false) (S : cS) (dp : Nat) (o1 : Nat) (n1 : Nat) (h1 : 127 ≤ n1) (h2 : n1 ≤ 65535) : cMetX "java/lang/IllegalArgumentException" (fun u_ => u_ = S) l yX11_type cX11_type 2 (some .int) 6 1 6 82 [.ref o1, .int (nI n1)] S dp := by
  intro D Y tp sz
  refine cg_bodyX (by decide +kernel) (Nat.le_of_ble_eq_true rfl) ?_
  intro p e s m args below meth c C hne
  generalize va_A (cWd Y S) sz = A at C ⊢
  have C : cC p s m args meth c cX11_type 2 (some .int) A D Y tp dp RX11 := C
  refine cg_lv (lv' := [(0, .ref o1), (1, .int (nI n1))]) rfl ?_
  refine cg_iload_n C (i := 1) rfl 1 rfl dX11_type_0 ?_
  refine cg_bipush C (x := nI 32) rfl dX11_type_1 ?_
  refine cg_icmp_ltN C (by omega) (by omega) 12 (by decide) dX11_type_3 (fun c_ => absurd c_ (by omega)) (fun c_3 => ?_)
  refine cg_iload_n C (i := 1) rfl 1 rfl dX11_type_6 ?_
  refine cg_bipush C (x := nI 126) rfl dX11_type_7 ?_
  refine cg_icmp_leN C (by omega) (by omega) 22 (by decide) dX11_type_9 (fun c_ => absurd c_ (by omega)) (fun c_9 => ?_)
  exact cg_throw1 C hlt hne "the sign is out of range" ce_X11_100 cei_1 (by decide) dX11_type_12 dX11_type_15 dX11_type_16 dX11_type_18 dX11_type_21 (by decide) (by decide) ⟨by decide, by decide⟩ ⟨by decide, by decide⟩ rfl
set_option maxHeartbeats 4000000 in
set_option maxRecDepth 100000 in
theorem z18_L_type (l : Launch) (hlt : l.stackTraces = false) (S : cS) (dp : Nat) (o1 o2 : Nat) (n1 : Nat) (h1 : 127 ≤ n1) (h2 : n1 ≤ 65535) (h3 : o1 ∈ cL S) (h4 : cK S o1 = 11) : cMetW (cQi (fun r_ u_ => r_ = (nI 1) ∧ u_ = S)) l yL_type cL_type 4 (some .int) [(0, 9, 12, 13), (0, 9, 15, 15)] 7 1 6 103 [.ref o1, .int (nI n1), .ref o2] S dp := by
  intro D Y tp sz
  refine cg_bodyW (by decide +kernel) (Nat.le_of_ble_eq_true rfl) ?_
  intro p e s m args below meth c C htab
  generalize va_A (cWd Y S) sz = A at C ⊢
  have C : cC p s m args meth c cL_type 4 (some .int) A D Y tp dp RL := C
  refine cg_lv (lv' := [(0, .ref o1), (1, .int (nI n1)), (2, .ref o2)]) rfl ?_
  refine cg_aload_n C (i := 2) rfl 2 rfl dL_type_0 ?_
  refine cg_iconst C (x := nI 0) rfl dL_type_1 ?_
  refine cg_aload_n C (i := 0) rfl 0 rfl dL_type_2 ?_
  refine cg_iload_n C (i := 1) rfl 1 rfl dL_type_3 ?_
  refine cg_callx_catch C htab (z17_X11_type l hlt S dp o1 n1 (by omega) (by omega)) cc_L_7 h3 h4 (by decide) rfl rfl ⟨by decide, by decide⟩ ⟨by decide, by decide⟩ rfl (Nat.le_of_ble_eq_true rfl) dL_type_4 (tableOf []) ⟨0, 9, 12, 13⟩ (tableOf [(0, 9, 15, 15)]) rfl (fun z hz => nomatch hz) (by decide) (by decide) (name := "java/lang/IllegalArgumentException") ce_L_13 (by decide) 12 rfl (fun x_4 u_4 h_4 => ?_)
  have hu_4 := h_4
  have hw_4 := hu_4.symm
  subst hw_4
  refine cg_astore_n (lv' := [(3, .ref x_4), (0, .ref o1), (1, .int (nI n1)), (2, .ref o2)]) C (i := 3) rfl (Nat.le_of_ble_eq_true rfl) rfl dL_type_12 ?_
  refine cg_iconst C (x := nI 1) rfl dL_type_13 ?_
  exact cg_iret C ⟨rfl, rfl⟩ dL_type_14 (by decide) (by decide)
set_option maxHeartbeats 4000000 in
set_option maxRecDepth 100000 in
theorem z19_X3_takePad (l : Launch) (hlt : l.stackTraces = false) (S : cS) (dp : Nat) (o1 o2 : Nat) (h1 : cr S 96 o1 = (some o2)) (h2 : cK S o1 = 3) (h3 : o1 ∈ cL S) : cMet (cQr (fun r_ u_ => ∃ (q1 : Nat) (S1 : cS), q1 ∉ cL S ∧ S1 = cNew S q1 9 ∧ ∃ (q2 : Nat) (S2 : cS), q2 ∉ cL S1 ∧ S2 = cNewA S1 q2 14 40 ∧ ∃ (S3 : cS), S3 = cSr S2 288 q1 (some q2) ∧ ∃ (S4 : cS), S4 = cSi S3 289 q1 (nI 0) ∧ ∃ (q3 : Nat) (S5 : cS), q3 ∉ cL S4 ∧ S5 = cNewA S4 q3 15 0 ∧ ∃ (S6 : cS), S6 = cSr S5 290 q1 (some q3) ∧ ∃ (q4 : Nat) (S7 : cS), q4 ∉ cL S6 ∧ S7 = cNewA S6 q4 14 0 ∧ ∃ (S8 : cS), S8 = cSr S7 291 q1 (some q4) ∧ ∃ (S9 : cS), S9 = cSi S8 292 q1 (nI 0) ∧ ∃ (S10 : cS), S10 = cSr S9 96 o1 (some q1) ∧ r_ = o2 ∧ u_ = S10)) l yX3_takePad cX3_takePad 2 (some (.object "SearchMill$Text")) 2 4 45 52 [.ref o1] S dp := by
  intro D Y tp sz
  refine cg_body (by decide +kernel) (Nat.le_of_ble_eq_true rfl) ?_
  intro p e s m args below meth c C
  generalize va_A (cWd Y S) sz = A at C ⊢
  have C : cC p s m args meth c cX3_takePad 2 (some (.object "SearchMill$Text")) A D Y tp dp RX3 := C
  refine cg_lv (lv' := [(0, .ref o1)]) rfl ?_
  refine cg_aload_n C (i := 0) rfl 0 rfl dX3_takePad_0 ?_
  refine cg_get C (k := 3) (j := 0) (.ref o2) h3 h2 (by decide) rfl (by decide) rfl (show cV _ 3 0 o1 = _ from congrArg va_rf h1) cWs_wsX30 cl_X3_12 rfl dX3_takePad_1 ?_
  refine cg_astore_n (lv' := [(1, .ref o2), (0, .ref o1)]) C (i := 1) rfl (Nat.le_of_ble_eq_true rfl) rfl dX3_takePad_4 ?_
  refine cg_aload_n C (i := 0) rfl 1 rfl dX3_takePad_5 ?_
  refine cg_new C (k := 9) (N := 5) (fs := [.null, .int 0, .null, .null, .int 0]) (by decide) rfl cWs_wsX90 tyX9_ok cn_X3_9 ci_X9 ct_X9 (fun j_ hj_ => by rcases (show j_ = 0 ∨ j_ = 1 ∨ j_ = 2 ∨ j_ = 3 ∨ j_ = 4 by omega) with rfl | rfl | rfl | rfl | rfl <;> rfl) rfl (by decide) (by decide) dX3_takePad_6 (fun q1 hf_q1 => ?_)
  refine cg_nm (fun S1 (hS1 : S1 = cNew S q1 9) => ?_)
  refine cg_dup C rfl dX3_takePad_9 ?_
  refine cg_callIN C (z1_X9_init l hlt S1 dp q1 (hk_No hS1) (hm_No hS1)) czn_X3_11 rfl ⟨by decide, by decide⟩ ⟨by decide, by decide⟩ rfl (Nat.le_of_ble_eq_true rfl) dX3_takePad_10 (fun u_10 h_10 => ?_)
  obtain ⟨q2, S2, hf_q2, hS2, S3, hS3, S4, hS4, q3, S5, hf_q3, hS5, S6, hS6, q4, S7, hf_q4, hS7, S8, hS8, S9, hS9, hu_10⟩ := h_10
  have hw_10 := hu_10.symm
  subst hw_10
  have f_1 : cK S3 o1 = 3 := (hk_Sr hS3 (hk_A hS2 (cm_ne (hm_N hS1 h3) hf_q2) (hk_N hS1 (cm_ne h3 hf_q1) h2)))
  have f_2 : cK S5 o1 = 3 := (hk_A hS5 (cm_ne (hm_Si hS4 (hm_Sr hS3 (hm_A hS2 (hm_N hS1 h3)))) hf_q3) (hk_Si hS4 f_1))
  have f_3 : o1 ∈ cL S6 := (hm_Sr hS6 (hm_A hS5 (hm_Si hS4 (hm_Sr hS3 (hm_A hS2 (hm_N hS1 h3))))))
  refine cg_putr C (k := 3) (j := 0) (x := (some q1)) (ty := tyX3) (fty := tyX3 0) (hm_Si hS9 (hm_Sr hS8 (hm_A hS7 f_3))) (hk_Si hS9 (hk_Sr hS8 (hk_A hS7 (cm_ne f_3 hf_q4) (hk_Sr hS6 f_2)))) (by decide) rfl (by decide) rfl (by decide) rfl cWs_wsX30 tyX3_ok nmX3 cl_X3_12 rfl rfl rfl rfl rfl dX3_takePad_13 ?_
  refine cg_nm (fun S10 (hS10 : S10 = cSr S9 96 o1 (some q1)) => ?_)
  refine cg_aload_n C (i := 1) rfl 0 rfl dX3_takePad_16 ?_
  exact cg_aret C rfl (by first | exact Or.inl ⟨_, rfl⟩ | exact Or.inr ⟨_, rfl⟩) ⟨q1, S1, hf_q1, hS1, q2, S2, hf_q2, hS2, S3, hS3, S4, hS4, q3, S5, hf_q3, hS5, S6, hS6, q4, S7, hf_q4, hS7, S8, hS8, S9, hS9, S10, hS10, rfl, rfl⟩ dX3_takePad_17 (by decide) (by decide)
set_option maxHeartbeats 4000000 in
set_option maxRecDepth 100000 in
theorem z20_X11_wipe (l : Launch) (hlt : l.stackTraces = false) (S : cS) (dp : Nat) (o1 o2 o3 : Nat) (h1 : cr S 352 o1 = (some o2)) (h2 : cK S o1 = 11) (h3 : o1 ∈ cL S) (h4 : cr S 96 o2 = (some o3)) (h5 : cK S o2 = 3) (h6 : o2 ∈ cL S) (h7 : ci S 289 o3 = (nI 0)) (h8 : o3 ∈ cL S) (h9 : cK S o3 = 9) : cMet (cQi (fun r_ u_ => ∃ (q1 : Nat) (S1 : cS), q1 ∉ cL S ∧ S1 = cNew S q1 9 ∧ ∃ (q2 : Nat) (S2 : cS), q2 ∉ cL S1 ∧ S2 = cNewA S1 q2 14 40 ∧ ∃ (S3 : cS), S3 = cSr S2 288 q1 (some q2) ∧ ∃ (S4 : cS), S4 = cSi S3 289 q1 (nI 0) ∧ ∃ (q3 : Nat) (S5 : cS), q3 ∉ cL S4 ∧ S5 = cNewA S4 q3 15 0 ∧ ∃ (S6 : cS), S6 = cSr S5 290 q1 (some q3) ∧ ∃ (q4 : Nat) (S7 : cS), q4 ∉ cL S6 ∧ S7 = cNewA S6 q4 14 0 ∧ ∃ (S8 : cS), S8 = cSr S7 291 q1 (some q4) ∧ ∃ (S9 : cS), S9 = cSi S8 292 q1 (nI 0) ∧ ∃ (S10 : cS), S10 = cSr S9 96 o2 (some q1) ∧ r_ = (nI 0) ∧ u_ = S10)) l yX11_wipe cX11_wipe 1 (some .int) 3 4 45 73 [.ref o1] S dp := by
  intro D Y tp sz
  refine cg_body (by decide +kernel) (Nat.le_of_ble_eq_true rfl) ?_
  intro p e s m args below meth c C
  generalize va_A (cWd Y S) sz = A at C ⊢
  have C : cC p s m args meth c cX11_wipe 1 (some .int) A D Y tp dp RX11 := C
  refine cg_lv (lv' := [(0, .ref o1)]) rfl ?_
  refine cg_aload_n C (i := 0) rfl 0 rfl dX11_wipe_0 ?_
  refine cg_get C (k := 11) (j := 0) (.ref o2) h3 h2 (by decide) rfl (by decide) rfl (show cV _ 11 0 o1 = _ from congrArg va_rf h1) cWs_wsX110 cl_X11_10 rfl dX11_wipe_1 ?_
  refine cg_callr C (z19_X3_takePad l hlt S dp o2 o3 h4 h5 h6) cc_X11_125 h6 h5 (by decide) rfl rfl ⟨by decide, by decide⟩ ⟨by decide, by decide⟩ rfl (Nat.le_of_ble_eq_true rfl) dX11_wipe_4 (fun r_4 u_4 h_4 => ?_)
  obtain ⟨q1, S1, hf_q1, hS1, q2, S2, hf_q2, hS2, S3, hS3, S4, hS4, q3, S5, hf_q3, hS5, S6, hS6, q4, S7, hf_q4, hS7, S8, hS8, S9, hS9, S10, hS10, hr_4, hu_4⟩ := h_4
  have hw_4 := hu_4.symm
  subst hw_4
  have hx_4 := hr_4.symm
  subst hx_4
  have f_1 : ci S4 289 o3 = (nI 0) := (hi_Si_n hS4 (cm_ne h8 hf_q1) (hi_Sr hS3 (hi_A hS2 (hi_N hS1 (cm_ne h8 hf_q1) h7))))
  have f_2 : ci S9 289 o3 = (nI 0) := (hi_Si_q hS9 (by decide) (hi_Sr hS8 (hi_A hS7 (hi_Sr hS6 (hi_A hS5 f_1)))))
  have f_3 : cK S3 o3 = 9 := (hk_Sr hS3 (hk_A hS2 (cm_ne (hm_N hS1 h8) hf_q2) (hk_N hS1 (cm_ne h8 hf_q1) h9)))
  have f_4 : cK S5 o3 = 9 := (hk_A hS5 (cm_ne (hm_Si hS4 (hm_Sr hS3 (hm_A hS2 (hm_N hS1 h8)))) hf_q3) (hk_Si hS4 f_3))
  have f_5 : o3 ∈ cL S6 := (hm_Sr hS6 (hm_A hS5 (hm_Si hS4 (hm_Sr hS3 (hm_A hS2 (hm_N hS1 h8))))))
  have f_6 : cK S10 o3 = 9 := (hk_Sr hS10 (hk_Si hS9 (hk_Sr hS8 (hk_A hS7 (cm_ne f_5 hf_q4) (hk_Sr hS6 f_4)))))
  refine cg_get C (k := 9) (j := 1) (.int (nI 0)) (hm_Sr hS10 (hm_Si hS9 (hm_Sr hS8 (hm_A hS7 f_5)))) f_6 (by decide) rfl (by decide) rfl (show cV _ 9 1 o3 = _ from congrArg Value.int (hi_Sr hS10 f_2)) cWs_wsX90 cl_X11_111 rfl dX11_wipe_7 ?_
  exact cg_iret C ⟨q1, S1, hf_q1, hS1, q2, S2, hf_q2, hS2, S3, hS3, S4, hS4, q3, S5, hf_q3, hS5, S6, hS6, q4, S7, hf_q4, hS7, S8, hS8, S9, hS9, S10, hS10, rfl, rfl⟩ dX11_wipe_10 (by decide) (by decide)
set_option maxHeartbeats 4000000 in
set_option maxRecDepth 100000 in
theorem z21_X3_readWordsOf (l : Launch) (hlt : l.stackTraces = false) (S : cS) (dp : Nat) (o1 o2 : Nat) (h1 : cK S o1 = 3) (h2 : o1 ∈ cL S) (h3 : ci S 289 o2 = (nI 0)) (h4 : cK S o2 = 9) (h5 : o2 ∈ cL S) : cMet (cQv (fun u_ => ∃ (S1 : cS), S1 = cSi S 98 o1 (nI 0) ∧ u_ = S1)) l yX3_readWordsOf cX3_readWordsOf 5 none 0 0 0 0 [.ref o1, .ref o2] S dp := by
  intro D Y tp sz
  refine cg_body (by decide +kernel) (Nat.le_of_ble_eq_true rfl) ?_
  intro p e s m args below meth c C
  generalize va_A (cWd Y S) sz = A at C ⊢
  have C : cC p s m args meth c cX3_readWordsOf 5 none A D Y tp dp RX3 := C
  refine cg_lv (lv' := [(0, .ref o1), (1, .ref o2)]) rfl ?_
  refine cg_aload_n C (i := 0) rfl 0 rfl dX3_readWordsOf_0 ?_
  refine cg_iconst C (x := nI 0) rfl dX3_readWordsOf_1 ?_
  refine cg_puti C (k := 3) (j := 2) (ty := tyX3) (fty := .int) h2 h1 (by decide) rfl (by decide) rfl (by decide) rfl cWs_wsX30 tyX3_ok nmX3 cl_X3_22 rfl rfl rfl rfl rfl dX3_readWordsOf_2 ?_
  refine cg_nm (fun S1 (hS1 : S1 = cSi S 98 o1 (nI 0)) => ?_)
  refine cg_iconst C (x := nI 0) rfl dX3_readWordsOf_5 ?_
  refine cg_istore_n C (i := 2) (lv' := [(2, .int (nI 0)), (0, .ref o1), (1, .ref o2)]) rfl (Nat.le_of_ble_eq_true rfl) rfl dX3_readWordsOf_6 ?_
  refine cg_iconst C (x := nI 0) rfl dX3_readWordsOf_7 ?_
  refine cg_istore_n C (i := 3) (lv' := [(3, .int (nI 0)), (2, .int (nI 0)), (0, .ref o1), (1, .ref o2)]) rfl (Nat.le_of_ble_eq_true rfl) rfl dX3_readWordsOf_8 ?_
  refine cg_iload_n C (i := 3) rfl 0 rfl dX3_readWordsOf_9 ?_
  refine cg_aload_n C (i := 1) rfl 3 rfl dX3_readWordsOf_10 ?_
  refine cg_get C (k := 9) (j := 1) (.int (nI 0)) (hm_Si hS1 h5) (hk_Si hS1 h4) (by decide) rfl (by decide) rfl (show cV _ 9 1 o2 = _ from congrArg Value.int (hi_Si_q hS1 (by decide) h3)) cWs_wsX90 cl_X3_80 rfl dX3_readWordsOf_11 ?_
  refine cg_icmp_geN C (by omega) (by omega) 117 (by decide) dX3_readWordsOf_14 (fun c_14 => ?_) (fun c_ => absurd c_ (by omega))
  exact cg_vret C ⟨S1, hS1, rfl⟩ dX3_readWordsOf_117 (by decide) (by decide)
set_option maxHeartbeats 4000000 in
set_option maxRecDepth 100000 in
theorem z22_X3_readPad (l : Launch) (hlt : l.stackTraces = false) (S : cS) (dp : Nat) (o1 o2 : Nat) (h1 : cr S 96 o1 = (some o2)) (h2 : cK S o1 = 3) (h3 : o1 ∈ cL S) (h4 : ci S 289 o2 = (nI 0)) (h5 : cK S o2 = 9) (h6 : o2 ∈ cL S) : cMet (cQi (fun r_ u_ => ∃ (S1 : cS), S1 = cSi S 98 o1 (nI 0) ∧ r_ = (nI 0) ∧ u_ = S1)) l yX3_readPad cX3_readPad 1 (some .int) 1 0 0 24 [.ref o1] S dp := by
  intro D Y tp sz
  refine cg_body (by decide +kernel) (Nat.le_of_ble_eq_true rfl) ?_
  intro p e s m args below meth c C
  generalize va_A (cWd Y S) sz = A at C ⊢
  have C : cC p s m args meth c cX3_readPad 1 (some .int) A D Y tp dp RX3 := C
  refine cg_lv (lv' := [(0, .ref o1)]) rfl ?_
  refine cg_aload_n C (i := 0) rfl 0 rfl dX3_readPad_0 ?_
  refine cg_aload_n C (i := 0) rfl 0 rfl dX3_readPad_1 ?_
  refine cg_get C (k := 3) (j := 0) (.ref o2) h3 h2 (by decide) rfl (by decide) rfl (show cV _ 3 0 o1 = _ from congrArg va_rf h1) cWs_wsX30 cl_X3_12 rfl dX3_readPad_2 ?_
  refine cg_callv C (z21_X3_readWordsOf l hlt S dp o1 o2 h2 h3 h4 h5 h6) cc_X3_45 h3 h2 (by decide) rfl rfl ⟨by decide, by decide⟩ ⟨by decide, by decide⟩ rfl (Nat.le_of_ble_eq_true rfl) dX3_readPad_5 (fun u_5 h_5 => ?_)
  obtain ⟨S1, hS1, hu_5⟩ := h_5
  have hw_5 := hu_5.symm
  subst hw_5
  refine cg_aload_n C (i := 0) rfl 0 rfl dX3_readPad_8 ?_
  refine cg_get C (k := 3) (j := 2) (.int (nI 0)) (hm_Si hS1 h3) (hk_Si hS1 h2) (by decide) rfl (by decide) rfl (show cV _ 3 2 o1 = _ from congrArg Value.int (hi_Si_s hS1)) cWs_wsX30 cl_X3_22 rfl dX3_readPad_9 ?_
  exact cg_iret C ⟨S1, hS1, rfl, rfl⟩ dX3_readPad_12 (by decide) (by decide)
set_option maxHeartbeats 4000000 in
set_option maxRecDepth 100000 in
theorem z23_X11_stop (l : Launch) (hlt : l.stackTraces = false) (S : cS) (dp : Nat) (o1 o2 o3 : Nat) (h1 : cr S 352 o1 = (some o2)) (h2 : cK S o1 = 11) (h3 : o1 ∈ cL S) (h4 : cr S 96 o2 = (some o3)) (h5 : cK S o2 = 3) (h6 : o2 ∈ cL S) (h7 : ci S 289 o3 = (nI 0)) (h8 : cK S o3 = 9) (h9 : o3 ∈ cL S) : cMetX "java/lang/IllegalStateException" (fun u_ => ∃ (S1 : cS), S1 = cSi S 98 o2 (nI 0) ∧ u_ = S1) l yX11_stop cX11_stop 1 (some .int) 6 1 6 82 [.ref o1] S dp := by
  intro D Y tp sz
  refine cg_bodyX (by decide +kernel) (Nat.le_of_ble_eq_true rfl) ?_
  intro p e s m args below meth c C hne
  generalize va_A (cWd Y S) sz = A at C ⊢
  have C : cC p s m args meth c cX11_stop 1 (some .int) A D Y tp dp RX11 := C
  refine cg_lv (lv' := [(0, .ref o1)]) rfl ?_
  refine cg_aload_n C (i := 0) rfl 0 rfl dX11_stop_0 ?_
  refine cg_get C (k := 11) (j := 0) (.ref o2) h3 h2 (by decide) rfl (by decide) rfl (show cV _ 11 0 o1 = _ from congrArg va_rf h1) cWs_wsX110 cl_X11_10 rfl dX11_stop_1 ?_
  refine cg_calli C (z22_X3_readPad l hlt S dp o2 o3 h4 h5 h6 h7 h8 h9) cc_X11_129 h6 h5 (by decide) rfl rfl ⟨by decide, by decide⟩ ⟨by decide, by decide⟩ rfl (Nat.le_of_ble_eq_true rfl) dX11_stop_4 (fun r_4 u_4 h_4 => ?_)
  obtain ⟨S1, hS1, hr_4, hu_4⟩ := h_4
  have hw_4 := hu_4.symm
  subst hw_4
  have hx_4 := hr_4.symm
  subst hx_4
  refine cg_iconst C (x := nI 1) rfl dX11_stop_7 ?_
  refine cg_icmp_neN C (by omega) (by omega) 33 (by decide) dX11_stop_8 (fun c_8 => ?_) (fun c_ => absurd c_ (by omega))
  exact cg_throw2 C hlt hne "no stop word can be told now" ce_X11_116 cei_2 (by decide) dX11_stop_33 dX11_stop_36 dX11_stop_37 dX11_stop_39 dX11_stop_42 (by decide) (by decide) ⟨by decide, by decide⟩ ⟨by decide, by decide⟩ ⟨S1, hS1, rfl⟩
set_option maxHeartbeats 4000000 in
set_option maxRecDepth 100000 in
theorem z24_L_stop (l : Launch) (hlt : l.stackTraces = false) (S : cS) (dp : Nat) (o1 o2 o3 o4 : Nat) (h1 : cr S 352 o1 = (some o3)) (h2 : cK S o1 = 11) (h3 : o1 ∈ cL S) (h4 : cr S 96 o3 = (some o4)) (h5 : cK S o3 = 3) (h6 : o3 ∈ cL S) (h7 : ci S 289 o4 = (nI 0)) (h8 : cK S o4 = 9) (h9 : o4 ∈ cL S) : cMetW (cQi (fun r_ u_ => ∃ (S1 : cS), S1 = cSi S 98 o3 (nI 0) ∧ r_ = (nI 1) ∧ u_ = S1)) l yL_stop cL_stop 3 (some .int) [(0, 8, 11, 15)] 7 1 6 102 [.ref o1, .ref o2] S dp := by
  intro D Y tp sz
  refine cg_bodyW (by decide +kernel) (Nat.le_of_ble_eq_true rfl) ?_
  intro p e s m args below meth c C htab
  generalize va_A (cWd Y S) sz = A at C ⊢
  have C : cC p s m args meth c cL_stop 3 (some .int) A D Y tp dp RL := C
  refine cg_lv (lv' := [(0, .ref o1), (1, .ref o2)]) rfl ?_
  refine cg_aload_n C (i := 1) rfl 1 rfl dL_stop_0 ?_
  refine cg_iconst C (x := nI 0) rfl dL_stop_1 ?_
  refine cg_aload_n C (i := 0) rfl 0 rfl dL_stop_2 ?_
  refine cg_callx_catch C htab (z23_X11_stop l hlt S dp o1 o3 o4 h1 h2 h3 h4 h5 h6 h7 h8 h9) cc_L_17 h3 h2 (by decide) rfl rfl ⟨by decide, by decide⟩ ⟨by decide, by decide⟩ rfl (Nat.le_of_ble_eq_true rfl) dL_stop_3 (tableOf []) ⟨0, 8, 11, 15⟩ (tableOf []) rfl (fun z hz => nomatch hz) (by decide) (by decide) (name := "java/lang/IllegalStateException") ce_L_15 (by decide) 11 rfl (fun x_3 u_3 h_3 => ?_)
  obtain ⟨S1, hS1, hu_3⟩ := h_3
  have hw_3 := hu_3.symm
  subst hw_3
  refine cg_astore_n (lv' := [(2, .ref x_3), (0, .ref o1), (1, .ref o2)]) C (i := 2) rfl (Nat.le_of_ble_eq_true rfl) rfl dL_stop_11 ?_
  refine cg_iconst C (x := nI 1) rfl dL_stop_12 ?_
  exact cg_iret C ⟨S1, hS1, rfl, rfl⟩ dL_stop_13 (by decide) (by decide)
set_option maxHeartbeats 4000000 in
set_option maxRecDepth 100000 in
theorem z25_X11_synonym (l : Launch) (hlt : l.stackTraces = false) (S : cS) (dp : Nat) (o1 o2 o3 : Nat) (h1 : cr S 352 o1 = (some o2)) (h2 : cK S o1 = 11) (h3 : o1 ∈ cL S) (h4 : cr S 96 o2 = (some o3)) (h5 : cK S o2 = 3) (h6 : o2 ∈ cL S) (h7 : ci S 289 o3 = (nI 0)) (h8 : cK S o3 = 9) (h9 : o3 ∈ cL S) : cMetX "java/lang/IllegalStateException" (fun u_ => ∃ (S1 : cS), S1 = cSi S 98 o2 (nI 0) ∧ u_ = S1) l yX11_synonym cX11_synonym 1 (some .int) 6 1 6 82 [.ref o1] S dp := by
  intro D Y tp sz
  refine cg_bodyX (by decide +kernel) (Nat.le_of_ble_eq_true rfl) ?_
  intro p e s m args below meth c C hne
  generalize va_A (cWd Y S) sz = A at C ⊢
  have C : cC p s m args meth c cX11_synonym 1 (some .int) A D Y tp dp RX11 := C
  refine cg_lv (lv' := [(0, .ref o1)]) rfl ?_
  refine cg_aload_n C (i := 0) rfl 0 rfl dX11_synonym_0 ?_
  refine cg_get C (k := 11) (j := 0) (.ref o2) h3 h2 (by decide) rfl (by decide) rfl (show cV _ 11 0 o1 = _ from congrArg va_rf h1) cWs_wsX110 cl_X11_10 rfl dX11_synonym_1 ?_
  refine cg_calli C (z22_X3_readPad l hlt S dp o2 o3 h4 h5 h6 h7 h8 h9) cc_X11_129 h6 h5 (by decide) rfl rfl ⟨by decide, by decide⟩ ⟨by decide, by decide⟩ rfl (Nat.le_of_ble_eq_true rfl) dX11_synonym_4 (fun r_4 u_4 h_4 => ?_)
  obtain ⟨S1, hS1, hr_4, hu_4⟩ := h_4
  have hw_4 := hu_4.symm
  subst hw_4
  have hx_4 := hr_4.symm
  subst hx_4
  refine cg_iconst C (x := nI 2) rfl dX11_synonym_7 ?_
  refine cg_icmp_neN C (by omega) (by omega) 33 (by decide) dX11_synonym_8 (fun c_8 => ?_) (fun c_ => absurd c_ (by omega))
  exact cg_throw2 C hlt hne "no synonym can be told now" ce_X11_116 cei_2 (by decide) dX11_synonym_33 dX11_synonym_36 dX11_synonym_37 dX11_synonym_39 dX11_synonym_42 (by decide) (by decide) ⟨by decide, by decide⟩ ⟨by decide, by decide⟩ ⟨S1, hS1, rfl⟩
set_option maxHeartbeats 4000000 in
set_option maxRecDepth 100000 in
theorem z26_L_synonym (l : Launch) (hlt : l.stackTraces = false) (S : cS) (dp : Nat) (o1 o2 o3 o4 : Nat) (h1 : cr S 352 o1 = (some o3)) (h2 : cK S o1 = 11) (h3 : o1 ∈ cL S) (h4 : cr S 96 o3 = (some o4)) (h5 : cK S o3 = 3) (h6 : o3 ∈ cL S) (h7 : ci S 289 o4 = (nI 0)) (h8 : cK S o4 = 9) (h9 : o4 ∈ cL S) : cMetW (cQi (fun r_ u_ => ∃ (S1 : cS), S1 = cSi S 98 o3 (nI 0) ∧ r_ = (nI 1) ∧ u_ = S1)) l yL_synonym cL_synonym 3 (some .int) [(0, 8, 11, 15)] 7 1 6 102 [.ref o1, .ref o2] S dp := by
  intro D Y tp sz
  refine cg_bodyW (by decide +kernel) (Nat.le_of_ble_eq_true rfl) ?_
  intro p e s m args below meth c C htab
  generalize va_A (cWd Y S) sz = A at C ⊢
  have C : cC p s m args meth c cL_synonym 3 (some .int) A D Y tp dp RL := C
  refine cg_lv (lv' := [(0, .ref o1), (1, .ref o2)]) rfl ?_
  refine cg_aload_n C (i := 1) rfl 1 rfl dL_synonym_0 ?_
  refine cg_iconst C (x := nI 0) rfl dL_synonym_1 ?_
  refine cg_aload_n C (i := 0) rfl 0 rfl dL_synonym_2 ?_
  refine cg_callx_catch C htab (z25_X11_synonym l hlt S dp o1 o3 o4 h1 h2 h3 h4 h5 h6 h7 h8 h9) cc_L_21 h3 h2 (by decide) rfl rfl ⟨by decide, by decide⟩ ⟨by decide, by decide⟩ rfl (Nat.le_of_ble_eq_true rfl) dL_synonym_3 (tableOf []) ⟨0, 8, 11, 15⟩ (tableOf []) rfl (fun z hz => nomatch hz) (by decide) (by decide) (name := "java/lang/IllegalStateException") ce_L_15 (by decide) 11 rfl (fun x_3 u_3 h_3 => ?_)
  obtain ⟨S1, hS1, hu_3⟩ := h_3
  have hw_3 := hu_3.symm
  subst hw_3
  refine cg_astore_n (lv' := [(2, .ref x_3), (0, .ref o1), (1, .ref o2)]) C (i := 2) rfl (Nat.le_of_ble_eq_true rfl) rfl dL_synonym_11 ?_
  refine cg_iconst C (x := nI 1) rfl dL_synonym_12 ?_
  exact cg_iret C ⟨S1, hS1, rfl, rfl⟩ dL_synonym_13 (by decide) (by decide)
set_option maxHeartbeats 4000000 in
set_option maxRecDepth 100000 in
theorem z27_X11_checkField (l : Launch) (hlt : l.stackTraces = false) (S : cS) (dp : Nat) (x1 : Int32) (h1 : x1 < 0) : cMetX "java/lang/IndexOutOfBoundsException" (fun u_ => u_ = S) l yX11_checkField cX11_checkField 1 none 6 1 6 82 [.int x1] S dp := by
  intro D Y tp sz
  refine cg_bodyX (by decide +kernel) (Nat.le_of_ble_eq_true rfl) ?_
  intro p e s m args below meth c C hne
  generalize va_A (cWd Y S) sz = A at C ⊢
  have C : cC p s m args meth c cX11_checkField 1 none A D Y tp dp RX11 := C
  refine cg_lv (lv' := [(0, .int x1)]) rfl ?_
  refine cg_iload_n C (i := 0) rfl 0 rfl dX11_checkField_0 ?_
  refine cg_if_lt C 9 (by decide) dX11_checkField_1 (fun c_1 => ?_) (fun c_ => absurd (cneg0_lt h1) c_)
  exact cg_throw3W C hlt hne "there is no such field" ce_X11_269 cei_3 (by decide) dX11_checkField_9 dX11_checkField_12 dX11_checkField_13 dX11_checkField_16 dX11_checkField_19 (by decide) (by decide) ⟨by decide, by decide⟩ ⟨by decide, by decide⟩ rfl
set_option maxHeartbeats 4000000 in
set_option maxRecDepth 100000 in
theorem z28_X11_text (l : Launch) (hlt : l.stackTraces = false) (S : cS) (dp : Nat) (o1 : Nat) (x1 : Int32) (h1 : x1 < 0) : cMetX "java/lang/IndexOutOfBoundsException" (fun u_ => u_ = S) l yX11_text cX11_text 3 (some .int) 7 1 6 102 [.ref o1, .int x1] S dp := by
  intro D Y tp sz
  refine cg_bodyX (by decide +kernel) (Nat.le_of_ble_eq_true rfl) ?_
  intro p e s m args below meth c C hne
  generalize va_A (cWd Y S) sz = A at C ⊢
  have C : cC p s m args meth c cX11_text 3 (some .int) A D Y tp dp RX11 := C
  refine cg_lv (lv' := [(0, .ref o1), (1, .int x1)]) rfl ?_
  refine cg_iload_n C (i := 1) rfl 1 rfl dX11_text_0 ?_
  exact cg_callsx C hne (z27_X11_checkField l hlt S dp x1 h1) cc_X11_152 rfl ⟨by decide, by decide⟩ ⟨by decide, by decide⟩ rfl (Nat.le_of_ble_eq_true rfl) dX11_text_1 ⟨by decide, by decide⟩ (fun u_ h_ => by
      have hu_ := h_
      exact hu_)
set_option maxHeartbeats 4000000 in
set_option maxRecDepth 100000 in
theorem z29_L_text (l : Launch) (hlt : l.stackTraces = false) (S : cS) (dp : Nat) (o1 o2 : Nat) (x1 : Int32) (h1 : x1 < 0) (h2 : o1 ∈ cL S) (h3 : cK S o1 = 11) : cMetW (cQi (fun r_ u_ => r_ = (nI 1) ∧ u_ = S)) l yL_text cL_text 4 (some .int) [(0, 9, 12, 28)] 8 1 6 124 [.ref o1, .int x1, .ref o2] S dp := by
  intro D Y tp sz
  refine cg_bodyW (by decide +kernel) (Nat.le_of_ble_eq_true rfl) ?_
  intro p e s m args below meth c C htab
  generalize va_A (cWd Y S) sz = A at C ⊢
  have C : cC p s m args meth c cL_text 4 (some .int) A D Y tp dp RL := C
  refine cg_lv (lv' := [(0, .ref o1), (1, .int x1), (2, .ref o2)]) rfl ?_
  refine cg_aload_n C (i := 2) rfl 2 rfl dL_text_0 ?_
  refine cg_iconst C (x := nI 0) rfl dL_text_1 ?_
  refine cg_aload_n C (i := 0) rfl 0 rfl dL_text_2 ?_
  refine cg_iload_n C (i := 1) rfl 1 rfl dL_text_3 ?_
  refine cg_callx_catch C htab (z28_X11_text l hlt S dp o1 x1 h1) cc_L_24 h2 h3 (by decide) rfl rfl ⟨by decide, by decide⟩ ⟨by decide, by decide⟩ rfl (Nat.le_of_ble_eq_true rfl) dL_text_4 (tableOf []) ⟨0, 9, 12, 28⟩ (tableOf []) rfl (fun z hz => nomatch hz) (by decide) (by decide) (name := "java/lang/IndexOutOfBoundsException") ce_L_28 (by decide) 12 rfl (fun x_4 u_4 h_4 => ?_)
  have hu_4 := h_4
  have hw_4 := hu_4.symm
  subst hw_4
  refine cg_astore_n (lv' := [(3, .ref x_4), (0, .ref o1), (1, .int x1), (2, .ref o2)]) C (i := 3) rfl (Nat.le_of_ble_eq_true rfl) rfl dL_text_12 ?_
  refine cg_iconst C (x := nI 1) rfl dL_text_13 ?_
  exact cg_iret C ⟨rfl, rfl⟩ dL_text_14 (by decide) (by decide)
set_option maxHeartbeats 4000000 in
set_option maxRecDepth 100000 in
theorem z30_X11_checkField (l : Launch) (hlt : l.stackTraces = false) (S : cS) (dp : Nat) (n1 : Nat) (h1 : n1 ≤ 1) : cMet (cQv (fun u_ => u_ = S)) l yX11_checkField cX11_checkField 1 none 0 0 0 0 [.int (nI n1)] S dp := by
  intro D Y tp sz
  refine cg_body (by decide +kernel) (Nat.le_of_ble_eq_true rfl) ?_
  intro p e s m args below meth c C
  generalize va_A (cWd Y S) sz = A at C ⊢
  have C : cC p s m args meth c cX11_checkField 1 none A D Y tp dp RX11 := C
  refine cg_lv (lv' := [(0, .int (nI n1))]) rfl ?_
  refine cg_iload_n C (i := 0) rfl 0 rfl dX11_checkField_0 ?_
  refine cg_if_ltN C (by omega) 9 (by decide) dX11_checkField_1 ?_
  refine cg_iload_n C (i := 0) rfl 0 rfl dX11_checkField_4 ?_
  refine cg_iconst C (x := nI 2) rfl dX11_checkField_5 ?_
  refine cg_icmp_ltN C (by omega) (by omega) 20 (by decide) dX11_checkField_6 (fun c_6 => ?_) (fun c_ => absurd c_ (by omega))
  exact cg_vret C rfl dX11_checkField_20 (by decide) (by decide)
set_option maxHeartbeats 4000000 in
set_option maxRecDepth 100000 in
theorem z31_X3_tokenise (l : Launch) (hlt : l.stackTraces = false) (S : cS) (dp : Nat) (o1 o2 : Nat) (h1 : cK S o1 = 3) (h2 : o1 ∈ cL S) (h3 : ci S 289 o2 = (nI 0)) (h4 : cK S o2 = 9) (h5 : o2 ∈ cL S) : cMet (cQv (fun u_ => ∃ (S1 : cS), S1 = cSi S 98 o1 (nI 0) ∧ ∃ (S2 : cS), S2 = cSi S1 292 o2 (nI 0) ∧ u_ = S2)) l yX3_tokenise cX3_tokenise 6 none 1 0 0 24 [.ref o1, .ref o2, .int (nI 1)] S dp := by
  intro D Y tp sz
  refine cg_body (by decide +kernel) (Nat.le_of_ble_eq_true rfl) ?_
  intro p e s m args below meth c C
  generalize va_A (cWd Y S) sz = A at C ⊢
  have C : cC p s m args meth c cX3_tokenise 6 none A D Y tp dp RX3 := C
  refine cg_lv (lv' := [(0, .ref o1), (1, .ref o2), (2, .int (nI 1))]) rfl ?_
  refine cg_aload_n C (i := 0) rfl 0 rfl dX3_tokenise_0 ?_
  refine cg_aload_n C (i := 1) rfl 1 rfl dX3_tokenise_1 ?_
  refine cg_callv C (z21_X3_readWordsOf l hlt S dp o1 o2 h1 h2 h3 h4 h5) cc_X3_45 h2 h1 (by decide) rfl rfl ⟨by decide, by decide⟩ ⟨by decide, by decide⟩ rfl (Nat.le_of_ble_eq_true rfl) dX3_tokenise_2 (fun u_2 h_2 => ?_)
  obtain ⟨S1, hS1, hu_2⟩ := h_2
  have hw_2 := hu_2.symm
  subst hw_2
  refine cg_aload_n C (i := 1) rfl 1 rfl dX3_tokenise_5 ?_
  refine cg_iconst C (x := nI 0) rfl dX3_tokenise_6 ?_
  refine cg_puti C (k := 9) (j := 4) (ty := tyX9) (fty := .int) (hm_Si hS1 h5) (hk_Si hS1 h4) (by decide) rfl (by decide) rfl (by decide) rfl cWs_wsX90 tyX9_ok nmX9 cl_X3_53 rfl rfl rfl rfl rfl dX3_tokenise_7 ?_
  refine cg_nm (fun S2 (hS2 : S2 = cSi S1 292 o2 (nI 0)) => ?_)
  refine cg_iconst C (x := nI 0) rfl dX3_tokenise_10 ?_
  refine cg_istore_n C (i := 3) (lv' := [(3, .int (nI 0)), (0, .ref o1), (1, .ref o2), (2, .int (nI 1))]) rfl (Nat.le_of_ble_eq_true rfl) rfl dX3_tokenise_11 ?_
  refine cg_iload_n C (i := 3) rfl 0 rfl dX3_tokenise_12 ?_
  refine cg_aload_n C (i := 0) rfl 1 rfl dX3_tokenise_13 ?_
  refine cg_get C (k := 3) (j := 2) (.int (nI 0)) (hm_Si hS2 (hm_Si hS1 h2)) (hk_Si hS2 (hk_Si hS1 h1)) (by decide) rfl (by decide) rfl (show cV _ 3 2 o1 = _ from congrArg Value.int (hi_Si_q hS2 (by decide) (hi_Si_s hS1))) cWs_wsX30 cl_X3_22 rfl dX3_tokenise_14 ?_
  refine cg_icmp_geN C (by omega) (by omega) 64 (by decide) dX3_tokenise_17 (fun c_17 => ?_) (fun c_ => absurd c_ (by omega))
  exact cg_vret C ⟨S1, hS1, S2, hS2, rfl⟩ dX3_tokenise_64 (by decide) (by decide)
set_option maxHeartbeats 4000000 in
set_option maxRecDepth 100000 in
theorem z32_X11_checkField (l : Launch) (hlt : l.stackTraces = false) (S : cS) (dp : Nat) : cMet (cQv (fun u_ => u_ = S)) l yX11_checkField cX11_checkField 1 none 0 0 0 0 [.int (nI 0)] S dp := by
  intro D Y tp sz
  refine cg_body (by decide +kernel) (Nat.le_of_ble_eq_true rfl) ?_
  intro p e s m args below meth c C
  generalize va_A (cWd Y S) sz = A at C ⊢
  have C : cC p s m args meth c cX11_checkField 1 none A D Y tp dp RX11 := C
  refine cg_lv (lv' := [(0, .int (nI 0))]) rfl ?_
  refine cg_iload_n C (i := 0) rfl 0 rfl dX11_checkField_0 ?_
  refine cg_if_ltN C (by omega) 9 (by decide) dX11_checkField_1 ?_
  refine cg_iload_n C (i := 0) rfl 0 rfl dX11_checkField_4 ?_
  refine cg_iconst C (x := nI 2) rfl dX11_checkField_5 ?_
  refine cg_icmp_ltN C (by omega) (by omega) 20 (by decide) dX11_checkField_6 (fun c_6 => ?_) (fun c_ => absurd c_ (by omega))
  exact cg_vret C rfl dX11_checkField_20 (by decide) (by decide)
set_option maxHeartbeats 4000000 in
set_option maxRecDepth 100000 in
theorem z33_X0_putText (l : Launch) (hlt : l.stackTraces = false) (S : cS) (dp : Nat) (o1 o2 : Nat) (h1 : cK S o1 = 0) (h2 : o1 ∈ cL S) : cMet (cQv (fun u_ => ∃ (S1 : cS), S1 = cSr S 3 o1 (some o2) ∧ u_ = S1)) l yX0_putText cX0_putText 3 none 0 0 0 0 [.ref o1, .int (nI 0), .ref o2] S dp := by
  intro D Y tp sz
  refine cg_body (by decide +kernel) (Nat.le_of_ble_eq_true rfl) ?_
  intro p e s m args below meth c C
  generalize va_A (cWd Y S) sz = A at C ⊢
  have C : cC p s m args meth c cX0_putText 3 none A D Y tp dp RX0 := C
  refine cg_lv (lv' := [(0, .ref o1), (1, .int (nI 0)), (2, .ref o2)]) rfl ?_
  refine cg_iload_n C (i := 1) rfl 1 rfl dX0_putText_0 ?_
  refine cg_if_neN C (by omega) 12 (by decide) dX0_putText_1 (fun c_ => absurd c_ (by omega)) (fun c_1 => ?_)
  refine cg_aload_n C (i := 0) rfl 0 rfl dX0_putText_4 ?_
  refine cg_aload_n C (i := 2) rfl 2 rfl dX0_putText_5 ?_
  refine cg_putr C (k := 0) (j := 3) (x := (some o2)) (ty := tyX0) (fty := tyX0 3) h2 h1 (by decide) rfl (by decide) rfl (by decide) rfl cWs_wsX00 tyX0_ok nmX0 cl_X0_24 rfl rfl rfl rfl rfl dX0_putText_6 ?_
  refine cg_nm (fun S1 (hS1 : S1 = cSr S 3 o1 (some o2)) => ?_)
  refine cg_goto C 17 (by decide) dX0_putText_9 ?_
  exact cg_vret C ⟨S1, hS1, rfl⟩ dX0_putText_17 (by decide) (by decide)
set_option maxHeartbeats 4000000 in
set_option maxRecDepth 100000 in
theorem z34_X11_text (l : Launch) (hlt : l.stackTraces = false) (S : cS) (dp : Nat) (o1 o2 o3 o4 : Nat) (h1 : cr S 352 o1 = (some o2)) (h2 : cK S o1 = 11) (h3 : o1 ∈ cL S) (h4 : cr S 96 o2 = (some o3)) (h5 : cK S o2 = 3) (h6 : o2 ∈ cL S) (h7 : ci S 289 o3 = (nI 0)) (h8 : o3 ∈ cL S) (h9 : cK S o3 = 9) (h10 : cr S 353 o1 = (some o4)) (h11 : cK S o4 = 0) (h12 : o4 ∈ cL S) : cMet (cQi (fun r_ u_ => ∃ (q1 : Nat) (S1 : cS), q1 ∉ cL S ∧ S1 = cNew S q1 9 ∧ ∃ (q2 : Nat) (S2 : cS), q2 ∉ cL S1 ∧ S2 = cNewA S1 q2 14 40 ∧ ∃ (S3 : cS), S3 = cSr S2 288 q1 (some q2) ∧ ∃ (S4 : cS), S4 = cSi S3 289 q1 (nI 0) ∧ ∃ (q3 : Nat) (S5 : cS), q3 ∉ cL S4 ∧ S5 = cNewA S4 q3 15 0 ∧ ∃ (S6 : cS), S6 = cSr S5 290 q1 (some q3) ∧ ∃ (q4 : Nat) (S7 : cS), q4 ∉ cL S6 ∧ S7 = cNewA S6 q4 14 0 ∧ ∃ (S8 : cS), S8 = cSr S7 291 q1 (some q4) ∧ ∃ (S9 : cS), S9 = cSi S8 292 q1 (nI 0) ∧ ∃ (S10 : cS), S10 = cSr S9 96 o2 (some q1) ∧ ∃ (S11 : cS), S11 = cSi S10 98 o2 (nI 0) ∧ ∃ (S12 : cS), S12 = cSi S11 292 o3 (nI 0) ∧ ∃ (S13 : cS), S13 = cSr S12 3 o4 (some o3) ∧ r_ = (nI 0) ∧ u_ = S13)) l yX11_text cX11_text 3 (some .int) 3 4 45 73 [.ref o1, .int (nI 0)] S dp := by
  intro D Y tp sz
  refine cg_body (by decide +kernel) (Nat.le_of_ble_eq_true rfl) ?_
  intro p e s m args below meth c C
  generalize va_A (cWd Y S) sz = A at C ⊢
  have C : cC p s m args meth c cX11_text 3 (some .int) A D Y tp dp RX11 := C
  refine cg_lv (lv' := [(0, .ref o1), (1, .int (nI 0))]) rfl ?_
  refine cg_iload_n C (i := 1) rfl 1 rfl dX11_text_0 ?_
  refine cg_callsv C (z32_X11_checkField l hlt S dp ) cc_X11_152 rfl ⟨by decide, by decide⟩ ⟨by decide, by decide⟩ rfl (Nat.le_of_ble_eq_true rfl) dX11_text_1 (fun u_1 h_1 => ?_)
  have hu_1 := h_1
  have hw_1 := hu_1.symm
  subst hw_1
  refine cg_aload_n C (i := 0) rfl 0 rfl dX11_text_4 ?_
  refine cg_get C (k := 11) (j := 0) (.ref o2) h3 h2 (by decide) rfl (by decide) rfl (show cV _ 11 0 o1 = _ from congrArg va_rf h1) cWs_wsX110 cl_X11_10 rfl dX11_text_5 ?_
  refine cg_callr C (z19_X3_takePad l hlt S dp o2 o3 h4 h5 h6) cc_X11_125 h6 h5 (by decide) rfl rfl ⟨by decide, by decide⟩ ⟨by decide, by decide⟩ rfl (Nat.le_of_ble_eq_true rfl) dX11_text_8 (fun r_8 u_8 h_8 => ?_)
  obtain ⟨q1, S1, hf_q1, hS1, q2, S2, hf_q2, hS2, S3, hS3, S4, hS4, q3, S5, hf_q3, hS5, S6, hS6, q4, S7, hf_q4, hS7, S8, hS8, S9, hS9, S10, hS10, hr_8, hu_8⟩ := h_8
  have hw_8 := hu_8.symm
  subst hw_8
  have hx_8 := hr_8.symm
  subst hx_8
  refine cg_astore_n (lv' := [(2, .ref o3), (0, .ref o1), (1, .int (nI 0))]) C (i := 2) rfl (Nat.le_of_ble_eq_true rfl) rfl dX11_text_11 ?_
  refine cg_aload_n C (i := 0) rfl 1 rfl dX11_text_12 ?_
  have f_1 : cr S4 352 o1 = (some o2) := (hr_Si hS4 (hr_Sr_q hS3 (by decide) (hr_A hS2 (hr_N hS1 (cm_ne h3 hf_q1) h1))))
  have f_2 : cr S8 352 o1 = (some o2) := (hr_Sr_q hS8 (by decide) (hr_A hS7 (hr_Sr_q hS6 (by decide) (hr_A hS5 f_1))))
  have f_3 : cK S3 o1 = 11 := (hk_Sr hS3 (hk_A hS2 (cm_ne (hm_N hS1 h3) hf_q2) (hk_N hS1 (cm_ne h3 hf_q1) h2)))
  have f_4 : cK S5 o1 = 11 := (hk_A hS5 (cm_ne (hm_Si hS4 (hm_Sr hS3 (hm_A hS2 (hm_N hS1 h3)))) hf_q3) (hk_Si hS4 f_3))
  have f_5 : o1 ∈ cL S6 := (hm_Sr hS6 (hm_A hS5 (hm_Si hS4 (hm_Sr hS3 (hm_A hS2 (hm_N hS1 h3))))))
  have f_6 : cK S10 o1 = 11 := (hk_Sr hS10 (hk_Si hS9 (hk_Sr hS8 (hk_A hS7 (cm_ne f_5 hf_q4) (hk_Sr hS6 f_4)))))
  refine cg_get C (k := 11) (j := 0) (.ref o2) (hm_Sr hS10 (hm_Si hS9 (hm_Sr hS8 (hm_A hS7 f_5)))) f_6 (by decide) rfl (by decide) rfl (show cV _ 11 0 o1 = _ from congrArg va_rf (hr_Sr_q hS10 (by decide) (hr_Si hS9 f_2))) cWs_wsX110 cl_X11_10 rfl dX11_text_13 ?_
  refine cg_aload_n C (i := 2) rfl 0 rfl dX11_text_16 ?_
  refine cg_iconst C (x := nI 1) rfl dX11_text_17 ?_
  have f_7 : cK S3 o2 = 3 := (hk_Sr hS3 (hk_A hS2 (cm_ne (hm_N hS1 h6) hf_q2) (hk_N hS1 (cm_ne h6 hf_q1) h5)))
  have f_8 : cK S5 o2 = 3 := (hk_A hS5 (cm_ne (hm_Si hS4 (hm_Sr hS3 (hm_A hS2 (hm_N hS1 h6)))) hf_q3) (hk_Si hS4 f_7))
  have f_9 : o2 ∈ cL S6 := (hm_Sr hS6 (hm_A hS5 (hm_Si hS4 (hm_Sr hS3 (hm_A hS2 (hm_N hS1 h6))))))
  have f_10 : cK S10 o2 = 3 := (hk_Sr hS10 (hk_Si hS9 (hk_Sr hS8 (hk_A hS7 (cm_ne f_9 hf_q4) (hk_Sr hS6 f_8)))))
  have f_11 : ci S4 289 o3 = (nI 0) := (hi_Si_n hS4 (cm_ne h8 hf_q1) (hi_Sr hS3 (hi_A hS2 (hi_N hS1 (cm_ne h8 hf_q1) h7))))
  have f_12 : ci S9 289 o3 = (nI 0) := (hi_Si_q hS9 (by decide) (hi_Sr hS8 (hi_A hS7 (hi_Sr hS6 (hi_A hS5 f_11)))))
  have f_13 : cK S3 o3 = 9 := (hk_Sr hS3 (hk_A hS2 (cm_ne (hm_N hS1 h8) hf_q2) (hk_N hS1 (cm_ne h8 hf_q1) h9)))
  have f_14 : cK S5 o3 = 9 := (hk_A hS5 (cm_ne (hm_Si hS4 (hm_Sr hS3 (hm_A hS2 (hm_N hS1 h8)))) hf_q3) (hk_Si hS4 f_13))
  have f_15 : o3 ∈ cL S6 := (hm_Sr hS6 (hm_A hS5 (hm_Si hS4 (hm_Sr hS3 (hm_A hS2 (hm_N hS1 h8))))))
  have f_16 : cK S10 o3 = 9 := (hk_Sr hS10 (hk_Si hS9 (hk_Sr hS8 (hk_A hS7 (cm_ne f_15 hf_q4) (hk_Sr hS6 f_14)))))
  refine cg_callv C (z31_X3_tokenise l hlt S10 dp o2 o3 f_10 (hm_Sr hS10 (hm_Si hS9 (hm_Sr hS8 (hm_A hS7 f_9)))) (hi_Sr hS10 f_12) f_16 (hm_Sr hS10 (hm_Si hS9 (hm_Sr hS8 (hm_A hS7 f_15))))) cc_X11_155 (hm_Sr hS10 (hm_Si hS9 (hm_Sr hS8 (hm_A hS7 f_9)))) f_10 (by decide) rfl rfl ⟨by decide, by decide⟩ ⟨by decide, by decide⟩ rfl (Nat.le_of_ble_eq_true rfl) dX11_text_18 (fun u_18 h_18 => ?_)
  obtain ⟨S11, hS11, S12, hS12, hu_18⟩ := h_18
  have hw_18 := hu_18.symm
  subst hw_18
  refine cg_aload_n C (i := 0) rfl 1 rfl dX11_text_21 ?_
  have f_17 : cr S4 353 o1 = (some o4) := (hr_Si hS4 (hr_Sr_q hS3 (by decide) (hr_A hS2 (hr_N hS1 (cm_ne h3 hf_q1) h10))))
  have f_18 : cr S8 353 o1 = (some o4) := (hr_Sr_q hS8 (by decide) (hr_A hS7 (hr_Sr_q hS6 (by decide) (hr_A hS5 f_17))))
  have f_19 : o1 ∈ cL S12 := (hm_Si hS12 (hm_Si hS11 (hm_Sr hS10 (hm_Si hS9 (hm_Sr hS8 (hm_A hS7 f_5))))))
  refine cg_get C (k := 11) (j := 1) (.ref o4) f_19 (hk_Si hS12 (hk_Si hS11 f_6)) (by decide) rfl (by decide) rfl (show cV _ 11 1 o1 = _ from congrArg va_rf (hr_Si hS12 (hr_Si hS11 (hr_Sr_q hS10 (by decide) (hr_Si hS9 f_18))))) cWs_wsX110 cl_X11_19 rfl dX11_text_22 ?_
  refine cg_iload_n C (i := 1) rfl 2 rfl dX11_text_25 ?_
  refine cg_aload_n C (i := 2) rfl 0 rfl dX11_text_26 ?_
  have f_20 : cK S2 o4 = 0 := (hk_A hS2 (cm_ne (hm_N hS1 h12) hf_q2) (hk_N hS1 (cm_ne h12 hf_q1) h11))
  have f_21 : cK S5 o4 = 0 := (hk_A hS5 (cm_ne (hm_Si hS4 (hm_Sr hS3 (hm_A hS2 (hm_N hS1 h12)))) hf_q3) (hk_Si hS4 (hk_Sr hS3 f_20)))
  have f_22 : o4 ∈ cL S6 := (hm_Sr hS6 (hm_A hS5 (hm_Si hS4 (hm_Sr hS3 (hm_A hS2 (hm_N hS1 h12))))))
  have f_23 : cK S10 o4 = 0 := (hk_Sr hS10 (hk_Si hS9 (hk_Sr hS8 (hk_A hS7 (cm_ne f_22 hf_q4) (hk_Sr hS6 f_21)))))
  have f_24 : o4 ∈ cL S12 := (hm_Si hS12 (hm_Si hS11 (hm_Sr hS10 (hm_Si hS9 (hm_Sr hS8 (hm_A hS7 f_22))))))
  refine cg_callv C (z33_X0_putText l hlt S12 dp o4 o3 (hk_Si hS12 (hk_Si hS11 f_23)) f_24) cc_X11_159 f_24 (hk_Si hS12 (hk_Si hS11 f_23)) (by decide) rfl rfl ⟨by decide, by decide⟩ ⟨by decide, by decide⟩ rfl (Nat.le_of_ble_eq_true rfl) dX11_text_27 (fun u_27 h_27 => ?_)
  obtain ⟨S13, hS13, hu_27⟩ := h_27
  have hw_27 := hu_27.symm
  subst hw_27
  refine cg_aload_n C (i := 2) rfl 0 rfl dX11_text_30 ?_
  have f_25 : o3 ∈ cL S12 := (hm_Si hS12 (hm_Si hS11 (hm_Sr hS10 (hm_Si hS9 (hm_Sr hS8 (hm_A hS7 f_15))))))
  refine cg_get C (k := 9) (j := 4) (.int (nI 0)) (hm_Sr hS13 f_25) (hk_Sr hS13 (hk_Si hS12 (hk_Si hS11 f_16))) (by decide) rfl (by decide) rfl (show cV _ 9 4 o3 = _ from congrArg Value.int (hi_Sr hS13 (hi_Si_s hS12))) cWs_wsX90 cl_X11_163 rfl dX11_text_31 ?_
  exact cg_iret C ⟨q1, S1, hf_q1, hS1, q2, S2, hf_q2, hS2, S3, hS3, S4, hS4, q3, S5, hf_q3, hS5, S6, hS6, q4, S7, hf_q4, hS7, S8, hS8, S9, hS9, S10, hS10, S11, hS11, S12, hS12, S13, hS13, rfl, rfl⟩ dX11_text_34 (by decide) (by decide)
set_option maxHeartbeats 4000000 in
set_option maxRecDepth 100000 in
theorem z35_L_text (l : Launch) (hlt : l.stackTraces = false) (S : cS) (dp : Nat) (o1 o2 o3 o4 o5 : Nat) (h1 : cr S 352 o1 = (some o3)) (h2 : cK S o1 = 11) (h3 : o1 ∈ cL S) (h4 : cr S 96 o3 = (some o4)) (h5 : cK S o3 = 3) (h6 : o3 ∈ cL S) (h7 : ci S 289 o4 = (nI 0)) (h8 : o4 ∈ cL S) (h9 : cK S o4 = 9) (h10 : cr S 353 o1 = (some o5)) (h11 : cK S o5 = 0) (h12 : o5 ∈ cL S) (h13 : cK S o2 = 15) (h14 : o2 ∈ cL S) (h15 : cn S o2 = 1) : cMetW (cQi (fun r_ u_ => ∃ (q1 : Nat) (S1 : cS), q1 ∉ cL S ∧ S1 = cNew S q1 9 ∧ ∃ (q2 : Nat) (S2 : cS), q2 ∉ cL S1 ∧ S2 = cNewA S1 q2 14 40 ∧ ∃ (S3 : cS), S3 = cSr S2 288 q1 (some q2) ∧ ∃ (S4 : cS), S4 = cSi S3 289 q1 (nI 0) ∧ ∃ (q3 : Nat) (S5 : cS), q3 ∉ cL S4 ∧ S5 = cNewA S4 q3 15 0 ∧ ∃ (S6 : cS), S6 = cSr S5 290 q1 (some q3) ∧ ∃ (q4 : Nat) (S7 : cS), q4 ∉ cL S6 ∧ S7 = cNewA S6 q4 14 0 ∧ ∃ (S8 : cS), S8 = cSr S7 291 q1 (some q4) ∧ ∃ (S9 : cS), S9 = cSi S8 292 q1 (nI 0) ∧ ∃ (S10 : cS), S10 = cSr S9 96 o3 (some q1) ∧ ∃ (S11 : cS), S11 = cSi S10 98 o3 (nI 0) ∧ ∃ (S12 : cS), S12 = cSi S11 292 o4 (nI 0) ∧ ∃ (S13 : cS), S13 = cSr S12 3 o5 (some o4) ∧ ∃ (S14 : cS), S14 = cSJ S13 o2 0 (((nI 0)).toInt64) ∧ r_ = (nI 0) ∧ u_ = S14)) l yL_text cL_text 4 (some .int) [(0, 9, 12, 28)] 4 4 45 95 [.ref o1, .int (nI 0), .ref o2] S dp := by
  intro D Y tp sz
  refine cg_bodyW (by decide +kernel) (Nat.le_of_ble_eq_true rfl) ?_
  intro p e s m args below meth c C htab
  generalize va_A (cWd Y S) sz = A at C ⊢
  have C : cC p s m args meth c cL_text 4 (some .int) A D Y tp dp RL := C
  refine cg_lv (lv' := [(0, .ref o1), (1, .int (nI 0)), (2, .ref o2)]) rfl ?_
  refine cg_aload_n C (i := 2) rfl 2 rfl dL_text_0 ?_
  refine cg_iconst C (x := nI 0) rfl dL_text_1 ?_
  refine cg_aload_n C (i := 0) rfl 0 rfl dL_text_2 ?_
  refine cg_iload_n C (i := 1) rfl 1 rfl dL_text_3 ?_
  refine cg_calli C (z34_X11_text l hlt S dp o1 o3 o4 o5 h1 h2 h3 h4 h5 h6 h7 h8 h9 h10 h11 h12) cc_L_24 h3 h2 (by decide) rfl rfl ⟨by decide, by decide⟩ ⟨by decide, by decide⟩ rfl (Nat.le_of_ble_eq_true rfl) dL_text_4 (fun r_4 u_4 h_4 => ?_)
  obtain ⟨q1, S1, hf_q1, hS1, q2, S2, hf_q2, hS2, S3, hS3, S4, hS4, q3, S5, hf_q3, hS5, S6, hS6, q4, S7, hf_q4, hS7, S8, hS8, S9, hS9, S10, hS10, S11, hS11, S12, hS12, S13, hS13, hr_4, hu_4⟩ := h_4
  have hw_4 := hu_4.symm
  subst hw_4
  have hx_4 := hr_4.symm
  subst hx_4
  refine cg_i2l C dL_text_7 ?_
  have f_1 : cK S2 o2 = 15 := (hk_A hS2 (cm_ne (hm_N hS1 h14) hf_q2) (hk_N hS1 (cm_ne h14 hf_q1) h13))
  have f_2 : cK S5 o2 = 15 := (hk_A hS5 (cm_ne (hm_Si hS4 (hm_Sr hS3 (hm_A hS2 (hm_N hS1 h14)))) hf_q3) (hk_Si hS4 (hk_Sr hS3 f_1)))
  have f_3 : o2 ∈ cL S6 := (hm_Sr hS6 (hm_A hS5 (hm_Si hS4 (hm_Sr hS3 (hm_A hS2 (hm_N hS1 h14))))))
  have f_4 : cK S10 o2 = 15 := (hk_Sr hS10 (hk_Si hS9 (hk_Sr hS8 (hk_A hS7 (cm_ne f_3 hf_q4) (hk_Sr hS6 f_2)))))
  have f_5 : cn S4 o2 = 1 := (hn_Si hS4 (hn_Sr hS3 (hn_A hS2 (cm_ne (hm_N hS1 h14) hf_q2) (hn_N hS1 h15))))
  have f_6 : cn S5 o2 = 1 := (hn_A hS5 (cm_ne (hm_Si hS4 (hm_Sr hS3 (hm_A hS2 (hm_N hS1 h14)))) hf_q3) f_5)
  have f_7 : cn S10 o2 = 1 := (hn_Sr hS10 (hn_Si hS9 (hn_Sr hS8 (hn_A hS7 (cm_ne f_3 hf_q4) (hn_Sr hS6 f_6)))))
  have f_8 : o2 ∈ cL S12 := (hm_Si hS12 (hm_Si hS11 (hm_Sr hS10 (hm_Si hS9 (hm_Sr hS8 (hm_A hS7 f_3))))))
  refine cg_lastore C 0 (hm_Sr hS13 f_8) (hk_Sr hS13 (hk_Si hS12 (hk_Si hS11 f_4))) (by rw [show cn _ _ = 1 from (hn_Sr hS13 (hn_Si hS12 (hn_Si hS11 f_7)))]; omega) (by rw [show cn _ _ = 1 from (hn_Sr hS13 (hn_Si hS12 (hn_Si hS11 f_7)))]; omega) dL_text_8 ?_
  refine cg_nm (fun S14 (hS14 : S14 = cSJ S13 o2 0 (((nI 0)).toInt64)) => ?_)
  refine cg_goto C 15 (by decide) dL_text_9 ?_
  refine cg_iconst C (x := nI 0) rfl dL_text_15 ?_
  exact cg_iret C ⟨q1, S1, hf_q1, hS1, q2, S2, hf_q2, hS2, S3, hS3, S4, hS4, q3, S5, hf_q3, hS5, S6, hS6, q4, S7, hf_q4, hS7, S8, hS8, S9, hS9, S10, hS10, S11, hS11, S12, hS12, S13, hS13, S14, hS14, rfl, rfl⟩ dL_text_16 (by decide) (by decide)
set_option maxHeartbeats 4000000 in
set_option maxRecDepth 100000 in
theorem z36_X11_checkField (l : Launch) (hlt : l.stackTraces = false) (S : cS) (dp : Nat) : cMet (cQv (fun u_ => u_ = S)) l yX11_checkField cX11_checkField 1 none 0 0 0 0 [.int (nI 1)] S dp := by
  intro D Y tp sz
  refine cg_body (by decide +kernel) (Nat.le_of_ble_eq_true rfl) ?_
  intro p e s m args below meth c C
  generalize va_A (cWd Y S) sz = A at C ⊢
  have C : cC p s m args meth c cX11_checkField 1 none A D Y tp dp RX11 := C
  refine cg_lv (lv' := [(0, .int (nI 1))]) rfl ?_
  refine cg_iload_n C (i := 0) rfl 0 rfl dX11_checkField_0 ?_
  refine cg_if_ltN C (by omega) 9 (by decide) dX11_checkField_1 ?_
  refine cg_iload_n C (i := 0) rfl 0 rfl dX11_checkField_4 ?_
  refine cg_iconst C (x := nI 2) rfl dX11_checkField_5 ?_
  refine cg_icmp_ltN C (by omega) (by omega) 20 (by decide) dX11_checkField_6 (fun c_6 => ?_) (fun c_ => absurd c_ (by omega))
  exact cg_vret C rfl dX11_checkField_20 (by decide) (by decide)
set_option maxHeartbeats 4000000 in
set_option maxRecDepth 100000 in
theorem z37_X0_putText (l : Launch) (hlt : l.stackTraces = false) (S : cS) (dp : Nat) (o1 o2 : Nat) (h1 : cK S o1 = 0) (h2 : o1 ∈ cL S) : cMet (cQv (fun u_ => ∃ (S1 : cS), S1 = cSr S 4 o1 (some o2) ∧ u_ = S1)) l yX0_putText cX0_putText 3 none 0 0 0 0 [.ref o1, .int (nI 1), .ref o2] S dp := by
  intro D Y tp sz
  refine cg_body (by decide +kernel) (Nat.le_of_ble_eq_true rfl) ?_
  intro p e s m args below meth c C
  generalize va_A (cWd Y S) sz = A at C ⊢
  have C : cC p s m args meth c cX0_putText 3 none A D Y tp dp RX0 := C
  refine cg_lv (lv' := [(0, .ref o1), (1, .int (nI 1)), (2, .ref o2)]) rfl ?_
  refine cg_iload_n C (i := 1) rfl 1 rfl dX0_putText_0 ?_
  refine cg_if_neN C (by omega) 12 (by decide) dX0_putText_1 (fun c_1 => ?_) (fun c_ => absurd c_ (by omega))
  refine cg_aload_n C (i := 0) rfl 0 rfl dX0_putText_12 ?_
  refine cg_aload_n C (i := 2) rfl 2 rfl dX0_putText_13 ?_
  refine cg_putr C (k := 0) (j := 4) (x := (some o2)) (ty := tyX0) (fty := tyX0 4) h2 h1 (by decide) rfl (by decide) rfl (by decide) rfl cWs_wsX00 tyX0_ok nmX0 cl_X0_28 rfl rfl rfl rfl rfl dX0_putText_14 ?_
  refine cg_nm (fun S1 (hS1 : S1 = cSr S 4 o1 (some o2)) => ?_)
  exact cg_vret C ⟨S1, hS1, rfl⟩ dX0_putText_17 (by decide) (by decide)
set_option maxHeartbeats 4000000 in
set_option maxRecDepth 100000 in
theorem z38_X11_text (l : Launch) (hlt : l.stackTraces = false) (S : cS) (dp : Nat) (o1 o2 o3 o4 : Nat) (h1 : cr S 352 o1 = (some o2)) (h2 : cK S o1 = 11) (h3 : o1 ∈ cL S) (h4 : cr S 96 o2 = (some o3)) (h5 : cK S o2 = 3) (h6 : o2 ∈ cL S) (h7 : ci S 289 o3 = (nI 0)) (h8 : o3 ∈ cL S) (h9 : cK S o3 = 9) (h10 : cr S 353 o1 = (some o4)) (h11 : cK S o4 = 0) (h12 : o4 ∈ cL S) : cMet (cQi (fun r_ u_ => ∃ (q1 : Nat) (S1 : cS), q1 ∉ cL S ∧ S1 = cNew S q1 9 ∧ ∃ (q2 : Nat) (S2 : cS), q2 ∉ cL S1 ∧ S2 = cNewA S1 q2 14 40 ∧ ∃ (S3 : cS), S3 = cSr S2 288 q1 (some q2) ∧ ∃ (S4 : cS), S4 = cSi S3 289 q1 (nI 0) ∧ ∃ (q3 : Nat) (S5 : cS), q3 ∉ cL S4 ∧ S5 = cNewA S4 q3 15 0 ∧ ∃ (S6 : cS), S6 = cSr S5 290 q1 (some q3) ∧ ∃ (q4 : Nat) (S7 : cS), q4 ∉ cL S6 ∧ S7 = cNewA S6 q4 14 0 ∧ ∃ (S8 : cS), S8 = cSr S7 291 q1 (some q4) ∧ ∃ (S9 : cS), S9 = cSi S8 292 q1 (nI 0) ∧ ∃ (S10 : cS), S10 = cSr S9 96 o2 (some q1) ∧ ∃ (S11 : cS), S11 = cSi S10 98 o2 (nI 0) ∧ ∃ (S12 : cS), S12 = cSi S11 292 o3 (nI 0) ∧ ∃ (S13 : cS), S13 = cSr S12 4 o4 (some o3) ∧ r_ = (nI 0) ∧ u_ = S13)) l yX11_text cX11_text 3 (some .int) 3 4 45 73 [.ref o1, .int (nI 1)] S dp := by
  intro D Y tp sz
  refine cg_body (by decide +kernel) (Nat.le_of_ble_eq_true rfl) ?_
  intro p e s m args below meth c C
  generalize va_A (cWd Y S) sz = A at C ⊢
  have C : cC p s m args meth c cX11_text 3 (some .int) A D Y tp dp RX11 := C
  refine cg_lv (lv' := [(0, .ref o1), (1, .int (nI 1))]) rfl ?_
  refine cg_iload_n C (i := 1) rfl 1 rfl dX11_text_0 ?_
  refine cg_callsv C (z36_X11_checkField l hlt S dp ) cc_X11_152 rfl ⟨by decide, by decide⟩ ⟨by decide, by decide⟩ rfl (Nat.le_of_ble_eq_true rfl) dX11_text_1 (fun u_1 h_1 => ?_)
  have hu_1 := h_1
  have hw_1 := hu_1.symm
  subst hw_1
  refine cg_aload_n C (i := 0) rfl 0 rfl dX11_text_4 ?_
  refine cg_get C (k := 11) (j := 0) (.ref o2) h3 h2 (by decide) rfl (by decide) rfl (show cV _ 11 0 o1 = _ from congrArg va_rf h1) cWs_wsX110 cl_X11_10 rfl dX11_text_5 ?_
  refine cg_callr C (z19_X3_takePad l hlt S dp o2 o3 h4 h5 h6) cc_X11_125 h6 h5 (by decide) rfl rfl ⟨by decide, by decide⟩ ⟨by decide, by decide⟩ rfl (Nat.le_of_ble_eq_true rfl) dX11_text_8 (fun r_8 u_8 h_8 => ?_)
  obtain ⟨q1, S1, hf_q1, hS1, q2, S2, hf_q2, hS2, S3, hS3, S4, hS4, q3, S5, hf_q3, hS5, S6, hS6, q4, S7, hf_q4, hS7, S8, hS8, S9, hS9, S10, hS10, hr_8, hu_8⟩ := h_8
  have hw_8 := hu_8.symm
  subst hw_8
  have hx_8 := hr_8.symm
  subst hx_8
  refine cg_astore_n (lv' := [(2, .ref o3), (0, .ref o1), (1, .int (nI 1))]) C (i := 2) rfl (Nat.le_of_ble_eq_true rfl) rfl dX11_text_11 ?_
  refine cg_aload_n C (i := 0) rfl 1 rfl dX11_text_12 ?_
  have f_1 : cr S4 352 o1 = (some o2) := (hr_Si hS4 (hr_Sr_q hS3 (by decide) (hr_A hS2 (hr_N hS1 (cm_ne h3 hf_q1) h1))))
  have f_2 : cr S8 352 o1 = (some o2) := (hr_Sr_q hS8 (by decide) (hr_A hS7 (hr_Sr_q hS6 (by decide) (hr_A hS5 f_1))))
  have f_3 : cK S3 o1 = 11 := (hk_Sr hS3 (hk_A hS2 (cm_ne (hm_N hS1 h3) hf_q2) (hk_N hS1 (cm_ne h3 hf_q1) h2)))
  have f_4 : cK S5 o1 = 11 := (hk_A hS5 (cm_ne (hm_Si hS4 (hm_Sr hS3 (hm_A hS2 (hm_N hS1 h3)))) hf_q3) (hk_Si hS4 f_3))
  have f_5 : o1 ∈ cL S6 := (hm_Sr hS6 (hm_A hS5 (hm_Si hS4 (hm_Sr hS3 (hm_A hS2 (hm_N hS1 h3))))))
  have f_6 : cK S10 o1 = 11 := (hk_Sr hS10 (hk_Si hS9 (hk_Sr hS8 (hk_A hS7 (cm_ne f_5 hf_q4) (hk_Sr hS6 f_4)))))
  refine cg_get C (k := 11) (j := 0) (.ref o2) (hm_Sr hS10 (hm_Si hS9 (hm_Sr hS8 (hm_A hS7 f_5)))) f_6 (by decide) rfl (by decide) rfl (show cV _ 11 0 o1 = _ from congrArg va_rf (hr_Sr_q hS10 (by decide) (hr_Si hS9 f_2))) cWs_wsX110 cl_X11_10 rfl dX11_text_13 ?_
  refine cg_aload_n C (i := 2) rfl 0 rfl dX11_text_16 ?_
  refine cg_iconst C (x := nI 1) rfl dX11_text_17 ?_
  have f_7 : cK S3 o2 = 3 := (hk_Sr hS3 (hk_A hS2 (cm_ne (hm_N hS1 h6) hf_q2) (hk_N hS1 (cm_ne h6 hf_q1) h5)))
  have f_8 : cK S5 o2 = 3 := (hk_A hS5 (cm_ne (hm_Si hS4 (hm_Sr hS3 (hm_A hS2 (hm_N hS1 h6)))) hf_q3) (hk_Si hS4 f_7))
  have f_9 : o2 ∈ cL S6 := (hm_Sr hS6 (hm_A hS5 (hm_Si hS4 (hm_Sr hS3 (hm_A hS2 (hm_N hS1 h6))))))
  have f_10 : cK S10 o2 = 3 := (hk_Sr hS10 (hk_Si hS9 (hk_Sr hS8 (hk_A hS7 (cm_ne f_9 hf_q4) (hk_Sr hS6 f_8)))))
  have f_11 : ci S4 289 o3 = (nI 0) := (hi_Si_n hS4 (cm_ne h8 hf_q1) (hi_Sr hS3 (hi_A hS2 (hi_N hS1 (cm_ne h8 hf_q1) h7))))
  have f_12 : ci S9 289 o3 = (nI 0) := (hi_Si_q hS9 (by decide) (hi_Sr hS8 (hi_A hS7 (hi_Sr hS6 (hi_A hS5 f_11)))))
  have f_13 : cK S3 o3 = 9 := (hk_Sr hS3 (hk_A hS2 (cm_ne (hm_N hS1 h8) hf_q2) (hk_N hS1 (cm_ne h8 hf_q1) h9)))
  have f_14 : cK S5 o3 = 9 := (hk_A hS5 (cm_ne (hm_Si hS4 (hm_Sr hS3 (hm_A hS2 (hm_N hS1 h8)))) hf_q3) (hk_Si hS4 f_13))
  have f_15 : o3 ∈ cL S6 := (hm_Sr hS6 (hm_A hS5 (hm_Si hS4 (hm_Sr hS3 (hm_A hS2 (hm_N hS1 h8))))))
  have f_16 : cK S10 o3 = 9 := (hk_Sr hS10 (hk_Si hS9 (hk_Sr hS8 (hk_A hS7 (cm_ne f_15 hf_q4) (hk_Sr hS6 f_14)))))
  refine cg_callv C (z31_X3_tokenise l hlt S10 dp o2 o3 f_10 (hm_Sr hS10 (hm_Si hS9 (hm_Sr hS8 (hm_A hS7 f_9)))) (hi_Sr hS10 f_12) f_16 (hm_Sr hS10 (hm_Si hS9 (hm_Sr hS8 (hm_A hS7 f_15))))) cc_X11_155 (hm_Sr hS10 (hm_Si hS9 (hm_Sr hS8 (hm_A hS7 f_9)))) f_10 (by decide) rfl rfl ⟨by decide, by decide⟩ ⟨by decide, by decide⟩ rfl (Nat.le_of_ble_eq_true rfl) dX11_text_18 (fun u_18 h_18 => ?_)
  obtain ⟨S11, hS11, S12, hS12, hu_18⟩ := h_18
  have hw_18 := hu_18.symm
  subst hw_18
  refine cg_aload_n C (i := 0) rfl 1 rfl dX11_text_21 ?_
  have f_17 : cr S4 353 o1 = (some o4) := (hr_Si hS4 (hr_Sr_q hS3 (by decide) (hr_A hS2 (hr_N hS1 (cm_ne h3 hf_q1) h10))))
  have f_18 : cr S8 353 o1 = (some o4) := (hr_Sr_q hS8 (by decide) (hr_A hS7 (hr_Sr_q hS6 (by decide) (hr_A hS5 f_17))))
  have f_19 : o1 ∈ cL S12 := (hm_Si hS12 (hm_Si hS11 (hm_Sr hS10 (hm_Si hS9 (hm_Sr hS8 (hm_A hS7 f_5))))))
  refine cg_get C (k := 11) (j := 1) (.ref o4) f_19 (hk_Si hS12 (hk_Si hS11 f_6)) (by decide) rfl (by decide) rfl (show cV _ 11 1 o1 = _ from congrArg va_rf (hr_Si hS12 (hr_Si hS11 (hr_Sr_q hS10 (by decide) (hr_Si hS9 f_18))))) cWs_wsX110 cl_X11_19 rfl dX11_text_22 ?_
  refine cg_iload_n C (i := 1) rfl 2 rfl dX11_text_25 ?_
  refine cg_aload_n C (i := 2) rfl 0 rfl dX11_text_26 ?_
  have f_20 : cK S2 o4 = 0 := (hk_A hS2 (cm_ne (hm_N hS1 h12) hf_q2) (hk_N hS1 (cm_ne h12 hf_q1) h11))
  have f_21 : cK S5 o4 = 0 := (hk_A hS5 (cm_ne (hm_Si hS4 (hm_Sr hS3 (hm_A hS2 (hm_N hS1 h12)))) hf_q3) (hk_Si hS4 (hk_Sr hS3 f_20)))
  have f_22 : o4 ∈ cL S6 := (hm_Sr hS6 (hm_A hS5 (hm_Si hS4 (hm_Sr hS3 (hm_A hS2 (hm_N hS1 h12))))))
  have f_23 : cK S10 o4 = 0 := (hk_Sr hS10 (hk_Si hS9 (hk_Sr hS8 (hk_A hS7 (cm_ne f_22 hf_q4) (hk_Sr hS6 f_21)))))
  have f_24 : o4 ∈ cL S12 := (hm_Si hS12 (hm_Si hS11 (hm_Sr hS10 (hm_Si hS9 (hm_Sr hS8 (hm_A hS7 f_22))))))
  refine cg_callv C (z37_X0_putText l hlt S12 dp o4 o3 (hk_Si hS12 (hk_Si hS11 f_23)) f_24) cc_X11_159 f_24 (hk_Si hS12 (hk_Si hS11 f_23)) (by decide) rfl rfl ⟨by decide, by decide⟩ ⟨by decide, by decide⟩ rfl (Nat.le_of_ble_eq_true rfl) dX11_text_27 (fun u_27 h_27 => ?_)
  obtain ⟨S13, hS13, hu_27⟩ := h_27
  have hw_27 := hu_27.symm
  subst hw_27
  refine cg_aload_n C (i := 2) rfl 0 rfl dX11_text_30 ?_
  have f_25 : o3 ∈ cL S12 := (hm_Si hS12 (hm_Si hS11 (hm_Sr hS10 (hm_Si hS9 (hm_Sr hS8 (hm_A hS7 f_15))))))
  refine cg_get C (k := 9) (j := 4) (.int (nI 0)) (hm_Sr hS13 f_25) (hk_Sr hS13 (hk_Si hS12 (hk_Si hS11 f_16))) (by decide) rfl (by decide) rfl (show cV _ 9 4 o3 = _ from congrArg Value.int (hi_Sr hS13 (hi_Si_s hS12))) cWs_wsX90 cl_X11_163 rfl dX11_text_31 ?_
  exact cg_iret C ⟨q1, S1, hf_q1, hS1, q2, S2, hf_q2, hS2, S3, hS3, S4, hS4, q3, S5, hf_q3, hS5, S6, hS6, q4, S7, hf_q4, hS7, S8, hS8, S9, hS9, S10, hS10, S11, hS11, S12, hS12, S13, hS13, rfl, rfl⟩ dX11_text_34 (by decide) (by decide)
set_option maxHeartbeats 4000000 in
set_option maxRecDepth 100000 in
theorem z39_L_text (l : Launch) (hlt : l.stackTraces = false) (S : cS) (dp : Nat) (o1 o2 o3 o4 o5 : Nat) (h1 : cr S 352 o1 = (some o3)) (h2 : cK S o1 = 11) (h3 : o1 ∈ cL S) (h4 : cr S 96 o3 = (some o4)) (h5 : cK S o3 = 3) (h6 : o3 ∈ cL S) (h7 : ci S 289 o4 = (nI 0)) (h8 : o4 ∈ cL S) (h9 : cK S o4 = 9) (h10 : cr S 353 o1 = (some o5)) (h11 : cK S o5 = 0) (h12 : o5 ∈ cL S) (h13 : cK S o2 = 15) (h14 : o2 ∈ cL S) (h15 : cn S o2 = 1) : cMetW (cQi (fun r_ u_ => ∃ (q1 : Nat) (S1 : cS), q1 ∉ cL S ∧ S1 = cNew S q1 9 ∧ ∃ (q2 : Nat) (S2 : cS), q2 ∉ cL S1 ∧ S2 = cNewA S1 q2 14 40 ∧ ∃ (S3 : cS), S3 = cSr S2 288 q1 (some q2) ∧ ∃ (S4 : cS), S4 = cSi S3 289 q1 (nI 0) ∧ ∃ (q3 : Nat) (S5 : cS), q3 ∉ cL S4 ∧ S5 = cNewA S4 q3 15 0 ∧ ∃ (S6 : cS), S6 = cSr S5 290 q1 (some q3) ∧ ∃ (q4 : Nat) (S7 : cS), q4 ∉ cL S6 ∧ S7 = cNewA S6 q4 14 0 ∧ ∃ (S8 : cS), S8 = cSr S7 291 q1 (some q4) ∧ ∃ (S9 : cS), S9 = cSi S8 292 q1 (nI 0) ∧ ∃ (S10 : cS), S10 = cSr S9 96 o3 (some q1) ∧ ∃ (S11 : cS), S11 = cSi S10 98 o3 (nI 0) ∧ ∃ (S12 : cS), S12 = cSi S11 292 o4 (nI 0) ∧ ∃ (S13 : cS), S13 = cSr S12 4 o5 (some o4) ∧ ∃ (S14 : cS), S14 = cSJ S13 o2 0 (((nI 0)).toInt64) ∧ r_ = (nI 0) ∧ u_ = S14)) l yL_text cL_text 4 (some .int) [(0, 9, 12, 28)] 4 4 45 95 [.ref o1, .int (nI 1), .ref o2] S dp := by
  intro D Y tp sz
  refine cg_bodyW (by decide +kernel) (Nat.le_of_ble_eq_true rfl) ?_
  intro p e s m args below meth c C htab
  generalize va_A (cWd Y S) sz = A at C ⊢
  have C : cC p s m args meth c cL_text 4 (some .int) A D Y tp dp RL := C
  refine cg_lv (lv' := [(0, .ref o1), (1, .int (nI 1)), (2, .ref o2)]) rfl ?_
  refine cg_aload_n C (i := 2) rfl 2 rfl dL_text_0 ?_
  refine cg_iconst C (x := nI 0) rfl dL_text_1 ?_
  refine cg_aload_n C (i := 0) rfl 0 rfl dL_text_2 ?_
  refine cg_iload_n C (i := 1) rfl 1 rfl dL_text_3 ?_
  refine cg_calli C (z38_X11_text l hlt S dp o1 o3 o4 o5 h1 h2 h3 h4 h5 h6 h7 h8 h9 h10 h11 h12) cc_L_24 h3 h2 (by decide) rfl rfl ⟨by decide, by decide⟩ ⟨by decide, by decide⟩ rfl (Nat.le_of_ble_eq_true rfl) dL_text_4 (fun r_4 u_4 h_4 => ?_)
  obtain ⟨q1, S1, hf_q1, hS1, q2, S2, hf_q2, hS2, S3, hS3, S4, hS4, q3, S5, hf_q3, hS5, S6, hS6, q4, S7, hf_q4, hS7, S8, hS8, S9, hS9, S10, hS10, S11, hS11, S12, hS12, S13, hS13, hr_4, hu_4⟩ := h_4
  have hw_4 := hu_4.symm
  subst hw_4
  have hx_4 := hr_4.symm
  subst hx_4
  refine cg_i2l C dL_text_7 ?_
  have f_1 : cK S2 o2 = 15 := (hk_A hS2 (cm_ne (hm_N hS1 h14) hf_q2) (hk_N hS1 (cm_ne h14 hf_q1) h13))
  have f_2 : cK S5 o2 = 15 := (hk_A hS5 (cm_ne (hm_Si hS4 (hm_Sr hS3 (hm_A hS2 (hm_N hS1 h14)))) hf_q3) (hk_Si hS4 (hk_Sr hS3 f_1)))
  have f_3 : o2 ∈ cL S6 := (hm_Sr hS6 (hm_A hS5 (hm_Si hS4 (hm_Sr hS3 (hm_A hS2 (hm_N hS1 h14))))))
  have f_4 : cK S10 o2 = 15 := (hk_Sr hS10 (hk_Si hS9 (hk_Sr hS8 (hk_A hS7 (cm_ne f_3 hf_q4) (hk_Sr hS6 f_2)))))
  have f_5 : cn S4 o2 = 1 := (hn_Si hS4 (hn_Sr hS3 (hn_A hS2 (cm_ne (hm_N hS1 h14) hf_q2) (hn_N hS1 h15))))
  have f_6 : cn S5 o2 = 1 := (hn_A hS5 (cm_ne (hm_Si hS4 (hm_Sr hS3 (hm_A hS2 (hm_N hS1 h14)))) hf_q3) f_5)
  have f_7 : cn S10 o2 = 1 := (hn_Sr hS10 (hn_Si hS9 (hn_Sr hS8 (hn_A hS7 (cm_ne f_3 hf_q4) (hn_Sr hS6 f_6)))))
  have f_8 : o2 ∈ cL S12 := (hm_Si hS12 (hm_Si hS11 (hm_Sr hS10 (hm_Si hS9 (hm_Sr hS8 (hm_A hS7 f_3))))))
  refine cg_lastore C 0 (hm_Sr hS13 f_8) (hk_Sr hS13 (hk_Si hS12 (hk_Si hS11 f_4))) (by rw [show cn _ _ = 1 from (hn_Sr hS13 (hn_Si hS12 (hn_Si hS11 f_7)))]; omega) (by rw [show cn _ _ = 1 from (hn_Sr hS13 (hn_Si hS12 (hn_Si hS11 f_7)))]; omega) dL_text_8 ?_
  refine cg_nm (fun S14 (hS14 : S14 = cSJ S13 o2 0 (((nI 0)).toInt64)) => ?_)
  refine cg_goto C 15 (by decide) dL_text_9 ?_
  refine cg_iconst C (x := nI 0) rfl dL_text_15 ?_
  exact cg_iret C ⟨q1, S1, hf_q1, hS1, q2, S2, hf_q2, hS2, S3, hS3, S4, hS4, q3, S5, hf_q3, hS5, S6, hS6, q4, S7, hf_q4, hS7, S8, hS8, S9, hS9, S10, hS10, S11, hS11, S12, hS12, S13, hS13, S14, hS14, rfl, rfl⟩ dL_text_16 (by decide) (by decide)
set_option maxHeartbeats 4000000 in
set_option maxRecDepth 100000 in
theorem z40_X11_checkField (l : Launch) (hlt : l.stackTraces = false) (S : cS) (dp : Nat) (n1 : Nat) (h1 : 2 ≤ n1) (h2 : n1 ≤ 2147483647) : cMetX "java/lang/IndexOutOfBoundsException" (fun u_ => u_ = S) l yX11_checkField cX11_checkField 1 none 6 1 6 82 [.int (nI n1)] S dp := by
  intro D Y tp sz
  refine cg_bodyX (by decide +kernel) (Nat.le_of_ble_eq_true rfl) ?_
  intro p e s m args below meth c C hne
  generalize va_A (cWd Y S) sz = A at C ⊢
  have C : cC p s m args meth c cX11_checkField 1 none A D Y tp dp RX11 := C
  refine cg_lv (lv' := [(0, .int (nI n1))]) rfl ?_
  refine cg_iload_n C (i := 0) rfl 0 rfl dX11_checkField_0 ?_
  refine cg_if_ltN C (by omega) 9 (by decide) dX11_checkField_1 ?_
  refine cg_iload_n C (i := 0) rfl 0 rfl dX11_checkField_4 ?_
  refine cg_iconst C (x := nI 2) rfl dX11_checkField_5 ?_
  refine cg_icmp_ltN C (by omega) (by omega) 20 (by decide) dX11_checkField_6 (fun c_ => absurd c_ (by omega)) (fun c_6 => ?_)
  exact cg_throw3W C hlt hne "there is no such field" ce_X11_269 cei_3 (by decide) dX11_checkField_9 dX11_checkField_12 dX11_checkField_13 dX11_checkField_16 dX11_checkField_19 (by decide) (by decide) ⟨by decide, by decide⟩ ⟨by decide, by decide⟩ rfl
set_option maxHeartbeats 4000000 in
set_option maxRecDepth 100000 in
theorem z41_X11_text (l : Launch) (hlt : l.stackTraces = false) (S : cS) (dp : Nat) (o1 : Nat) (n1 : Nat) (h1 : 2 ≤ n1) (h2 : n1 ≤ 2147483647) : cMetX "java/lang/IndexOutOfBoundsException" (fun u_ => u_ = S) l yX11_text cX11_text 3 (some .int) 7 1 6 102 [.ref o1, .int (nI n1)] S dp := by
  intro D Y tp sz
  refine cg_bodyX (by decide +kernel) (Nat.le_of_ble_eq_true rfl) ?_
  intro p e s m args below meth c C hne
  generalize va_A (cWd Y S) sz = A at C ⊢
  have C : cC p s m args meth c cX11_text 3 (some .int) A D Y tp dp RX11 := C
  refine cg_lv (lv' := [(0, .ref o1), (1, .int (nI n1))]) rfl ?_
  refine cg_iload_n C (i := 1) rfl 1 rfl dX11_text_0 ?_
  exact cg_callsx C hne (z40_X11_checkField l hlt S dp n1 (by omega) (by omega)) cc_X11_152 rfl ⟨by decide, by decide⟩ ⟨by decide, by decide⟩ rfl (Nat.le_of_ble_eq_true rfl) dX11_text_1 ⟨by decide, by decide⟩ (fun u_ h_ => by
      have hu_ := h_
      exact hu_)
set_option maxHeartbeats 4000000 in
set_option maxRecDepth 100000 in
theorem z42_L_text (l : Launch) (hlt : l.stackTraces = false) (S : cS) (dp : Nat) (o1 o2 : Nat) (n1 : Nat) (h1 : 2 ≤ n1) (h2 : n1 ≤ 2147483647) (h3 : o1 ∈ cL S) (h4 : cK S o1 = 11) : cMetW (cQi (fun r_ u_ => r_ = (nI 1) ∧ u_ = S)) l yL_text cL_text 4 (some .int) [(0, 9, 12, 28)] 8 1 6 124 [.ref o1, .int (nI n1), .ref o2] S dp := by
  intro D Y tp sz
  refine cg_bodyW (by decide +kernel) (Nat.le_of_ble_eq_true rfl) ?_
  intro p e s m args below meth c C htab
  generalize va_A (cWd Y S) sz = A at C ⊢
  have C : cC p s m args meth c cL_text 4 (some .int) A D Y tp dp RL := C
  refine cg_lv (lv' := [(0, .ref o1), (1, .int (nI n1)), (2, .ref o2)]) rfl ?_
  refine cg_aload_n C (i := 2) rfl 2 rfl dL_text_0 ?_
  refine cg_iconst C (x := nI 0) rfl dL_text_1 ?_
  refine cg_aload_n C (i := 0) rfl 0 rfl dL_text_2 ?_
  refine cg_iload_n C (i := 1) rfl 1 rfl dL_text_3 ?_
  refine cg_callx_catch C htab (z41_X11_text l hlt S dp o1 n1 (by omega) (by omega)) cc_L_24 h3 h4 (by decide) rfl rfl ⟨by decide, by decide⟩ ⟨by decide, by decide⟩ rfl (Nat.le_of_ble_eq_true rfl) dL_text_4 (tableOf []) ⟨0, 9, 12, 28⟩ (tableOf []) rfl (fun z hz => nomatch hz) (by decide) (by decide) (name := "java/lang/IndexOutOfBoundsException") ce_L_28 (by decide) 12 rfl (fun x_4 u_4 h_4 => ?_)
  have hu_4 := h_4
  have hw_4 := hu_4.symm
  subst hw_4
  refine cg_astore_n (lv' := [(3, .ref x_4), (0, .ref o1), (1, .int (nI n1)), (2, .ref o2)]) C (i := 3) rfl (Nat.le_of_ble_eq_true rfl) rfl dL_text_12 ?_
  refine cg_iconst C (x := nI 1) rfl dL_text_13 ?_
  exact cg_iret C ⟨rfl, rfl⟩ dL_text_14 (by decide) (by decide)
set_option maxHeartbeats 4000000 in
set_option maxRecDepth 100000 in
theorem z43_X11_columns (l : Launch) (hlt : l.stackTraces = false) (S : cS) (dp : Nat) (o1 : Nat) (x1 x2 : Int32) (h1 : x1 < 0) : cMetX "java/lang/IllegalArgumentException" (fun u_ => u_ = S) l yX11_columns cX11_columns 3 none 6 1 6 82 [.ref o1, .int x1, .int x2] S dp := by
  intro D Y tp sz
  refine cg_bodyX (by decide +kernel) (Nat.le_of_ble_eq_true rfl) ?_
  intro p e s m args below meth c C hne
  generalize va_A (cWd Y S) sz = A at C ⊢
  have C : cC p s m args meth c cX11_columns 3 none A D Y tp dp RX11 := C
  refine cg_lv (lv' := [(0, .ref o1), (1, .int x1), (2, .int x2)]) rfl ?_
  refine cg_iload_n C (i := 1) rfl 1 rfl dX11_columns_0 ?_
  refine cg_if_lt C 21 (by decide) dX11_columns_1 (fun c_1 => ?_) (fun c_ => absurd (cneg0_lt h1) c_)
  exact cg_throw1 C hlt hne "the category or the number is out of range" ce_X11_100 cei_1 (by decide) dX11_columns_21 dX11_columns_24 dX11_columns_25 dX11_columns_27 dX11_columns_30 (by decide) (by decide) ⟨by decide, by decide⟩ ⟨by decide, by decide⟩ rfl
set_option maxHeartbeats 4000000 in
set_option maxRecDepth 100000 in
theorem z44_L_columns (l : Launch) (hlt : l.stackTraces = false) (S : cS) (dp : Nat) (o1 : Nat) (x1 x2 : Int32) (h1 : x1 < 0) (h2 : o1 ∈ cL S) (h3 : cK S o1 = 11) : cMetW (cQi (fun r_ u_ => r_ = (nI 1) ∧ u_ = S)) l yL_columns cL_columns 4 (some .int) [(0, 6, 9, 13)] 7 1 6 104 [.ref o1, .int x1, .int x2] S dp := by
  intro D Y tp sz
  refine cg_bodyW (by decide +kernel) (Nat.le_of_ble_eq_true rfl) ?_
  intro p e s m args below meth c C htab
  generalize va_A (cWd Y S) sz = A at C ⊢
  have C : cC p s m args meth c cL_columns 4 (some .int) A D Y tp dp RL := C
  refine cg_lv (lv' := [(0, .ref o1), (1, .int x1), (2, .int x2)]) rfl ?_
  refine cg_aload_n C (i := 0) rfl 0 rfl dL_columns_0 ?_
  refine cg_iload_n C (i := 1) rfl 1 rfl dL_columns_1 ?_
  refine cg_iload_n C (i := 2) rfl 2 rfl dL_columns_2 ?_
  refine cg_callx_catch C htab (z43_X11_columns l hlt S dp o1 x1 x2 h1) cc_L_30 h2 h3 (by decide) rfl rfl ⟨by decide, by decide⟩ ⟨by decide, by decide⟩ rfl (Nat.le_of_ble_eq_true rfl) dL_columns_3 (tableOf []) ⟨0, 6, 9, 13⟩ (tableOf []) rfl (fun z hz => nomatch hz) (by decide) (by decide) (name := "java/lang/IllegalArgumentException") ce_L_13 (by decide) 9 rfl (fun x_3 u_3 h_3 => ?_)
  have hu_3 := h_3
  have hw_3 := hu_3.symm
  subst hw_3
  refine cg_astore_n (lv' := [(3, .ref x_3), (0, .ref o1), (1, .int x1), (2, .int x2)]) C (i := 3) rfl (Nat.le_of_ble_eq_true rfl) rfl dL_columns_9 ?_
  refine cg_iconst C (x := nI 1) rfl dL_columns_10 ?_
  exact cg_iret C ⟨rfl, rfl⟩ dL_columns_11 (by decide) (by decide)
set_option maxHeartbeats 4000000 in
set_option maxRecDepth 100000 in
theorem z45_X11_columns (l : Launch) (hlt : l.stackTraces = false) (S : cS) (dp : Nat) (o1 : Nat) (n1 : Nat) (x1 : Int32) (h1 : n1 ≤ 9) (h2 : x1 < 0) : cMetX "java/lang/IllegalArgumentException" (fun u_ => u_ = S) l yX11_columns cX11_columns 3 none 6 1 6 82 [.ref o1, .int (nI n1), .int x1] S dp := by
  intro D Y tp sz
  refine cg_bodyX (by decide +kernel) (Nat.le_of_ble_eq_true rfl) ?_
  intro p e s m args below meth c C hne
  generalize va_A (cWd Y S) sz = A at C ⊢
  have C : cC p s m args meth c cX11_columns 3 none A D Y tp dp RX11 := C
  refine cg_lv (lv' := [(0, .ref o1), (1, .int (nI n1)), (2, .int x1)]) rfl ?_
  refine cg_iload_n C (i := 1) rfl 1 rfl dX11_columns_0 ?_
  refine cg_if_ltN C (by omega) 21 (by decide) dX11_columns_1 ?_
  refine cg_iload_n C (i := 1) rfl 1 rfl dX11_columns_4 ?_
  refine cg_bipush C (x := nI 9) rfl dX11_columns_5 ?_
  refine cg_icmp_gtN C (by omega) (by omega) 21 (by decide) dX11_columns_7 (fun c_ => absurd c_ (by omega)) (fun c_7 => ?_)
  refine cg_iload_n C (i := 2) rfl 2 rfl dX11_columns_10 ?_
  refine cg_if_lt C 21 (by decide) dX11_columns_11 (fun c_11 => ?_) (fun c_ => absurd (cneg0_lt h2) c_)
  exact cg_throw1 C hlt hne "the category or the number is out of range" ce_X11_100 cei_1 (by decide) dX11_columns_21 dX11_columns_24 dX11_columns_25 dX11_columns_27 dX11_columns_30 (by decide) (by decide) ⟨by decide, by decide⟩ ⟨by decide, by decide⟩ rfl
set_option maxHeartbeats 4000000 in
set_option maxRecDepth 100000 in
theorem z46_L_columns (l : Launch) (hlt : l.stackTraces = false) (S : cS) (dp : Nat) (o1 : Nat) (n1 : Nat) (x1 : Int32) (h1 : n1 ≤ 9) (h2 : x1 < 0) (h3 : o1 ∈ cL S) (h4 : cK S o1 = 11) : cMetW (cQi (fun r_ u_ => r_ = (nI 1) ∧ u_ = S)) l yL_columns cL_columns 4 (some .int) [(0, 6, 9, 13)] 7 1 6 104 [.ref o1, .int (nI n1), .int x1] S dp := by
  intro D Y tp sz
  refine cg_bodyW (by decide +kernel) (Nat.le_of_ble_eq_true rfl) ?_
  intro p e s m args below meth c C htab
  generalize va_A (cWd Y S) sz = A at C ⊢
  have C : cC p s m args meth c cL_columns 4 (some .int) A D Y tp dp RL := C
  refine cg_lv (lv' := [(0, .ref o1), (1, .int (nI n1)), (2, .int x1)]) rfl ?_
  refine cg_aload_n C (i := 0) rfl 0 rfl dL_columns_0 ?_
  refine cg_iload_n C (i := 1) rfl 1 rfl dL_columns_1 ?_
  refine cg_iload_n C (i := 2) rfl 2 rfl dL_columns_2 ?_
  refine cg_callx_catch C htab (z45_X11_columns l hlt S dp o1 n1 x1 (by omega) h2) cc_L_30 h3 h4 (by decide) rfl rfl ⟨by decide, by decide⟩ ⟨by decide, by decide⟩ rfl (Nat.le_of_ble_eq_true rfl) dL_columns_3 (tableOf []) ⟨0, 6, 9, 13⟩ (tableOf []) rfl (fun z hz => nomatch hz) (by decide) (by decide) (name := "java/lang/IllegalArgumentException") ce_L_13 (by decide) 9 rfl (fun x_3 u_3 h_3 => ?_)
  have hu_3 := h_3
  have hw_3 := hu_3.symm
  subst hw_3
  refine cg_astore_n (lv' := [(3, .ref x_3), (0, .ref o1), (1, .int (nI n1)), (2, .int x1)]) C (i := 3) rfl (Nat.le_of_ble_eq_true rfl) rfl dL_columns_9 ?_
  refine cg_iconst C (x := nI 1) rfl dL_columns_10 ?_
  exact cg_iret C ⟨rfl, rfl⟩ dL_columns_11 (by decide) (by decide)
set_option maxHeartbeats 4000000 in
set_option maxRecDepth 100000 in
theorem z47_X11_columns (l : Launch) (hlt : l.stackTraces = false) (S : cS) (dp : Nat) (o1 o2 : Nat) (n1 n2 : Nat) (h1 : n1 ≤ 9) (h2 : n2 ≤ 999) (h3 : cr S 353 o1 = (some o2)) (h4 : cK S o1 = 11) (h5 : o1 ∈ cL S) (h6 : cK S o2 = 0) (h7 : o2 ∈ cL S) : cMet (cQv (fun u_ => ∃ (S1 : cS), S1 = cSi S 1 o2 (nI n1) ∧ ∃ (S2 : cS), S2 = cSi S1 2 o2 (nI n2) ∧ u_ = S2)) l yX11_columns cX11_columns 3 none 0 0 0 0 [.ref o1, .int (nI n1), .int (nI n2)] S dp := by
  intro D Y tp sz
  refine cg_body (by decide +kernel) (Nat.le_of_ble_eq_true rfl) ?_
  intro p e s m args below meth c C
  generalize va_A (cWd Y S) sz = A at C ⊢
  have C : cC p s m args meth c cX11_columns 3 none A D Y tp dp RX11 := C
  refine cg_lv (lv' := [(0, .ref o1), (1, .int (nI n1)), (2, .int (nI n2))]) rfl ?_
  refine cg_iload_n C (i := 1) rfl 1 rfl dX11_columns_0 ?_
  refine cg_if_ltN C (by omega) 21 (by decide) dX11_columns_1 ?_
  refine cg_iload_n C (i := 1) rfl 1 rfl dX11_columns_4 ?_
  refine cg_bipush C (x := nI 9) rfl dX11_columns_5 ?_
  refine cg_icmp_gtN C (by omega) (by omega) 21 (by decide) dX11_columns_7 (fun c_ => absurd c_ (by omega)) (fun c_7 => ?_)
  refine cg_iload_n C (i := 2) rfl 2 rfl dX11_columns_10 ?_
  refine cg_if_ltN C (by omega) 21 (by decide) dX11_columns_11 ?_
  refine cg_iload_n C (i := 2) rfl 2 rfl dX11_columns_14 ?_
  refine cg_sipush C (x := nI 999) rfl dX11_columns_15 ?_
  refine cg_icmp_leN C (by omega) (by omega) 31 (by decide) dX11_columns_18 (fun c_18 => ?_) (fun c_ => absurd c_ (by omega))
  refine cg_aload_n C (i := 0) rfl 0 rfl dX11_columns_31 ?_
  refine cg_get C (k := 11) (j := 1) (.ref o2) h5 h4 (by decide) rfl (by decide) rfl (show cV _ 11 1 o1 = _ from congrArg va_rf h3) cWs_wsX110 cl_X11_19 rfl dX11_columns_32 ?_
  refine cg_iload_n C (i := 1) rfl 1 rfl dX11_columns_35 ?_
  refine cg_puti C (k := 0) (j := 1) (ty := tyX0) (fty := .int) h7 h6 (by decide) rfl (by decide) rfl (by decide) rfl cWs_wsX00 tyX0_ok nmX0 cl_X11_168 rfl rfl rfl rfl rfl dX11_columns_36 ?_
  refine cg_nm (fun S1 (hS1 : S1 = cSi S 1 o2 (nI n1)) => ?_)
  refine cg_aload_n C (i := 0) rfl 0 rfl dX11_columns_39 ?_
  refine cg_get C (k := 11) (j := 1) (.ref o2) (hm_Si hS1 h5) (hk_Si hS1 h4) (by decide) rfl (by decide) rfl (show cV _ 11 1 o1 = _ from congrArg va_rf (hr_Si hS1 h3)) cWs_wsX110 cl_X11_19 rfl dX11_columns_40 ?_
  refine cg_iload_n C (i := 2) rfl 2 rfl dX11_columns_43 ?_
  refine cg_puti C (k := 0) (j := 2) (ty := tyX0) (fty := .int) (hm_Si hS1 h7) (hk_Si hS1 h6) (by decide) rfl (by decide) rfl (by decide) rfl cWs_wsX00 tyX0_ok nmX0 cl_X11_171 rfl rfl rfl rfl rfl dX11_columns_44 ?_
  refine cg_nm (fun S2 (hS2 : S2 = cSi S1 2 o2 (nI n2)) => ?_)
  exact cg_vret C ⟨S1, hS1, S2, hS2, rfl⟩ dX11_columns_47 (by decide) (by decide)
set_option maxHeartbeats 4000000 in
set_option maxRecDepth 100000 in
theorem z48_L_columns (l : Launch) (hlt : l.stackTraces = false) (S : cS) (dp : Nat) (o1 o2 : Nat) (n1 n2 : Nat) (h1 : n1 ≤ 9) (h2 : n2 ≤ 999) (h3 : cr S 353 o1 = (some o2)) (h4 : cK S o1 = 11) (h5 : o1 ∈ cL S) (h6 : cK S o2 = 0) (h7 : o2 ∈ cL S) : cMetW (cQi (fun r_ u_ => ∃ (S1 : cS), S1 = cSi S 1 o2 (nI n1) ∧ ∃ (S2 : cS), S2 = cSi S1 2 o2 (nI n2) ∧ r_ = (nI 0) ∧ u_ = S2)) l yL_columns cL_columns 4 (some .int) [(0, 6, 9, 13)] 1 0 0 22 [.ref o1, .int (nI n1), .int (nI n2)] S dp := by
  intro D Y tp sz
  refine cg_bodyW (by decide +kernel) (Nat.le_of_ble_eq_true rfl) ?_
  intro p e s m args below meth c C htab
  generalize va_A (cWd Y S) sz = A at C ⊢
  have C : cC p s m args meth c cL_columns 4 (some .int) A D Y tp dp RL := C
  refine cg_lv (lv' := [(0, .ref o1), (1, .int (nI n1)), (2, .int (nI n2))]) rfl ?_
  refine cg_aload_n C (i := 0) rfl 0 rfl dL_columns_0 ?_
  refine cg_iload_n C (i := 1) rfl 1 rfl dL_columns_1 ?_
  refine cg_iload_n C (i := 2) rfl 2 rfl dL_columns_2 ?_
  refine cg_callv C (z47_X11_columns l hlt S dp o1 o2 n1 n2 (by omega) (by omega) h3 h4 h5 h6 h7) cc_L_30 h5 h4 (by decide) rfl rfl ⟨by decide, by decide⟩ ⟨by decide, by decide⟩ rfl (Nat.le_of_ble_eq_true rfl) dL_columns_3 (fun u_3 h_3 => ?_)
  obtain ⟨S1, hS1, S2, hS2, hu_3⟩ := h_3
  have hw_3 := hu_3.symm
  subst hw_3
  refine cg_goto C 12 (by decide) dL_columns_6 ?_
  refine cg_iconst C (x := nI 0) rfl dL_columns_12 ?_
  exact cg_iret C ⟨S1, hS1, S2, hS2, rfl, rfl⟩ dL_columns_13 (by decide) (by decide)
set_option maxHeartbeats 4000000 in
set_option maxRecDepth 100000 in
theorem z49_X11_columns (l : Launch) (hlt : l.stackTraces = false) (S : cS) (dp : Nat) (o1 : Nat) (n1 n2 : Nat) (h1 : n1 ≤ 9) (h2 : 1000 ≤ n2) (h3 : n2 ≤ 2147483647) : cMetX "java/lang/IllegalArgumentException" (fun u_ => u_ = S) l yX11_columns cX11_columns 3 none 6 1 6 82 [.ref o1, .int (nI n1), .int (nI n2)] S dp := by
  intro D Y tp sz
  refine cg_bodyX (by decide +kernel) (Nat.le_of_ble_eq_true rfl) ?_
  intro p e s m args below meth c C hne
  generalize va_A (cWd Y S) sz = A at C ⊢
  have C : cC p s m args meth c cX11_columns 3 none A D Y tp dp RX11 := C
  refine cg_lv (lv' := [(0, .ref o1), (1, .int (nI n1)), (2, .int (nI n2))]) rfl ?_
  refine cg_iload_n C (i := 1) rfl 1 rfl dX11_columns_0 ?_
  refine cg_if_ltN C (by omega) 21 (by decide) dX11_columns_1 ?_
  refine cg_iload_n C (i := 1) rfl 1 rfl dX11_columns_4 ?_
  refine cg_bipush C (x := nI 9) rfl dX11_columns_5 ?_
  refine cg_icmp_gtN C (by omega) (by omega) 21 (by decide) dX11_columns_7 (fun c_ => absurd c_ (by omega)) (fun c_7 => ?_)
  refine cg_iload_n C (i := 2) rfl 2 rfl dX11_columns_10 ?_
  refine cg_if_ltN C (by omega) 21 (by decide) dX11_columns_11 ?_
  refine cg_iload_n C (i := 2) rfl 2 rfl dX11_columns_14 ?_
  refine cg_sipush C (x := nI 999) rfl dX11_columns_15 ?_
  refine cg_icmp_leN C (by omega) (by omega) 31 (by decide) dX11_columns_18 (fun c_ => absurd c_ (by omega)) (fun c_18 => ?_)
  exact cg_throw1 C hlt hne "the category or the number is out of range" ce_X11_100 cei_1 (by decide) dX11_columns_21 dX11_columns_24 dX11_columns_25 dX11_columns_27 dX11_columns_30 (by decide) (by decide) ⟨by decide, by decide⟩ ⟨by decide, by decide⟩ rfl
set_option maxHeartbeats 4000000 in
set_option maxRecDepth 100000 in
theorem z50_L_columns (l : Launch) (hlt : l.stackTraces = false) (S : cS) (dp : Nat) (o1 : Nat) (n1 n2 : Nat) (h1 : n1 ≤ 9) (h2 : 1000 ≤ n2) (h3 : n2 ≤ 2147483647) (h4 : o1 ∈ cL S) (h5 : cK S o1 = 11) : cMetW (cQi (fun r_ u_ => r_ = (nI 1) ∧ u_ = S)) l yL_columns cL_columns 4 (some .int) [(0, 6, 9, 13)] 7 1 6 104 [.ref o1, .int (nI n1), .int (nI n2)] S dp := by
  intro D Y tp sz
  refine cg_bodyW (by decide +kernel) (Nat.le_of_ble_eq_true rfl) ?_
  intro p e s m args below meth c C htab
  generalize va_A (cWd Y S) sz = A at C ⊢
  have C : cC p s m args meth c cL_columns 4 (some .int) A D Y tp dp RL := C
  refine cg_lv (lv' := [(0, .ref o1), (1, .int (nI n1)), (2, .int (nI n2))]) rfl ?_
  refine cg_aload_n C (i := 0) rfl 0 rfl dL_columns_0 ?_
  refine cg_iload_n C (i := 1) rfl 1 rfl dL_columns_1 ?_
  refine cg_iload_n C (i := 2) rfl 2 rfl dL_columns_2 ?_
  refine cg_callx_catch C htab (z49_X11_columns l hlt S dp o1 n1 n2 (by omega) (by omega) (by omega)) cc_L_30 h4 h5 (by decide) rfl rfl ⟨by decide, by decide⟩ ⟨by decide, by decide⟩ rfl (Nat.le_of_ble_eq_true rfl) dL_columns_3 (tableOf []) ⟨0, 6, 9, 13⟩ (tableOf []) rfl (fun z hz => nomatch hz) (by decide) (by decide) (name := "java/lang/IllegalArgumentException") ce_L_13 (by decide) 9 rfl (fun x_3 u_3 h_3 => ?_)
  have hu_3 := h_3
  have hw_3 := hu_3.symm
  subst hw_3
  refine cg_astore_n (lv' := [(3, .ref x_3), (0, .ref o1), (1, .int (nI n1)), (2, .int (nI n2))]) C (i := 3) rfl (Nat.le_of_ble_eq_true rfl) rfl dL_columns_9 ?_
  refine cg_iconst C (x := nI 1) rfl dL_columns_10 ?_
  exact cg_iret C ⟨rfl, rfl⟩ dL_columns_11 (by decide) (by decide)
set_option maxHeartbeats 4000000 in
set_option maxRecDepth 100000 in
theorem z51_X11_columns (l : Launch) (hlt : l.stackTraces = false) (S : cS) (dp : Nat) (o1 : Nat) (n1 : Nat) (x1 : Int32) (h1 : 10 ≤ n1) (h2 : n1 ≤ 2147483647) : cMetX "java/lang/IllegalArgumentException" (fun u_ => u_ = S) l yX11_columns cX11_columns 3 none 6 1 6 82 [.ref o1, .int (nI n1), .int x1] S dp := by
  intro D Y tp sz
  refine cg_bodyX (by decide +kernel) (Nat.le_of_ble_eq_true rfl) ?_
  intro p e s m args below meth c C hne
  generalize va_A (cWd Y S) sz = A at C ⊢
  have C : cC p s m args meth c cX11_columns 3 none A D Y tp dp RX11 := C
  refine cg_lv (lv' := [(0, .ref o1), (1, .int (nI n1)), (2, .int x1)]) rfl ?_
  refine cg_iload_n C (i := 1) rfl 1 rfl dX11_columns_0 ?_
  refine cg_if_ltN C (by omega) 21 (by decide) dX11_columns_1 ?_
  refine cg_iload_n C (i := 1) rfl 1 rfl dX11_columns_4 ?_
  refine cg_bipush C (x := nI 9) rfl dX11_columns_5 ?_
  refine cg_icmp_gtN C (by omega) (by omega) 21 (by decide) dX11_columns_7 (fun c_7 => ?_) (fun c_ => absurd c_ (by omega))
  exact cg_throw1 C hlt hne "the category or the number is out of range" ce_X11_100 cei_1 (by decide) dX11_columns_21 dX11_columns_24 dX11_columns_25 dX11_columns_27 dX11_columns_30 (by decide) (by decide) ⟨by decide, by decide⟩ ⟨by decide, by decide⟩ rfl
set_option maxHeartbeats 4000000 in
set_option maxRecDepth 100000 in
theorem z52_L_columns (l : Launch) (hlt : l.stackTraces = false) (S : cS) (dp : Nat) (o1 : Nat) (n1 : Nat) (x1 : Int32) (h1 : 10 ≤ n1) (h2 : n1 ≤ 2147483647) (h3 : o1 ∈ cL S) (h4 : cK S o1 = 11) : cMetW (cQi (fun r_ u_ => r_ = (nI 1) ∧ u_ = S)) l yL_columns cL_columns 4 (some .int) [(0, 6, 9, 13)] 7 1 6 104 [.ref o1, .int (nI n1), .int x1] S dp := by
  intro D Y tp sz
  refine cg_bodyW (by decide +kernel) (Nat.le_of_ble_eq_true rfl) ?_
  intro p e s m args below meth c C htab
  generalize va_A (cWd Y S) sz = A at C ⊢
  have C : cC p s m args meth c cL_columns 4 (some .int) A D Y tp dp RL := C
  refine cg_lv (lv' := [(0, .ref o1), (1, .int (nI n1)), (2, .int x1)]) rfl ?_
  refine cg_aload_n C (i := 0) rfl 0 rfl dL_columns_0 ?_
  refine cg_iload_n C (i := 1) rfl 1 rfl dL_columns_1 ?_
  refine cg_iload_n C (i := 2) rfl 2 rfl dL_columns_2 ?_
  refine cg_callx_catch C htab (z51_X11_columns l hlt S dp o1 n1 x1 (by omega) (by omega)) cc_L_30 h3 h4 (by decide) rfl rfl ⟨by decide, by decide⟩ ⟨by decide, by decide⟩ rfl (Nat.le_of_ble_eq_true rfl) dL_columns_3 (tableOf []) ⟨0, 6, 9, 13⟩ (tableOf []) rfl (fun z hz => nomatch hz) (by decide) (by decide) (name := "java/lang/IllegalArgumentException") ce_L_13 (by decide) 9 rfl (fun x_3 u_3 h_3 => ?_)
  have hu_3 := h_3
  have hw_3 := hu_3.symm
  subst hw_3
  refine cg_astore_n (lv' := [(3, .ref x_3), (0, .ref o1), (1, .int (nI n1)), (2, .int x1)]) C (i := 3) rfl (Nat.le_of_ble_eq_true rfl) rfl dL_columns_9 ?_
  refine cg_iconst C (x := nI 1) rfl dL_columns_10 ?_
  exact cg_iret C ⟨rfl, rfl⟩ dL_columns_11 (by decide) (by decide)
set_option maxHeartbeats 4000000 in
set_option maxRecDepth 100000 in
theorem z53_X11_checkKey (l : Launch) (hlt : l.stackTraces = false) (S : cS) (dp : Nat) (x1 : Int32) (h1 : x1 < 0) : cMetX "java/lang/IndexOutOfBoundsException" (fun u_ => u_ = S) l yX11_checkKey cX11_checkKey 1 none 6 1 6 82 [.int x1] S dp := by
  intro D Y tp sz
  refine cg_bodyX (by decide +kernel) (Nat.le_of_ble_eq_true rfl) ?_
  intro p e s m args below meth c C hne
  generalize va_A (cWd Y S) sz = A at C ⊢
  have C : cC p s m args meth c cX11_checkKey 1 none A D Y tp dp RX11 := C
  refine cg_lv (lv' := [(0, .int x1)]) rfl ?_
  refine cg_iload_n C (i := 0) rfl 0 rfl dX11_checkKey_0 ?_
  refine cg_if_lt C 10 (by decide) dX11_checkKey_1 (fun c_1 => ?_) (fun c_ => absurd (cneg0_lt h1) c_)
  exact cg_throw3W C hlt hne "there is no such key" ce_X11_269 cei_3 (by decide) dX11_checkKey_10 dX11_checkKey_13 dX11_checkKey_14 dX11_checkKey_17 dX11_checkKey_20 (by decide) (by decide) ⟨by decide, by decide⟩ ⟨by decide, by decide⟩ rfl
set_option maxHeartbeats 4000000 in
set_option maxRecDepth 100000 in
theorem z54_X11_add (l : Launch) (hlt : l.stackTraces = false) (S : cS) (dp : Nat) (o1 : Nat) (x1 : Int32) (h1 : x1 < 0) : cMetX "java/lang/IndexOutOfBoundsException" (fun u_ => u_ = S) l yX11_add cX11_add 2 (some .int) 7 1 6 102 [.ref o1, .int x1] S dp := by
  intro D Y tp sz
  refine cg_bodyX (by decide +kernel) (Nat.le_of_ble_eq_true rfl) ?_
  intro p e s m args below meth c C hne
  generalize va_A (cWd Y S) sz = A at C ⊢
  have C : cC p s m args meth c cX11_add 2 (some .int) A D Y tp dp RX11 := C
  refine cg_lv (lv' := [(0, .ref o1), (1, .int x1)]) rfl ?_
  refine cg_iload_n C (i := 1) rfl 1 rfl dX11_add_0 ?_
  exact cg_callsx C hne (z53_X11_checkKey l hlt S dp x1 h1) cc_X11_174 rfl ⟨by decide, by decide⟩ ⟨by decide, by decide⟩ rfl (Nat.le_of_ble_eq_true rfl) dX11_add_1 ⟨by decide, by decide⟩ (fun u_ h_ => by
      have hu_ := h_
      exact hu_)
set_option maxHeartbeats 4000000 in
set_option maxRecDepth 100000 in
theorem z55_L_add (l : Launch) (hlt : l.stackTraces = false) (S : cS) (dp : Nat) (o1 o2 : Nat) (x1 : Int32) (h1 : x1 < 0) (h2 : o1 ∈ cL S) (h3 : cK S o1 = 11) : cMetW (cQi (fun r_ u_ => r_ = (nI 1) ∧ u_ = S)) l yL_add cL_add 4 (some .int) [(0, 9, 12, 28), (0, 9, 15, 15)] 8 1 6 123 [.ref o1, .int x1, .ref o2] S dp := by
  intro D Y tp sz
  refine cg_bodyW (by decide +kernel) (Nat.le_of_ble_eq_true rfl) ?_
  intro p e s m args below meth c C htab
  generalize va_A (cWd Y S) sz = A at C ⊢
  have C : cC p s m args meth c cL_add 4 (some .int) A D Y tp dp RL := C
  refine cg_lv (lv' := [(0, .ref o1), (1, .int x1), (2, .ref o2)]) rfl ?_
  refine cg_aload_n C (i := 2) rfl 2 rfl dL_add_0 ?_
  refine cg_iconst C (x := nI 0) rfl dL_add_1 ?_
  refine cg_aload_n C (i := 0) rfl 0 rfl dL_add_2 ?_
  refine cg_iload_n C (i := 1) rfl 1 rfl dL_add_3 ?_
  refine cg_callx_catch C htab (z54_X11_add l hlt S dp o1 x1 h1) cc_L_34 h2 h3 (by decide) rfl rfl ⟨by decide, by decide⟩ ⟨by decide, by decide⟩ rfl (Nat.le_of_ble_eq_true rfl) dL_add_4 (tableOf []) ⟨0, 9, 12, 28⟩ (tableOf [(0, 9, 15, 15)]) rfl (fun z hz => nomatch hz) (by decide) (by decide) (name := "java/lang/IndexOutOfBoundsException") ce_L_28 (by decide) 12 rfl (fun x_4 u_4 h_4 => ?_)
  have hu_4 := h_4
  have hw_4 := hu_4.symm
  subst hw_4
  refine cg_astore_n (lv' := [(3, .ref x_4), (0, .ref o1), (1, .int x1), (2, .ref o2)]) C (i := 3) rfl (Nat.le_of_ble_eq_true rfl) rfl dL_add_12 ?_
  refine cg_iconst C (x := nI 1) rfl dL_add_13 ?_
  exact cg_iret C ⟨rfl, rfl⟩ dL_add_14 (by decide) (by decide)
set_option maxHeartbeats 4000000 in
set_option maxRecDepth 100000 in
theorem z56_X11_checkKey (l : Launch) (hlt : l.stackTraces = false) (S : cS) (dp : Nat) (n1 : Nat) (h1 : n1 ≤ 99) : cMet (cQv (fun u_ => u_ = S)) l yX11_checkKey cX11_checkKey 1 none 0 0 0 0 [.int (nI n1)] S dp := by
  intro D Y tp sz
  refine cg_body (by decide +kernel) (Nat.le_of_ble_eq_true rfl) ?_
  intro p e s m args below meth c C
  generalize va_A (cWd Y S) sz = A at C ⊢
  have C : cC p s m args meth c cX11_checkKey 1 none A D Y tp dp RX11 := C
  refine cg_lv (lv' := [(0, .int (nI n1))]) rfl ?_
  refine cg_iload_n C (i := 0) rfl 0 rfl dX11_checkKey_0 ?_
  refine cg_if_ltN C (by omega) 10 (by decide) dX11_checkKey_1 ?_
  refine cg_iload_n C (i := 0) rfl 0 rfl dX11_checkKey_4 ?_
  refine cg_bipush C (x := nI 100) rfl dX11_checkKey_5 ?_
  refine cg_icmp_ltN C (by omega) (by omega) 21 (by decide) dX11_checkKey_7 (fun c_7 => ?_) (fun c_ => absurd c_ (by omega))
  exact cg_vret C rfl dX11_checkKey_21 (by decide) (by decide)
set_option maxHeartbeats 4000000 in
set_option maxRecDepth 100000 in
theorem z57_X11_checkUp (l : Launch) (hlt : l.stackTraces = false) (S : cS) (dp : Nat) (o1 : Nat) (h1 : ci S 370 o1 = (bI false)) (h2 : cK S o1 = 11) (h3 : o1 ∈ cL S) : cMet (cQv (fun u_ => u_ = S)) l yX11_checkUp cX11_checkUp 1 none 0 0 0 0 [.ref o1] S dp := by
  intro D Y tp sz
  refine cg_body (by decide +kernel) (Nat.le_of_ble_eq_true rfl) ?_
  intro p e s m args below meth c C
  generalize va_A (cWd Y S) sz = A at C ⊢
  have C : cC p s m args meth c cX11_checkUp 1 none A D Y tp dp RX11 := C
  refine cg_lv (lv' := [(0, .ref o1)]) rfl ?_
  refine cg_aload_n C (i := 0) rfl 0 rfl dX11_checkUp_0 ?_
  refine cg_get C (k := 11) (j := 18) (.int (bI false)) h3 h2 (by decide) rfl (by decide) rfl (show cV _ 11 18 o1 = _ from congrArg Value.int h1) cWs_wsX110 cl_X11_96 rfl dX11_checkUp_1 ?_
  refine cg_if_eqB C 18 (by decide) dX11_checkUp_4 (fun c_4 => ?_) (fun c_ => absurd c_ (by decide))
  exact cg_vret C rfl dX11_checkUp_18 (by decide) (by decide)
set_option maxHeartbeats 4000000 in
set_option maxRecDepth 100000 in
theorem z58_Jx4a65c_size_8abf5 (l : Launch) (hlt : l.stackTraces = false) (S : cS) (dp : Nat) (o1 : Nat) (h1 : ci S 386 o1 = (nI 0)) (h2 : cK S o1 = 12) (h3 : o1 ∈ cL S) : cMet (cQi (fun r_ u_ => r_ = (nI 0) ∧ u_ = S)) l yJx4a65c_size_8abf5 cJx4a65c_size_8abf5 1 (some .int) 0 0 0 0 [.ref o1] S dp := by
  intro D Y tp sz
  refine cg_body (by decide +kernel) (Nat.le_of_ble_eq_true rfl) ?_
  intro p e s m args below meth c C
  generalize va_A (cWd Y S) sz = A at C ⊢
  have C : cC p s m args meth c cJx4a65c_size_8abf5 1 (some .int) A D Y tp dp RJx4a65c := C
  refine cg_lv (lv' := [(0, .ref o1)]) rfl ?_
  refine cg_aload_n C (i := 0) rfl 0 rfl dJx4a65c_size_8abf5_0 ?_
  refine cg_get C (k := 12) (j := 2) (.int (nI 0)) h3 h2 (by decide) rfl (by decide) rfl (show cV _ 12 2 o1 = _ from congrArg Value.int h1) cWs_wsJx4a65c0 cl_Jx4a65c_48 rfl dJx4a65c_size_8abf5_1 ?_
  exact cg_iret C ⟨rfl, rfl⟩ dJx4a65c_size_8abf5_4 (by decide) (by decide)
set_option maxHeartbeats 4000000 in
set_option maxRecDepth 100000 in
theorem z59_X11_bufferPlaceOf (l : Launch) (hlt : l.stackTraces = false) (S : cS) (dp : Nat) (o1 o2 : Nat) (n1 : Nat) (h1 : n1 ≤ 99) (h2 : cr S 354 o1 = (some o2)) (h3 : cK S o1 = 11) (h4 : o1 ∈ cL S) (h5 : ci S 386 o2 = (nI 0)) (h6 : cK S o2 = 12) (h7 : o2 ∈ cL S) : cMet (cQi (fun r_ u_ => r_ = ((-1)) ∧ u_ = S)) l yX11_bufferPlaceOf cX11_bufferPlaceOf 3 (some .int) 1 0 0 20 [.ref o1, .int (nI n1)] S dp := by
  intro D Y tp sz
  refine cg_body (by decide +kernel) (Nat.le_of_ble_eq_true rfl) ?_
  intro p e s m args below meth c C
  generalize va_A (cWd Y S) sz = A at C ⊢
  have C : cC p s m args meth c cX11_bufferPlaceOf 3 (some .int) A D Y tp dp RX11 := C
  refine cg_lv (lv' := [(0, .ref o1), (1, .int (nI n1))]) rfl ?_
  refine cg_iconst C (x := nI 0) rfl dX11_bufferPlaceOf_0 ?_
  refine cg_istore_n C (i := 2) (lv' := [(2, .int (nI 0)), (0, .ref o1), (1, .int (nI n1))]) rfl (Nat.le_of_ble_eq_true rfl) rfl dX11_bufferPlaceOf_1 ?_
  refine cg_iload_n C (i := 2) rfl 0 rfl dX11_bufferPlaceOf_2 ?_
  refine cg_aload_n C (i := 0) rfl 1 rfl dX11_bufferPlaceOf_3 ?_
  refine cg_get C (k := 11) (j := 2) (.ref o2) h4 h3 (by decide) rfl (by decide) rfl (show cV _ 11 2 o1 = _ from congrArg va_rf h2) cWs_wsX110 cl_X11_26 rfl dX11_bufferPlaceOf_4 ?_
  refine cg_calli C (z58_Jx4a65c_size_8abf5 l hlt S dp o2 h5 h6 h7) cc_X11_180 h7 h6 (by decide) rfl rfl ⟨by decide, by decide⟩ ⟨by decide, by decide⟩ rfl (Nat.le_of_ble_eq_true rfl) dX11_bufferPlaceOf_7 (fun r_7 u_7 h_7 => ?_)
  obtain ⟨hr_7, hu_7⟩ := h_7
  have hw_7 := hu_7.symm
  subst hw_7
  have hx_7 := hr_7.symm
  subst hx_7
  refine cg_icmp_geN C (by omega) (by omega) 39 (by decide) dX11_bufferPlaceOf_10 (fun c_10 => ?_) (fun c_ => absurd c_ (by omega))
  refine cg_iconst C (x := (-1)) rfl dX11_bufferPlaceOf_39 ?_
  exact cg_iret C ⟨rfl, rfl⟩ dX11_bufferPlaceOf_40 (by decide) (by decide)
set_option maxHeartbeats 4000000 in
set_option maxRecDepth 100000 in
theorem z60_X10_kill (l : Launch) (hlt : l.stackTraces = false) (S : cS) (dp : Nat) (o1 o2 : Nat) (n1 : Nat) (h1 : n1 ≤ 99) (h2 : cr S 321 o1 = (some o2)) (h3 : cK S o1 = 10) (h4 : o1 ∈ cL S) (h5 : ci S 386 o2 = (nI 0)) (h6 : cK S o2 = 12) (h7 : o2 ∈ cL S) : cMet (cQi (fun r_ u_ => r_ = (bI false) ∧ u_ = S)) l yX10_kill cX10_kill 3 (some .boolean) 1 0 0 20 [.ref o1, .int (nI n1)] S dp := by
  intro D Y tp sz
  refine cg_body (by decide +kernel) (Nat.le_of_ble_eq_true rfl) ?_
  intro p e s m args below meth c C
  generalize va_A (cWd Y S) sz = A at C ⊢
  have C : cC p s m args meth c cX10_kill 3 (some .boolean) A D Y tp dp RX10 := C
  refine cg_lv (lv' := [(0, .ref o1), (1, .int (nI n1))]) rfl ?_
  refine cg_iconst C (x := nI 0) rfl dX10_kill_0 ?_
  refine cg_istore_n C (i := 2) (lv' := [(2, .int (nI 0)), (0, .ref o1), (1, .int (nI n1))]) rfl (Nat.le_of_ble_eq_true rfl) rfl dX10_kill_1 ?_
  refine cg_iload_n C (i := 2) rfl 0 rfl dX10_kill_2 ?_
  refine cg_aload_n C (i := 0) rfl 1 rfl dX10_kill_3 ?_
  refine cg_get C (k := 10) (j := 1) (.ref o2) h4 h3 (by decide) rfl (by decide) rfl (show cV _ 10 1 o1 = _ from congrArg va_rf h2) cWs_wsX100 cl_X10_12 rfl dX10_kill_4 ?_
  refine cg_calli C (z58_Jx4a65c_size_8abf5 l hlt S dp o2 h5 h6 h7) cc_X10_22 h7 h6 (by decide) rfl rfl ⟨by decide, by decide⟩ ⟨by decide, by decide⟩ rfl (Nat.le_of_ble_eq_true rfl) dX10_kill_7 (fun r_7 u_7 h_7 => ?_)
  obtain ⟨hr_7, hu_7⟩ := h_7
  have hw_7 := hu_7.symm
  subst hw_7
  have hx_7 := hr_7.symm
  subst hx_7
  refine cg_icmp_geN C (by omega) (by omega) 39 (by decide) dX10_kill_10 (fun c_10 => ?_) (fun c_ => absurd c_ (by omega))
  refine cg_iconst C (x := nI 0) rfl dX10_kill_39 ?_
  refine cg_cast (.int (bI false)) rfl ?_
  exact cg_zret C (bI_nar _) ⟨rfl, rfl⟩ dX10_kill_40 (by decide) (by decide)
set_option maxHeartbeats 4000000 in
set_option maxRecDepth 100000 in
theorem z61_X11_dropKey (l : Launch) (hlt : l.stackTraces = false) (S : cS) (dp : Nat) (o1 o2 o3 o4 : Nat) (n1 : Nat) (h1 : n1 ≤ 99) (h2 : cr S 354 o1 = (some o2)) (h3 : cK S o1 = 11) (h4 : o1 ∈ cL S) (h5 : ci S 386 o2 = (nI 0)) (h6 : cK S o2 = 12) (h7 : o2 ∈ cL S) (h8 : cr S 355 o1 = (some o3)) (h9 : cr S 321 o3 = (some o4)) (h10 : cK S o3 = 10) (h11 : o3 ∈ cL S) (h12 : ci S 386 o4 = (nI 0)) (h13 : cK S o4 = 12) (h14 : o4 ∈ cL S) : cMet (cQi (fun r_ u_ => r_ = (bI false) ∧ u_ = S)) l yX11_dropKey cX11_dropKey 3 (some .boolean) 2 0 0 42 [.ref o1, .int (nI n1)] S dp := by
  intro D Y tp sz
  refine cg_body (by decide +kernel) (Nat.le_of_ble_eq_true rfl) ?_
  intro p e s m args below meth c C
  generalize va_A (cWd Y S) sz = A at C ⊢
  have C : cC p s m args meth c cX11_dropKey 3 (some .boolean) A D Y tp dp RX11 := C
  refine cg_lv (lv' := [(0, .ref o1), (1, .int (nI n1))]) rfl ?_
  refine cg_aload_n C (i := 0) rfl 0 rfl dX11_dropKey_0 ?_
  refine cg_iload_n C (i := 1) rfl 1 rfl dX11_dropKey_1 ?_
  refine cg_calli C (z59_X11_bufferPlaceOf l hlt S dp o1 o2 n1 (by omega) h2 h3 h4 h5 h6 h7) cc_X11_183 h4 h3 (by decide) rfl rfl ⟨by decide, by decide⟩ ⟨by decide, by decide⟩ rfl (Nat.le_of_ble_eq_true rfl) dX11_dropKey_2 (fun r_2 u_2 h_2 => ?_)
  obtain ⟨hr_2, hu_2⟩ := h_2
  have hw_2 := hu_2.symm
  subst hw_2
  have hx_2 := hr_2.symm
  subst hx_2
  refine cg_istore_n C (i := 2) (lv' := [(2, .int ((-1))), (0, .ref o1), (1, .int (nI n1))]) rfl (Nat.le_of_ble_eq_true rfl) rfl dX11_dropKey_5 ?_
  refine cg_iload_n C (i := 2) rfl 0 rfl dX11_dropKey_6 ?_
  refine cg_iconst C (x := (-1)) rfl dX11_dropKey_7 ?_
  refine cg_icmp_eq C 22 (by decide) dX11_dropKey_8 (fun c_8 => ?_) (fun c_ => absurd c_ (by decide))
  refine cg_aload_n C (i := 0) rfl 1 rfl dX11_dropKey_22 ?_
  refine cg_get C (k := 11) (j := 3) (.ref o3) h4 h3 (by decide) rfl (by decide) rfl (show cV _ 11 3 o1 = _ from congrArg va_rf h8) cWs_wsX110 cl_X11_35 rfl dX11_dropKey_23 ?_
  refine cg_iload_n C (i := 1) rfl 2 rfl dX11_dropKey_26 ?_
  refine cg_calli C (z60_X10_kill l hlt S dp o3 o4 n1 (by omega) h9 h10 h11 h12 h13 h14) cc_X11_493 h11 h10 (by decide) rfl rfl ⟨by decide, by decide⟩ ⟨by decide, by decide⟩ rfl (Nat.le_of_ble_eq_true rfl) dX11_dropKey_27 (fun r_27 u_27 h_27 => ?_)
  obtain ⟨hr_27, hu_27⟩ := h_27
  have hw_27 := hu_27.symm
  subst hw_27
  have hx_27 := hr_27.symm
  subst hx_27
  exact cg_zret C (bI_nar _) ⟨rfl, rfl⟩ dX11_dropKey_30 (by decide) (by decide)
set_option maxHeartbeats 4000000 in
set_option maxRecDepth 100000 in
theorem z62_X0_textOf (l : Launch) (hlt : l.stackTraces = false) (S : cS) (dp : Nat) (o1 o2 : Nat) (h1 : cr S 3 o1 = (some o2)) (h2 : cK S o1 = 0) (h3 : o1 ∈ cL S) : cMet (cQr (fun r_ u_ => r_ = o2 ∧ u_ = S)) l yX0_textOf cX0_textOf 2 (some (.object "SearchMill$Text")) 0 0 0 0 [.ref o1, .int (nI 0)] S dp := by
  intro D Y tp sz
  refine cg_body (by decide +kernel) (Nat.le_of_ble_eq_true rfl) ?_
  intro p e s m args below meth c C
  generalize va_A (cWd Y S) sz = A at C ⊢
  have C : cC p s m args meth c cX0_textOf 2 (some (.object "SearchMill$Text")) A D Y tp dp RX0 := C
  refine cg_lv (lv' := [(0, .ref o1), (1, .int (nI 0))]) rfl ?_
  refine cg_iload_n C (i := 1) rfl 1 rfl dX0_textOf_0 ?_
  refine cg_if_neN C (by omega) 11 (by decide) dX0_textOf_1 (fun c_ => absurd c_ (by omega)) (fun c_1 => ?_)
  refine cg_aload_n C (i := 0) rfl 0 rfl dX0_textOf_4 ?_
  refine cg_get C (k := 0) (j := 3) (.ref o2) h3 h2 (by decide) rfl (by decide) rfl (show cV _ 0 3 o1 = _ from congrArg va_rf h1) cWs_wsX00 cl_X0_24 rfl dX0_textOf_5 ?_
  refine cg_goto C 15 (by decide) dX0_textOf_8 ?_
  exact cg_aret C rfl (by first | exact Or.inl ⟨_, rfl⟩ | exact Or.inr ⟨_, rfl⟩) ⟨rfl, rfl⟩ dX0_textOf_15 (by decide) (by decide)
set_option maxHeartbeats 4000000 in
set_option maxRecDepth 100000 in
theorem z63_X0_textOf (l : Launch) (hlt : l.stackTraces = false) (S : cS) (dp : Nat) (o1 o2 : Nat) (h1 : cr S 4 o1 = (some o2)) (h2 : cK S o1 = 0) (h3 : o1 ∈ cL S) : cMet (cQr (fun r_ u_ => r_ = o2 ∧ u_ = S)) l yX0_textOf cX0_textOf 2 (some (.object "SearchMill$Text")) 0 0 0 0 [.ref o1, .int (nI 1)] S dp := by
  intro D Y tp sz
  refine cg_body (by decide +kernel) (Nat.le_of_ble_eq_true rfl) ?_
  intro p e s m args below meth c C
  generalize va_A (cWd Y S) sz = A at C ⊢
  have C : cC p s m args meth c cX0_textOf 2 (some (.object "SearchMill$Text")) A D Y tp dp RX0 := C
  refine cg_lv (lv' := [(0, .ref o1), (1, .int (nI 1))]) rfl ?_
  refine cg_iload_n C (i := 1) rfl 1 rfl dX0_textOf_0 ?_
  refine cg_if_neN C (by omega) 11 (by decide) dX0_textOf_1 (fun c_1 => ?_) (fun c_ => absurd c_ (by omega))
  refine cg_aload_n C (i := 0) rfl 0 rfl dX0_textOf_11 ?_
  refine cg_get C (k := 0) (j := 4) (.ref o2) h3 h2 (by decide) rfl (by decide) rfl (show cV _ 0 4 o1 = _ from congrArg va_rf h1) cWs_wsX00 cl_X0_28 rfl dX0_textOf_12 ?_
  exact cg_aret C rfl (by first | exact Or.inl ⟨_, rfl⟩ | exact Or.inr ⟨_, rfl⟩) ⟨rfl, rfl⟩ dX0_textOf_15 (by decide) (by decide)
set_option maxHeartbeats 4000000 in
set_option maxRecDepth 100000 in
theorem z64_Jx4a65c_grow_92f84 (l : Launch) (hlt : l.stackTraces = false) (S : cS) (dp : Nat) (o1 : Nat) (h1 : cr S 385 o1 = (some dp)) (h2 : cK S o1 = 12) (h3 : o1 ∈ cL S) : cMet (cQr (fun r_ u_ => ∃ (q1 : Nat) (S1 : cS), q1 ∉ cL S ∧ S1 = cNewA S q1 17 10 ∧ ∃ (S2 : cS), S2 = cSr S1 385 o1 (some q1) ∧ r_ = q1 ∧ u_ = S2)) l yJx4a65c_grow_92f84 cJx4a65c_grow_92f84 4 (some (.array (.object "java/lang/Object"))) 1 1 10 14 [.ref o1, .int (nI 1)] S dp := by
  intro D Y tp sz
  refine cg_body (by decide +kernel) (Nat.le_of_ble_eq_true rfl) ?_
  intro p e s m args below meth c C
  generalize va_A (cWd Y S) sz = A at C ⊢
  have C : cC p s m args meth c cJx4a65c_grow_92f84 4 (some (.array (.object "java/lang/Object"))) A D Y tp dp RJx4a65c := C
  refine cg_lv (lv' := [(0, .ref o1), (1, .int (nI 1))]) rfl ?_
  refine cg_aload_n C (i := 0) rfl 0 rfl dJx4a65c_grow_92f84_0 ?_
  refine cg_get C (k := 12) (j := 1) (.ref dp) h3 h2 (by decide) rfl (by decide) rfl (show cV _ 12 1 o1 = _ from congrArg va_rf h1) cWs_wsJx4a65c0 cl_Jx4a65c_9 rfl dJx4a65c_grow_92f84_1 ?_
  refine cg_dlen C dJx4a65c_grow_92f84_4 ?_
  refine cg_istore_n C (i := 2) (lv' := [(2, .int (nI 0)), (0, .ref o1), (1, .int (nI 1))]) rfl (Nat.le_of_ble_eq_true rfl) rfl dJx4a65c_grow_92f84_5 ?_
  refine cg_iload_n C (i := 2) rfl 0 rfl dJx4a65c_grow_92f84_6 ?_
  refine cg_if_gtN C (by omega) 20 (by decide) dJx4a65c_grow_92f84_7 (fun c_ => absurd c_ (by omega)) (fun c_7 => ?_)
  refine cg_aload_n C (i := 0) rfl 1 rfl dJx4a65c_grow_92f84_10 ?_
  refine cg_get C (k := 12) (j := 1) (.ref dp) h3 h2 (by decide) rfl (by decide) rfl (show cV _ 12 1 o1 = _ from congrArg va_rf h1) cWs_wsJx4a65c0 cl_Jx4a65c_9 rfl dJx4a65c_grow_92f84_11 ?_
  refine cg_dflt C cl_dflt_39 dJx4a65c_grow_92f84_14 ?_
  refine cg_acmp_eq C 45 (by decide) dJx4a65c_grow_92f84_17 (fun _ => ?_) (fun c_ => absurd rfl c_)
  refine cg_aload_n C (i := 0) rfl 1 rfl dJx4a65c_grow_92f84_45 ?_
  refine cg_bipush C (x := nI 10) rfl dJx4a65c_grow_92f84_46 ?_
  refine cg_iload_n C (i := 1) rfl 2 rfl dJx4a65c_grow_92f84_48 ?_
  refine cg_mmax C cmmax_Jx4a65c_79 cmmax_s cmm_i cmmax_c (by decide) (Nat.le_of_ble_eq_true rfl) (by decide) (by decide) dJx4a65c_grow_92f84_49 ?_
  refine cg_cast (.int (nI 10)) (congrArg Value.int (by decide)) ?_
  refine cg_newO C 10 (by decide) cx_Jx4a65c_7 (by decide) (by decide) dJx4a65c_grow_92f84_52 (fun q1 hf_q1 => ?_)
  refine cg_nm (fun S1 (hS1 : S1 = cNewA S q1 17 10) => ?_)
  refine cg_dup_x1 C rfl rfl dJx4a65c_grow_92f84_55 ?_
  refine cg_putr C (k := 12) (j := 1) (x := (some q1)) (ty := tyJx4a65c) (fty := tyJx4a65c 1) (hm_A hS1 h3) (hk_A hS1 (cm_ne h3 hf_q1) h2) (by decide) rfl (by decide) rfl (by decide) rfl cWs_wsJx4a65c0 tyJx4a65c_ok nmJx4a65c cl_Jx4a65c_9 rfl rfl rfl rfl rfl dJx4a65c_grow_92f84_56 ?_
  refine cg_nm (fun S2 (hS2 : S2 = cSr S1 385 o1 (some q1)) => ?_)
  exact cg_aret C rfl (by first | exact Or.inl ⟨_, rfl⟩ | exact Or.inr ⟨_, rfl⟩) ⟨q1, S1, hf_q1, hS1, S2, hS2, rfl, rfl⟩ dJx4a65c_grow_92f84_59 (by decide) (by decide)
set_option maxHeartbeats 4000000 in
set_option maxRecDepth 100000 in
theorem z65_Jx4a65c_grow_d5877 (l : Launch) (hlt : l.stackTraces = false) (S : cS) (dp : Nat) (o1 : Nat) (h1 : ci S 386 o1 = (nI 0)) (h2 : cK S o1 = 12) (h3 : o1 ∈ cL S) (h4 : cr S 385 o1 = (some dp)) : cMet (cQr (fun r_ u_ => ∃ (q1 : Nat) (S1 : cS), q1 ∉ cL S ∧ S1 = cNewA S q1 17 10 ∧ ∃ (S2 : cS), S2 = cSr S1 385 o1 (some q1) ∧ r_ = q1 ∧ u_ = S2)) l yJx4a65c_grow_d5877 cJx4a65c_grow_d5877 1 (some (.array (.object "java/lang/Object"))) 2 1 10 37 [.ref o1] S dp := by
  intro D Y tp sz
  refine cg_body (by decide +kernel) (Nat.le_of_ble_eq_true rfl) ?_
  intro p e s m args below meth c C
  generalize va_A (cWd Y S) sz = A at C ⊢
  have C : cC p s m args meth c cJx4a65c_grow_d5877 1 (some (.array (.object "java/lang/Object"))) A D Y tp dp RJx4a65c := C
  refine cg_lv (lv' := [(0, .ref o1)]) rfl ?_
  refine cg_aload_n C (i := 0) rfl 0 rfl dJx4a65c_grow_d5877_0 ?_
  refine cg_aload_n C (i := 0) rfl 0 rfl dJx4a65c_grow_d5877_1 ?_
  refine cg_get C (k := 12) (j := 2) (.int (nI 0)) h3 h2 (by decide) rfl (by decide) rfl (show cV _ 12 2 o1 = _ from congrArg Value.int h1) cWs_wsJx4a65c0 cl_Jx4a65c_48 rfl dJx4a65c_grow_d5877_2 ?_
  refine cg_iconst C (x := nI 1) rfl dJx4a65c_grow_d5877_5 ?_
  refine cg_iadd C dJx4a65c_grow_d5877_6 ?_
  refine cg_cast (.int (nI 1)) (congrArg Value.int (by decide)) ?_
  refine cg_callr C (z64_Jx4a65c_grow_92f84 l hlt S dp o1 h4 h2 h3) cc_Jx4a65c_69 h3 h2 (by decide) rfl rfl ⟨by decide, by decide⟩ ⟨by decide, by decide⟩ rfl (Nat.le_of_ble_eq_true rfl) dJx4a65c_grow_d5877_7 (fun r_7 u_7 h_7 => ?_)
  obtain ⟨q1, S1, hf_q1, hS1, S2, hS2, hr_7, hu_7⟩ := h_7
  have hw_7 := hu_7.symm
  subst hw_7
  have hx_7 := hr_7.symm
  subst hx_7
  exact cg_aret C rfl (by first | exact Or.inl ⟨_, rfl⟩ | exact Or.inr ⟨_, rfl⟩) ⟨q1, S1, hf_q1, hS1, S2, hS2, rfl, rfl⟩ dJx4a65c_grow_d5877_10 (by decide) (by decide)
set_option maxHeartbeats 4000000 in
set_option maxRecDepth 100000 in
theorem z66_Jx4a65c_add_72be8 (l : Launch) (hlt : l.stackTraces = false) (S : cS) (dp : Nat) (o1 o2 : Nat) (h1 : ci S 386 o1 = (nI 0)) (h2 : cK S o1 = 12) (h3 : o1 ∈ cL S) (h4 : cr S 385 o1 = (some dp)) (h5 : cK S o2 = 0) (h6 : o2 ∈ cL S) : cMet (cQv (fun u_ => ∃ (q1 : Nat) (S1 : cS), q1 ∉ cL S ∧ S1 = cNewA S q1 17 10 ∧ ∃ (S2 : cS), S2 = cSr S1 385 o1 (some q1) ∧ ∃ (S3 : cS), S3 = cSO S2 q1 0 (some o2) ∧ ∃ (S4 : cS), S4 = cSi S3 386 o1 (nI 1) ∧ u_ = S4)) l yJx4a65c_add_72be8 cJx4a65c_add_72be8 4 none 3 1 10 57 [.ref o1, .ref o2, .ref dp, .int (nI 0)] S dp := by
  intro D Y tp sz
  refine cg_body (by decide +kernel) (Nat.le_of_ble_eq_true rfl) ?_
  intro p e s m args below meth c C
  generalize va_A (cWd Y S) sz = A at C ⊢
  have C : cC p s m args meth c cJx4a65c_add_72be8 4 none A D Y tp dp RJx4a65c := C
  refine cg_lv (lv' := [(0, .ref o1), (1, .ref o2), (2, .ref dp), (3, .int (nI 0))]) rfl ?_
  refine cg_iload_n C (i := 3) rfl 3 rfl dJx4a65c_add_72be8_0 ?_
  refine cg_aload_n C (i := 2) rfl 2 rfl dJx4a65c_add_72be8_1 ?_
  refine cg_dlen C dJx4a65c_add_72be8_2 ?_
  refine cg_icmp_neN C (by omega) (by omega) 11 (by decide) dJx4a65c_add_72be8_3 (fun c_ => absurd c_ (by omega)) (fun c_3 => ?_)
  refine cg_aload_n C (i := 0) rfl 0 rfl dJx4a65c_add_72be8_6 ?_
  refine cg_callr C (z65_Jx4a65c_grow_d5877 l hlt S dp o1 h1 h2 h3 h4) cc_Jx4a65c_129 h3 h2 (by decide) rfl rfl ⟨by decide, by decide⟩ ⟨by decide, by decide⟩ rfl (Nat.le_of_ble_eq_true rfl) dJx4a65c_add_72be8_7 (fun r_7 u_7 h_7 => ?_)
  obtain ⟨q1, S1, hf_q1, hS1, S2, hS2, hr_7, hu_7⟩ := h_7
  have hw_7 := hu_7.symm
  subst hw_7
  have hx_7 := hr_7.symm
  subst hx_7
  refine cg_astore_n (lv' := [(2, .ref q1), (0, .ref o1), (1, .ref o2), (3, .int (nI 0))]) C (i := 2) rfl (Nat.le_of_ble_eq_true rfl) rfl dJx4a65c_add_72be8_10 ?_
  refine cg_aload_n C (i := 2) rfl 0 rfl dJx4a65c_add_72be8_11 ?_
  refine cg_iload_n C (i := 3) rfl 3 rfl dJx4a65c_add_72be8_12 ?_
  refine cg_aload_n C (i := 1) rfl 2 rfl dJx4a65c_add_72be8_13 ?_
  refine cg_aastore C 0 (hm_Sr hS2 (hm_Ao hS1)) (hk_Sr hS2 (hk_Ao hS1)) (by rw [show cn _ _ = 10 from (hn_Sr hS2 (hn_Ao hS1))]; omega) (by rw [show cn _ _ = 10 from (hn_Sr hS2 (hn_Ao hS1))]; omega) (hm_Sr hS2 (hm_A hS1 h6)) (hk_Sr hS2 (hk_A hS1 (cm_ne h6 hf_q1) h5)) (by decide) rfl (by decide) dJx4a65c_add_72be8_14 ?_
  refine cg_nm (fun S3 (hS3 : S3 = cSO S2 q1 0 (some o2)) => ?_)
  refine cg_aload_n C (i := 0) rfl 1 rfl dJx4a65c_add_72be8_15 ?_
  refine cg_iload_n C (i := 3) rfl 3 rfl dJx4a65c_add_72be8_16 ?_
  refine cg_iconst C (x := nI 1) rfl dJx4a65c_add_72be8_17 ?_
  refine cg_iadd C dJx4a65c_add_72be8_18 ?_
  refine cg_cast (.int (nI 1)) (congrArg Value.int (by decide)) ?_
  refine cg_puti C (k := 12) (j := 2) (ty := tyJx4a65c) (fty := .int) (hm_SO hS3 (hm_Sr hS2 (hm_A hS1 h3))) (hk_SO hS3 (hk_Sr hS2 (hk_A hS1 (cm_ne h3 hf_q1) h2))) (by decide) rfl (by decide) rfl (by decide) rfl cWs_wsJx4a65c0 tyJx4a65c_ok nmJx4a65c cl_Jx4a65c_48 rfl rfl rfl rfl rfl dJx4a65c_add_72be8_19 ?_
  refine cg_nm (fun S4 (hS4 : S4 = cSi S3 386 o1 (nI 1)) => ?_)
  exact cg_vret C ⟨q1, S1, hf_q1, hS1, S2, hS2, S3, hS3, S4, hS4, rfl⟩ dJx4a65c_add_72be8_22 (by decide) (by decide)
set_option maxHeartbeats 4000000 in
set_option maxRecDepth 100000 in
theorem z67_Jx4a65c_add_9ea2d (l : Launch) (hlt : l.stackTraces = false) (S : cS) (dp : Nat) (o1 o2 : Nat) (h1 : ci S 384 o1 = (nI 0)) (h2 : cK S o1 = 12) (h3 : o1 ∈ cL S) (h4 : cr S 385 o1 = (some dp)) (h5 : ci S 386 o1 = (nI 0)) (h6 : cK S o2 = 0) (h7 : o2 ∈ cL S) : cMet (cQi (fun r_ u_ => ∃ (S1 : cS), S1 = cSi S 384 o1 (nI 1) ∧ ∃ (q1 : Nat) (S2 : cS), q1 ∉ cL S1 ∧ S2 = cNewA S1 q1 17 10 ∧ ∃ (S3 : cS), S3 = cSr S2 385 o1 (some q1) ∧ ∃ (S4 : cS), S4 = cSO S3 q1 0 (some o2) ∧ ∃ (S5 : cS), S5 = cSi S4 386 o1 (nI 1) ∧ r_ = (bI true) ∧ u_ = S5)) l yJx4a65c_add_9ea2d cJx4a65c_add_9ea2d 2 (some .boolean) 4 1 10 80 [.ref o1, .ref o2] S dp := by
  intro D Y tp sz
  refine cg_body (by decide +kernel) (Nat.le_of_ble_eq_true rfl) ?_
  intro p e s m args below meth c C
  generalize va_A (cWd Y S) sz = A at C ⊢
  have C : cC p s m args meth c cJx4a65c_add_9ea2d 2 (some .boolean) A D Y tp dp RJx4a65c := C
  refine cg_lv (lv' := [(0, .ref o1), (1, .ref o2)]) rfl ?_
  refine cg_aload_n C (i := 0) rfl 0 rfl dJx4a65c_add_9ea2d_0 ?_
  refine cg_dup C rfl dJx4a65c_add_9ea2d_1 ?_
  refine cg_getS C (k := 12) (j := 0) (.int (nI 0)) h3 h2 (by decide) rfl (by decide) rfl (show cV _ 12 0 o1 = _ from congrArg Value.int h1) cWs_wsJx4a65c0 cl_mod12 (Or.inr csf_mod) dJx4a65c_add_9ea2d_2 ?_
  refine cg_iconst C (x := nI 1) rfl dJx4a65c_add_9ea2d_5 ?_
  refine cg_iadd C dJx4a65c_add_9ea2d_6 ?_
  refine cg_cast (.int (nI 1)) (congrArg Value.int (by decide)) ?_
  refine cg_putiS C (k := 12) (j := 0) (ty := tyJx4a65c) (fty := .int) h3 h2 (by decide) rfl (by decide) rfl (by decide) rfl cWs_wsJx4a65c0 tyJx4a65c_ok nmJx4a65c cl_mod12 (Or.inr csf_mod) rfl rfl rfl rfl dJx4a65c_add_9ea2d_7 ?_
  refine cg_nm (fun S1 (hS1 : S1 = cSi S 384 o1 (nI 1)) => ?_)
  refine cg_aload_n C (i := 0) rfl 0 rfl dJx4a65c_add_9ea2d_10 ?_
  refine cg_aload_n C (i := 1) rfl 1 rfl dJx4a65c_add_9ea2d_11 ?_
  refine cg_aload_n C (i := 0) rfl 0 rfl dJx4a65c_add_9ea2d_12 ?_
  refine cg_get C (k := 12) (j := 1) (.ref dp) (hm_Si hS1 h3) (hk_Si hS1 h2) (by decide) rfl (by decide) rfl (show cV _ 12 1 o1 = _ from congrArg va_rf (hr_Si hS1 h4)) cWs_wsJx4a65c0 cl_Jx4a65c_9 rfl dJx4a65c_add_9ea2d_13 ?_
  refine cg_aload_n C (i := 0) rfl 0 rfl dJx4a65c_add_9ea2d_16 ?_
  refine cg_get C (k := 12) (j := 2) (.int (nI 0)) (hm_Si hS1 h3) (hk_Si hS1 h2) (by decide) rfl (by decide) rfl (show cV _ 12 2 o1 = _ from congrArg Value.int (hi_Si_q hS1 (by decide) h5)) cWs_wsJx4a65c0 cl_Jx4a65c_48 rfl dJx4a65c_add_9ea2d_17 ?_
  refine cg_callv C (z66_Jx4a65c_add_72be8 l hlt S1 dp o1 o2 (hi_Si_q hS1 (by decide) h5) (hk_Si hS1 h2) (hm_Si hS1 h3) (hr_Si hS1 h4) (hk_Si hS1 h6) (hm_Si hS1 h7)) cc_Jx4a65c_131 (hm_Si hS1 h3) (hk_Si hS1 h2) (by decide) rfl rfl ⟨by decide, by decide⟩ ⟨by decide, by decide⟩ rfl (Nat.le_of_ble_eq_true rfl) dJx4a65c_add_9ea2d_20 (fun u_20 h_20 => ?_)
  obtain ⟨q1, S2, hf_q1, hS2, S3, hS3, S4, hS4, S5, hS5, hu_20⟩ := h_20
  have hw_20 := hu_20.symm
  subst hw_20
  refine cg_iconst C (x := nI 1) rfl dJx4a65c_add_9ea2d_23 ?_
  refine cg_cast (.int (bI true)) rfl ?_
  exact cg_zret C (bI_nar _) ⟨S1, hS1, q1, S2, hf_q1, hS2, S3, hS3, S4, hS4, S5, hS5, rfl, rfl⟩ dJx4a65c_add_9ea2d_24 (by decide) (by decide)
set_option maxHeartbeats 4000000 in
set_option maxRecDepth 100000 in
theorem z68_Jx4a65c_size_8abf5 (l : Launch) (hlt : l.stackTraces = false) (S : cS) (dp : Nat) (o1 : Nat) (h1 : ci S 386 o1 = (nI 1)) (h2 : cK S o1 = 12) (h3 : o1 ∈ cL S) : cMet (cQi (fun r_ u_ => r_ = (nI 1) ∧ u_ = S)) l yJx4a65c_size_8abf5 cJx4a65c_size_8abf5 1 (some .int) 0 0 0 0 [.ref o1] S dp := by
  intro D Y tp sz
  refine cg_body (by decide +kernel) (Nat.le_of_ble_eq_true rfl) ?_
  intro p e s m args below meth c C
  generalize va_A (cWd Y S) sz = A at C ⊢
  have C : cC p s m args meth c cJx4a65c_size_8abf5 1 (some .int) A D Y tp dp RJx4a65c := C
  refine cg_lv (lv' := [(0, .ref o1)]) rfl ?_
  refine cg_aload_n C (i := 0) rfl 0 rfl dJx4a65c_size_8abf5_0 ?_
  refine cg_get C (k := 12) (j := 2) (.int (nI 1)) h3 h2 (by decide) rfl (by decide) rfl (show cV _ 12 2 o1 = _ from congrArg Value.int h1) cWs_wsJx4a65c0 cl_Jx4a65c_48 rfl dJx4a65c_size_8abf5_1 ?_
  exact cg_iret C ⟨rfl, rfl⟩ dJx4a65c_size_8abf5_4 (by decide) (by decide)
set_option maxHeartbeats 4000000 in
set_option maxRecDepth 100000 in
theorem z69_X11_add (l : Launch) (hlt : l.stackTraces = false) (S : cS) (dp : Nat) (o1 o2 o3 o4 o5 o6 o7 o8 : Nat) (n1 : Nat) (h1 : n1 ≤ 99) (h2 : ci S 370 o1 = (bI false)) (h3 : cK S o1 = 11) (h4 : o1 ∈ cL S) (h5 : cr S 354 o1 = (some o2)) (h6 : ci S 386 o2 = (nI 0)) (h7 : cK S o2 = 12) (h8 : o2 ∈ cL S) (h9 : cr S 355 o1 = (some o3)) (h10 : cr S 321 o3 = (some o4)) (h11 : cK S o3 = 10) (h12 : o3 ∈ cL S) (h13 : ci S 386 o4 = (nI 0)) (h14 : cK S o4 = 12) (h15 : o4 ∈ cL S) (h16 : cr S 352 o1 = (some o5)) (h17 : cK S o5 = 3) (h18 : o5 ∈ cL S) (h19 : cr S 353 o1 = (some o6)) (h20 : cK S o6 = 0) (h21 : o6 ∈ cL S) (h22 : cr S 3 o6 = (some o7)) (h23 : ci S 289 o7 = (nI 0)) (h24 : cK S o7 = 9) (h25 : o7 ∈ cL S) (h26 : cr S 4 o6 = (some o8)) (h27 : ci S 289 o8 = (nI 0)) (h28 : cK S o8 = 9) (h29 : o8 ∈ cL S) (h30 : ci S 384 o2 = (nI 0)) (h31 : cr S 385 o2 = (some dp)) : cMet (cQi (fun r_ u_ => ∃ (S1 : cS), S1 = cSi S 104 o5 (bI true) ∧ ∃ (S2 : cS), S2 = cSi S1 0 o6 (nI n1) ∧ ∃ (S3 : cS), S3 = cSi S2 98 o5 (nI 0) ∧ ∃ (S4 : cS), S4 = cSi S3 292 o7 (nI 0) ∧ ∃ (S5 : cS), S5 = cSi S4 98 o5 (nI 0) ∧ ∃ (S6 : cS), S6 = cSi S5 292 o8 (nI 0) ∧ ∃ (S7 : cS), S7 = cSi S6 384 o2 (nI 1) ∧ ∃ (q1 : Nat) (S8 : cS), q1 ∉ cL S7 ∧ S8 = cNewA S7 q1 17 10 ∧ ∃ (S9 : cS), S9 = cSr S8 385 o2 (some q1) ∧ ∃ (S10 : cS), S10 = cSO S9 q1 0 (some o6) ∧ ∃ (S11 : cS), S11 = cSi S10 386 o2 (nI 1) ∧ ∃ (q2 : Nat) (S12 : cS), q2 ∉ cL S11 ∧ S12 = cNew S11 q2 0 ∧ ∃ (S13 : cS), S13 = cSi S12 0 q2 ((-1)) ∧ ∃ (S14 : cS), S14 = cSi S13 1 q2 (nI 0) ∧ ∃ (S15 : cS), S15 = cSi S14 2 q2 (nI 0) ∧ ∃ (q3 : Nat) (S16 : cS), q3 ∉ cL S15 ∧ S16 = cNew S15 q3 9 ∧ ∃ (q4 : Nat) (S17 : cS), q4 ∉ cL S16 ∧ S17 = cNewA S16 q4 14 40 ∧ ∃ (S18 : cS), S18 = cSr S17 288 q3 (some q4) ∧ ∃ (S19 : cS), S19 = cSi S18 289 q3 (nI 0) ∧ ∃ (q5 : Nat) (S20 : cS), q5 ∉ cL S19 ∧ S20 = cNewA S19 q5 15 0 ∧ ∃ (S21 : cS), S21 = cSr S20 290 q3 (some q5) ∧ ∃ (q6 : Nat) (S22 : cS), q6 ∉ cL S21 ∧ S22 = cNewA S21 q6 14 0 ∧ ∃ (S23 : cS), S23 = cSr S22 291 q3 (some q6) ∧ ∃ (S24 : cS), S24 = cSi S23 292 q3 (nI 0) ∧ ∃ (S25 : cS), S25 = cSr S24 3 q2 (some q3) ∧ ∃ (q7 : Nat) (S26 : cS), q7 ∉ cL S25 ∧ S26 = cNew S25 q7 9 ∧ ∃ (q8 : Nat) (S27 : cS), q8 ∉ cL S26 ∧ S27 = cNewA S26 q8 14 40 ∧ ∃ (S28 : cS), S28 = cSr S27 288 q7 (some q8) ∧ ∃ (S29 : cS), S29 = cSi S28 289 q7 (nI 0) ∧ ∃ (q9 : Nat) (S30 : cS), q9 ∉ cL S29 ∧ S30 = cNewA S29 q9 15 0 ∧ ∃ (S31 : cS), S31 = cSr S30 290 q7 (some q9) ∧ ∃ (q10 : Nat) (S32 : cS), q10 ∉ cL S31 ∧ S32 = cNewA S31 q10 14 0 ∧ ∃ (S33 : cS), S33 = cSr S32 291 q7 (some q10) ∧ ∃ (S34 : cS), S34 = cSi S33 292 q7 (nI 0) ∧ ∃ (S35 : cS), S35 = cSr S34 4 q2 (some q7) ∧ ∃ (S36 : cS), S36 = cSr S35 353 o1 (some q2) ∧ r_ = (nI 1) ∧ u_ = S36)) l yX11_add cX11_add 2 (some .int) 5 10 105 101 [.ref o1, .int (nI n1)] S dp := by
  intro D Y tp sz
  refine cg_body (by decide +kernel) (Nat.le_of_ble_eq_true rfl) ?_
  intro p e s m args below meth c C
  generalize va_A (cWd Y S) sz = A at C ⊢
  have C : cC p s m args meth c cX11_add 2 (some .int) A D Y tp dp RX11 := C
  refine cg_lv (lv' := [(0, .ref o1), (1, .int (nI n1))]) rfl ?_
  refine cg_iload_n C (i := 1) rfl 1 rfl dX11_add_0 ?_
  refine cg_callsv C (z56_X11_checkKey l hlt S dp n1 (by omega)) cc_X11_174 rfl ⟨by decide, by decide⟩ ⟨by decide, by decide⟩ rfl (Nat.le_of_ble_eq_true rfl) dX11_add_1 (fun u_1 h_1 => ?_)
  have hu_1 := h_1
  have hw_1 := hu_1.symm
  subst hw_1
  refine cg_aload_n C (i := 0) rfl 0 rfl dX11_add_4 ?_
  refine cg_callv C (z57_X11_checkUp l hlt S dp o1 h2 h3 h4) cc_X11_177 h4 h3 (by decide) rfl rfl ⟨by decide, by decide⟩ ⟨by decide, by decide⟩ rfl (Nat.le_of_ble_eq_true rfl) dX11_add_5 (fun u_5 h_5 => ?_)
  have hu_5 := h_5
  have hw_5 := hu_5.symm
  subst hw_5
  refine cg_aload_n C (i := 0) rfl 0 rfl dX11_add_8 ?_
  refine cg_get C (k := 11) (j := 2) (.ref o2) h4 h3 (by decide) rfl (by decide) rfl (show cV _ 11 2 o1 = _ from congrArg va_rf h5) cWs_wsX110 cl_X11_26 rfl dX11_add_9 ?_
  refine cg_calli C (z58_Jx4a65c_size_8abf5 l hlt S dp o2 h6 h7 h8) cc_X11_180 h8 h7 (by decide) rfl rfl ⟨by decide, by decide⟩ ⟨by decide, by decide⟩ rfl (Nat.le_of_ble_eq_true rfl) dX11_add_12 (fun r_12 u_12 h_12 => ?_)
  obtain ⟨hr_12, hu_12⟩ := h_12
  have hw_12 := hu_12.symm
  subst hw_12
  have hx_12 := hr_12.symm
  subst hx_12
  refine cg_bipush C (x := nI 12) rfl dX11_add_15 ?_
  refine cg_icmp_ltN C (by omega) (by omega) 39 (by decide) dX11_add_17 (fun c_17 => ?_) (fun c_ => absurd c_ (by omega))
  refine cg_aload_n C (i := 0) rfl 0 rfl dX11_add_39 ?_
  refine cg_iload_n C (i := 1) rfl 1 rfl dX11_add_40 ?_
  refine cg_calli C (z61_X11_dropKey l hlt S dp o1 o2 o3 o4 n1 (by omega) h5 h3 h4 h6 h7 h8 h9 h10 h11 h12 h13 h14 h15) cc_X11_189 h4 h3 (by decide) rfl rfl ⟨by decide, by decide⟩ ⟨by decide, by decide⟩ rfl (Nat.le_of_ble_eq_true rfl) dX11_add_41 (fun r_41 u_41 h_41 => ?_)
  obtain ⟨hr_41, hu_41⟩ := h_41
  have hw_41 := hu_41.symm
  subst hw_41
  have hx_41 := hr_41.symm
  subst hx_41
  refine cg_pop C rfl dX11_add_44 ?_
  refine cg_aload_n C (i := 0) rfl 0 rfl dX11_add_45 ?_
  refine cg_get C (k := 11) (j := 0) (.ref o5) h4 h3 (by decide) rfl (by decide) rfl (show cV _ 11 0 o1 = _ from congrArg va_rf h16) cWs_wsX110 cl_X11_10 rfl dX11_add_46 ?_
  refine cg_iconst C (x := nI 1) rfl dX11_add_49 ?_
  refine cg_cast (.int (bI true)) rfl ?_
  refine cg_puti C (k := 3) (j := 8) (ty := tyX3) (fty := .boolean) h18 h17 (by decide) rfl (by decide) rfl (by decide) rfl cWs_wsX30 tyX3_ok nmX3 cl_X11_136 rfl rfl rfl (bI_nar _) (bI_fit _) dX11_add_50 ?_
  refine cg_nm (fun S1 (hS1 : S1 = cSi S 104 o5 (bI true)) => ?_)
  refine cg_aload_n C (i := 0) rfl 0 rfl dX11_add_53 ?_
  refine cg_get C (k := 11) (j := 1) (.ref o6) (hm_Si hS1 h4) (hk_Si hS1 h3) (by decide) rfl (by decide) rfl (show cV _ 11 1 o1 = _ from congrArg va_rf (hr_Si hS1 h19)) cWs_wsX110 cl_X11_19 rfl dX11_add_54 ?_
  refine cg_iload_n C (i := 1) rfl 1 rfl dX11_add_57 ?_
  refine cg_puti C (k := 0) (j := 0) (ty := tyX0) (fty := .int) (hm_Si hS1 h21) (hk_Si hS1 h20) (by decide) rfl (by decide) rfl (by decide) rfl cWs_wsX00 tyX0_ok nmX0 cl_X11_193 rfl rfl rfl rfl rfl dX11_add_58 ?_
  refine cg_nm (fun S2 (hS2 : S2 = cSi S1 0 o6 (nI n1)) => ?_)
  refine cg_aload_n C (i := 0) rfl 0 rfl dX11_add_61 ?_
  refine cg_get C (k := 11) (j := 0) (.ref o5) (hm_Si hS2 (hm_Si hS1 h4)) (hk_Si hS2 (hk_Si hS1 h3)) (by decide) rfl (by decide) rfl (show cV _ 11 0 o1 = _ from congrArg va_rf (hr_Si hS2 (hr_Si hS1 h16))) cWs_wsX110 cl_X11_10 rfl dX11_add_62 ?_
  refine cg_aload_n C (i := 0) rfl 0 rfl dX11_add_65 ?_
  refine cg_get C (k := 11) (j := 1) (.ref o6) (hm_Si hS2 (hm_Si hS1 h4)) (hk_Si hS2 (hk_Si hS1 h3)) (by decide) rfl (by decide) rfl (show cV _ 11 1 o1 = _ from congrArg va_rf (hr_Si hS2 (hr_Si hS1 h19))) cWs_wsX110 cl_X11_19 rfl dX11_add_66 ?_
  refine cg_iconst C (x := nI 0) rfl dX11_add_69 ?_
  refine cg_callr C (z62_X0_textOf l hlt S2 dp o6 o7 (hr_Si hS2 (hr_Si hS1 h22)) (hk_Si hS2 (hk_Si hS1 h20)) (hm_Si hS2 (hm_Si hS1 h21))) cc_X11_196 (hm_Si hS2 (hm_Si hS1 h21)) (hk_Si hS2 (hk_Si hS1 h20)) (by decide) rfl rfl ⟨by decide, by decide⟩ ⟨by decide, by decide⟩ rfl (Nat.le_of_ble_eq_true rfl) dX11_add_70 (fun r_70 u_70 h_70 => ?_)
  obtain ⟨hr_70, hu_70⟩ := h_70
  have hw_70 := hu_70.symm
  subst hw_70
  have hx_70 := hr_70.symm
  subst hx_70
  refine cg_iconst C (x := nI 1) rfl dX11_add_73 ?_
  refine cg_callv C (z31_X3_tokenise l hlt S2 dp o5 o7 (hk_Si hS2 (hk_Si hS1 h17)) (hm_Si hS2 (hm_Si hS1 h18)) (hi_Si_q hS2 (by decide) (hi_Si_q hS1 (by decide) h23)) (hk_Si hS2 (hk_Si hS1 h24)) (hm_Si hS2 (hm_Si hS1 h25))) cc_X11_155 (hm_Si hS2 (hm_Si hS1 h18)) (hk_Si hS2 (hk_Si hS1 h17)) (by decide) rfl rfl ⟨by decide, by decide⟩ ⟨by decide, by decide⟩ rfl (Nat.le_of_ble_eq_true rfl) dX11_add_74 (fun u_74 h_74 => ?_)
  obtain ⟨S3, hS3, S4, hS4, hu_74⟩ := h_74
  have hw_74 := hu_74.symm
  subst hw_74
  refine cg_aload_n C (i := 0) rfl 0 rfl dX11_add_77 ?_
  refine cg_get C (k := 11) (j := 0) (.ref o5) (hm_Si hS4 (hm_Si hS3 (hm_Si hS2 (hm_Si hS1 h4)))) (hk_Si hS4 (hk_Si hS3 (hk_Si hS2 (hk_Si hS1 h3)))) (by decide) rfl (by decide) rfl (show cV _ 11 0 o1 = _ from congrArg va_rf (hr_Si hS4 (hr_Si hS3 (hr_Si hS2 (hr_Si hS1 h16))))) cWs_wsX110 cl_X11_10 rfl dX11_add_78 ?_
  refine cg_aload_n C (i := 0) rfl 0 rfl dX11_add_81 ?_
  refine cg_get C (k := 11) (j := 1) (.ref o6) (hm_Si hS4 (hm_Si hS3 (hm_Si hS2 (hm_Si hS1 h4)))) (hk_Si hS4 (hk_Si hS3 (hk_Si hS2 (hk_Si hS1 h3)))) (by decide) rfl (by decide) rfl (show cV _ 11 1 o1 = _ from congrArg va_rf (hr_Si hS4 (hr_Si hS3 (hr_Si hS2 (hr_Si hS1 h19))))) cWs_wsX110 cl_X11_19 rfl dX11_add_82 ?_
  refine cg_iconst C (x := nI 1) rfl dX11_add_85 ?_
  refine cg_callr C (z63_X0_textOf l hlt S4 dp o6 o8 (hr_Si hS4 (hr_Si hS3 (hr_Si hS2 (hr_Si hS1 h26)))) (hk_Si hS4 (hk_Si hS3 (hk_Si hS2 (hk_Si hS1 h20)))) (hm_Si hS4 (hm_Si hS3 (hm_Si hS2 (hm_Si hS1 h21))))) cc_X11_196 (hm_Si hS4 (hm_Si hS3 (hm_Si hS2 (hm_Si hS1 h21)))) (hk_Si hS4 (hk_Si hS3 (hk_Si hS2 (hk_Si hS1 h20)))) (by decide) rfl rfl ⟨by decide, by decide⟩ ⟨by decide, by decide⟩ rfl (Nat.le_of_ble_eq_true rfl) dX11_add_86 (fun r_86 u_86 h_86 => ?_)
  obtain ⟨hr_86, hu_86⟩ := h_86
  have hw_86 := hu_86.symm
  subst hw_86
  have hx_86 := hr_86.symm
  subst hx_86
  refine cg_iconst C (x := nI 1) rfl dX11_add_89 ?_
  have f_1 : ci S3 289 o8 = (nI 0) := (hi_Si_q hS3 (by decide) (hi_Si_q hS2 (by decide) (hi_Si_q hS1 (by decide) h27)))
  refine cg_callv C (z31_X3_tokenise l hlt S4 dp o5 o8 (hk_Si hS4 (hk_Si hS3 (hk_Si hS2 (hk_Si hS1 h17)))) (hm_Si hS4 (hm_Si hS3 (hm_Si hS2 (hm_Si hS1 h18)))) (hi_Si_q hS4 (by decide) f_1) (hk_Si hS4 (hk_Si hS3 (hk_Si hS2 (hk_Si hS1 h28)))) (hm_Si hS4 (hm_Si hS3 (hm_Si hS2 (hm_Si hS1 h29))))) cc_X11_155 (hm_Si hS4 (hm_Si hS3 (hm_Si hS2 (hm_Si hS1 h18)))) (hk_Si hS4 (hk_Si hS3 (hk_Si hS2 (hk_Si hS1 h17)))) (by decide) rfl rfl ⟨by decide, by decide⟩ ⟨by decide, by decide⟩ rfl (Nat.le_of_ble_eq_true rfl) dX11_add_90 (fun u_90 h_90 => ?_)
  obtain ⟨S5, hS5, S6, hS6, hu_90⟩ := h_90
  have hw_90 := hu_90.symm
  subst hw_90
  refine cg_aload_n C (i := 0) rfl 0 rfl dX11_add_93 ?_
  have f_2 : cr S6 354 o1 = (some o2) := (hr_Si hS6 (hr_Si hS5 (hr_Si hS4 (hr_Si hS3 (hr_Si hS2 (hr_Si hS1 h5))))))
  have f_3 : cK S6 o1 = 11 := (hk_Si hS6 (hk_Si hS5 (hk_Si hS4 (hk_Si hS3 (hk_Si hS2 (hk_Si hS1 h3))))))
  have f_4 : o1 ∈ cL S6 := (hm_Si hS6 (hm_Si hS5 (hm_Si hS4 (hm_Si hS3 (hm_Si hS2 (hm_Si hS1 h4))))))
  refine cg_get C (k := 11) (j := 2) (.ref o2) f_4 f_3 (by decide) rfl (by decide) rfl (show cV _ 11 2 o1 = _ from congrArg va_rf f_2) cWs_wsX110 cl_X11_26 rfl dX11_add_94 ?_
  refine cg_aload_n C (i := 0) rfl 0 rfl dX11_add_97 ?_
  have f_5 : cr S6 353 o1 = (some o6) := (hr_Si hS6 (hr_Si hS5 (hr_Si hS4 (hr_Si hS3 (hr_Si hS2 (hr_Si hS1 h19))))))
  refine cg_get C (k := 11) (j := 1) (.ref o6) f_4 f_3 (by decide) rfl (by decide) rfl (show cV _ 11 1 o1 = _ from congrArg va_rf f_5) cWs_wsX110 cl_X11_19 rfl dX11_add_98 ?_
  have f_6 : ci S3 384 o2 = (nI 0) := (hi_Si_q hS3 (by decide) (hi_Si_q hS2 (by decide) (hi_Si_q hS1 (by decide) h30)))
  have f_7 : ci S6 384 o2 = (nI 0) := (hi_Si_q hS6 (by decide) (hi_Si_q hS5 (by decide) (hi_Si_q hS4 (by decide) f_6)))
  have f_8 : cK S6 o2 = 12 := (hk_Si hS6 (hk_Si hS5 (hk_Si hS4 (hk_Si hS3 (hk_Si hS2 (hk_Si hS1 h7))))))
  have f_9 : o2 ∈ cL S6 := (hm_Si hS6 (hm_Si hS5 (hm_Si hS4 (hm_Si hS3 (hm_Si hS2 (hm_Si hS1 h8))))))
  have f_10 : cr S6 385 o2 = (some dp) := (hr_Si hS6 (hr_Si hS5 (hr_Si hS4 (hr_Si hS3 (hr_Si hS2 (hr_Si hS1 h31))))))
  have f_11 : ci S3 386 o2 = (nI 0) := (hi_Si_q hS3 (by decide) (hi_Si_q hS2 (by decide) (hi_Si_q hS1 (by decide) h6)))
  have f_12 : ci S6 386 o2 = (nI 0) := (hi_Si_q hS6 (by decide) (hi_Si_q hS5 (by decide) (hi_Si_q hS4 (by decide) f_11)))
  have f_13 : cK S6 o6 = 0 := (hk_Si hS6 (hk_Si hS5 (hk_Si hS4 (hk_Si hS3 (hk_Si hS2 (hk_Si hS1 h20))))))
  have f_14 : o6 ∈ cL S6 := (hm_Si hS6 (hm_Si hS5 (hm_Si hS4 (hm_Si hS3 (hm_Si hS2 (hm_Si hS1 h21))))))
  refine cg_calli C (z67_Jx4a65c_add_9ea2d l hlt S6 dp o2 o6 f_7 f_8 f_9 f_10 f_12 f_13 f_14) cc_X11_200 f_9 f_8 (by decide) rfl rfl ⟨by decide, by decide⟩ ⟨by decide, by decide⟩ rfl (Nat.le_of_ble_eq_true rfl) dX11_add_101 (fun r_101 u_101 h_101 => ?_)
  obtain ⟨S7, hS7, q1, S8, hf_q1, hS8, S9, hS9, S10, hS10, S11, hS11, hr_101, hu_101⟩ := h_101
  have hw_101 := hu_101.symm
  subst hw_101
  have hx_101 := hr_101.symm
  subst hx_101
  refine cg_pop C rfl dX11_add_104 ?_
  refine cg_aload_n C (i := 0) rfl 0 rfl dX11_add_105 ?_
  refine cg_new C (k := 0) (N := 5) (fs := [.int 0, .int 0, .int 0, .null, .null]) (by decide) rfl cWs_wsX00 tyX0_ok cn_X11_16 ci_X0 ct_X0 (fun j_ hj_ => by rcases (show j_ = 0 ∨ j_ = 1 ∨ j_ = 2 ∨ j_ = 3 ∨ j_ = 4 by omega) with rfl | rfl | rfl | rfl | rfl <;> rfl) rfl (by decide) (by decide) dX11_add_106 (fun q2 hf_q2 => ?_)
  refine cg_nm (fun S12 (hS12 : S12 = cNew S11 q2 0) => ?_)
  refine cg_dup C rfl dX11_add_109 ?_
  refine cg_callIN C (z3_X0_init l hlt S12 dp q2 (hk_No hS12) (hm_No hS12)) czn_X11_18 rfl ⟨by decide, by decide⟩ ⟨by decide, by decide⟩ rfl (Nat.le_of_ble_eq_true rfl) dX11_add_110 (fun u_110 h_110 => ?_)
  obtain ⟨S13, hS13, S14, hS14, S15, hS15, q3, S16, hf_q3, hS16, q4, S17, hf_q4, hS17, S18, hS18, S19, hS19, q5, S20, hf_q5, hS20, S21, hS21, q6, S22, hf_q6, hS22, S23, hS23, S24, hS24, S25, hS25, q7, S26, hf_q7, hS26, q8, S27, hf_q8, hS27, S28, hS28, S29, hS29, q9, S30, hf_q9, hS30, S31, hS31, q10, S32, hf_q10, hS32, S33, hS33, S34, hS34, S35, hS35, hu_110⟩ := h_110
  have hw_110 := hu_110.symm
  subst hw_110
  have f_15 : cK S10 o1 = 11 := (hk_SO hS10 (hk_Sr hS9 (hk_A hS8 (cm_ne (hm_Si hS7 f_4) hf_q1) (hk_Si hS7 f_3))))
  have f_16 : cK S12 o1 = 11 := (hk_N hS12 (cm_ne (hm_Si hS11 (hm_SO hS10 (hm_Sr hS9 (hm_A hS8 (hm_Si hS7 f_4))))) hf_q2) (hk_Si hS11 f_15))
  have f_17 : o1 ∈ cL S12 := (hm_N hS12 (hm_Si hS11 (hm_SO hS10 (hm_Sr hS9 (hm_A hS8 (hm_Si hS7 f_4))))))
  have f_18 : cK S16 o1 = 11 := (hk_N hS16 (cm_ne (hm_Si hS15 (hm_Si hS14 (hm_Si hS13 f_17))) hf_q3) (hk_Si hS15 (hk_Si hS14 (hk_Si hS13 f_16))))
  have f_19 : cK S17 o1 = 11 := (hk_A hS17 (cm_ne (hm_N hS16 (hm_Si hS15 (hm_Si hS14 (hm_Si hS13 f_17)))) hf_q4) f_18)
  have f_20 : o1 ∈ cL S18 := (hm_Sr hS18 (hm_A hS17 (hm_N hS16 (hm_Si hS15 (hm_Si hS14 (hm_Si hS13 f_17))))))
  have f_21 : cK S20 o1 = 11 := (hk_A hS20 (cm_ne (hm_Si hS19 f_20) hf_q5) (hk_Si hS19 (hk_Sr hS18 f_19)))
  have f_22 : cK S22 o1 = 11 := (hk_A hS22 (cm_ne (hm_Sr hS21 (hm_A hS20 (hm_Si hS19 f_20))) hf_q6) (hk_Sr hS21 f_21))
  have f_23 : o1 ∈ cL S24 := (hm_Si hS24 (hm_Sr hS23 (hm_A hS22 (hm_Sr hS21 (hm_A hS20 (hm_Si hS19 f_20))))))
  have f_24 : cK S26 o1 = 11 := (hk_N hS26 (cm_ne (hm_Sr hS25 f_23) hf_q7) (hk_Sr hS25 (hk_Si hS24 (hk_Sr hS23 f_22))))
  have f_25 : cK S28 o1 = 11 := (hk_Sr hS28 (hk_A hS27 (cm_ne (hm_N hS26 (hm_Sr hS25 f_23)) hf_q8) f_24))
  have f_26 : cK S30 o1 = 11 := (hk_A hS30 (cm_ne (hm_Si hS29 (hm_Sr hS28 (hm_A hS27 (hm_N hS26 (hm_Sr hS25 f_23))))) hf_q9) (hk_Si hS29 f_25))
  have f_27 : o1 ∈ cL S30 := (hm_A hS30 (hm_Si hS29 (hm_Sr hS28 (hm_A hS27 (hm_N hS26 (hm_Sr hS25 f_23))))))
  have f_28 : cK S33 o1 = 11 := (hk_Sr hS33 (hk_A hS32 (cm_ne (hm_Sr hS31 f_27) hf_q10) (hk_Sr hS31 f_26)))
  refine cg_putr C (k := 11) (j := 1) (x := (some q2)) (ty := tyX11) (fty := tyX11 1) (hm_Sr hS35 (hm_Si hS34 (hm_Sr hS33 (hm_A hS32 (hm_Sr hS31 f_27))))) (hk_Sr hS35 (hk_Si hS34 f_28)) (by decide) rfl (by decide) rfl (by decide) rfl cWs_wsX110 tyX11_ok nmX11 cl_X11_19 rfl rfl rfl rfl rfl dX11_add_113 ?_
  refine cg_nm (fun S36 (hS36 : S36 = cSr S35 353 o1 (some q2)) => ?_)
  refine cg_aload_n C (i := 0) rfl 0 rfl dX11_add_116 ?_
  have f_29 : cr S11 354 o1 = (some o2) := (hr_Si hS11 (hr_SO hS10 (hr_Sr_q hS9 (by decide) (hr_A hS8 (hr_Si hS7 f_2)))))
  have f_30 : cr S12 354 o1 = (some o2) := (hr_N hS12 (cm_ne (hm_Si hS11 (hm_SO hS10 (hm_Sr hS9 (hm_A hS8 (hm_Si hS7 f_4))))) hf_q2) f_29)
  have f_31 : cr S16 354 o1 = (some o2) := (hr_N hS16 (cm_ne (hm_Si hS15 (hm_Si hS14 (hm_Si hS13 f_17))) hf_q3) (hr_Si hS15 (hr_Si hS14 (hr_Si hS13 f_30))))
  have f_32 : cr S21 354 o1 = (some o2) := (hr_Sr_q hS21 (by decide) (hr_A hS20 (hr_Si hS19 (hr_Sr_q hS18 (by decide) (hr_A hS17 f_31)))))
  have f_33 : cr S25 354 o1 = (some o2) := (hr_Sr_q hS25 (by decide) (hr_Si hS24 (hr_Sr_q hS23 (by decide) (hr_A hS22 f_32))))
  have f_34 : cr S28 354 o1 = (some o2) := (hr_Sr_q hS28 (by decide) (hr_A hS27 (hr_N hS26 (cm_ne (hm_Sr hS25 f_23) hf_q7) f_33)))
  have f_35 : cr S33 354 o1 = (some o2) := (hr_Sr_q hS33 (by decide) (hr_A hS32 (hr_Sr_q hS31 (by decide) (hr_A hS30 (hr_Si hS29 f_34)))))
  have f_36 : cr S36 354 o1 = (some o2) := (hr_Sr_q hS36 (by decide) (hr_Sr_q hS35 (by decide) (hr_Si hS34 f_35)))
  have f_37 : o1 ∈ cL S36 := (hm_Sr hS36 (hm_Sr hS35 (hm_Si hS34 (hm_Sr hS33 (hm_A hS32 (hm_Sr hS31 f_27))))))
  refine cg_get C (k := 11) (j := 2) (.ref o2) f_37 (hk_Sr hS36 (hk_Sr hS35 (hk_Si hS34 f_28))) (by decide) rfl (by decide) rfl (show cV _ 11 2 o1 = _ from congrArg va_rf f_36) cWs_wsX110 cl_X11_26 rfl dX11_add_117 ?_
  have f_38 : ci S12 386 o2 = (nI 1) := (hi_N hS12 (cm_ne (hm_Si hS11 (hm_SO hS10 (hm_Sr hS9 (hm_A hS8 (hm_Si hS7 f_9))))) hf_q2) (hi_Si_s hS11))
  have f_39 : ci S15 386 o2 = (nI 1) := (hi_Si_q hS15 (by decide) (hi_Si_q hS14 (by decide) (hi_Si_q hS13 (by decide) f_38)))
  have f_40 : o2 ∈ cL S12 := (hm_N hS12 (hm_Si hS11 (hm_SO hS10 (hm_Sr hS9 (hm_A hS8 (hm_Si hS7 f_9))))))
  have f_41 : ci S16 386 o2 = (nI 1) := (hi_N hS16 (cm_ne (hm_Si hS15 (hm_Si hS14 (hm_Si hS13 f_40))) hf_q3) f_39)
  have f_42 : ci S21 386 o2 = (nI 1) := (hi_Sr hS21 (hi_A hS20 (hi_Si_q hS19 (by decide) (hi_Sr hS18 (hi_A hS17 f_41)))))
  have f_43 : o2 ∈ cL S18 := (hm_Sr hS18 (hm_A hS17 (hm_N hS16 (hm_Si hS15 (hm_Si hS14 (hm_Si hS13 f_40))))))
  have f_44 : o2 ∈ cL S24 := (hm_Si hS24 (hm_Sr hS23 (hm_A hS22 (hm_Sr hS21 (hm_A hS20 (hm_Si hS19 f_43))))))
  have f_45 : ci S26 386 o2 = (nI 1) := (hi_N hS26 (cm_ne (hm_Sr hS25 f_44) hf_q7) (hi_Sr hS25 (hi_Si_q hS24 (by decide) (hi_Sr hS23 (hi_A hS22 f_42)))))
  have f_46 : ci S31 386 o2 = (nI 1) := (hi_Sr hS31 (hi_A hS30 (hi_Si_q hS29 (by decide) (hi_Sr hS28 (hi_A hS27 f_45)))))
  have f_47 : ci S36 386 o2 = (nI 1) := (hi_Sr hS36 (hi_Sr hS35 (hi_Si_q hS34 (by decide) (hi_Sr hS33 (hi_A hS32 f_46)))))
  have f_48 : cK S10 o2 = 12 := (hk_SO hS10 (hk_Sr hS9 (hk_A hS8 (cm_ne (hm_Si hS7 f_9) hf_q1) (hk_Si hS7 f_8))))
  have f_49 : cK S12 o2 = 12 := (hk_N hS12 (cm_ne (hm_Si hS11 (hm_SO hS10 (hm_Sr hS9 (hm_A hS8 (hm_Si hS7 f_9))))) hf_q2) (hk_Si hS11 f_48))
  have f_50 : cK S16 o2 = 12 := (hk_N hS16 (cm_ne (hm_Si hS15 (hm_Si hS14 (hm_Si hS13 f_40))) hf_q3) (hk_Si hS15 (hk_Si hS14 (hk_Si hS13 f_49))))
  have f_51 : cK S17 o2 = 12 := (hk_A hS17 (cm_ne (hm_N hS16 (hm_Si hS15 (hm_Si hS14 (hm_Si hS13 f_40)))) hf_q4) f_50)
  have f_52 : cK S20 o2 = 12 := (hk_A hS20 (cm_ne (hm_Si hS19 f_43) hf_q5) (hk_Si hS19 (hk_Sr hS18 f_51)))
  have f_53 : cK S22 o2 = 12 := (hk_A hS22 (cm_ne (hm_Sr hS21 (hm_A hS20 (hm_Si hS19 f_43))) hf_q6) (hk_Sr hS21 f_52))
  have f_54 : cK S26 o2 = 12 := (hk_N hS26 (cm_ne (hm_Sr hS25 f_44) hf_q7) (hk_Sr hS25 (hk_Si hS24 (hk_Sr hS23 f_53))))
  have f_55 : cK S28 o2 = 12 := (hk_Sr hS28 (hk_A hS27 (cm_ne (hm_N hS26 (hm_Sr hS25 f_44)) hf_q8) f_54))
  have f_56 : cK S30 o2 = 12 := (hk_A hS30 (cm_ne (hm_Si hS29 (hm_Sr hS28 (hm_A hS27 (hm_N hS26 (hm_Sr hS25 f_44))))) hf_q9) (hk_Si hS29 f_55))
  have f_57 : o2 ∈ cL S30 := (hm_A hS30 (hm_Si hS29 (hm_Sr hS28 (hm_A hS27 (hm_N hS26 (hm_Sr hS25 f_44))))))
  have f_58 : cK S33 o2 = 12 := (hk_Sr hS33 (hk_A hS32 (cm_ne (hm_Sr hS31 f_57) hf_q10) (hk_Sr hS31 f_56)))
  have f_59 : o2 ∈ cL S36 := (hm_Sr hS36 (hm_Sr hS35 (hm_Si hS34 (hm_Sr hS33 (hm_A hS32 (hm_Sr hS31 f_57))))))
  refine cg_calli C (z68_Jx4a65c_size_8abf5 l hlt S36 dp o2 f_47 (hk_Sr hS36 (hk_Sr hS35 (hk_Si hS34 f_58))) f_59) cc_X11_180 f_59 (hk_Sr hS36 (hk_Sr hS35 (hk_Si hS34 f_58))) (by decide) rfl rfl ⟨by decide, by decide⟩ ⟨by decide, by decide⟩ rfl (Nat.le_of_ble_eq_true rfl) dX11_add_120 (fun r_120 u_120 h_120 => ?_)
  obtain ⟨hr_120, hu_120⟩ := h_120
  have hw_120 := hu_120.symm
  subst hw_120
  have hx_120 := hr_120.symm
  subst hx_120
  exact cg_iret C ⟨S1, hS1, S2, hS2, S3, hS3, S4, hS4, S5, hS5, S6, hS6, S7, hS7, q1, S8, hf_q1, hS8, S9, hS9, S10, hS10, S11, hS11, q2, S12, hf_q2, hS12, S13, hS13, S14, hS14, S15, hS15, q3, S16, hf_q3, hS16, q4, S17, hf_q4, hS17, S18, hS18, S19, hS19, q5, S20, hf_q5, hS20, S21, hS21, q6, S22, hf_q6, hS22, S23, hS23, S24, hS24, S25, hS25, q7, S26, hf_q7, hS26, q8, S27, hf_q8, hS27, S28, hS28, S29, hS29, q9, S30, hf_q9, hS30, S31, hS31, q10, S32, hf_q10, hS32, S33, hS33, S34, hS34, S35, hS35, S36, hS36, rfl, rfl⟩ dX11_add_123 (by decide) (by decide)
set_option maxHeartbeats 4000000 in
set_option maxRecDepth 100000 in
theorem z70_L_add (l : Launch) (hlt : l.stackTraces = false) (S : cS) (dp : Nat) (o1 o2 o3 o4 o5 o6 o7 o8 o9 : Nat) (n1 : Nat) (h1 : n1 ≤ 99) (h2 : ci S 370 o1 = (bI false)) (h3 : cK S o1 = 11) (h4 : o1 ∈ cL S) (h5 : cr S 354 o1 = (some o3)) (h6 : ci S 386 o3 = (nI 0)) (h7 : cK S o3 = 12) (h8 : o3 ∈ cL S) (h9 : cr S 355 o1 = (some o4)) (h10 : cr S 321 o4 = (some o5)) (h11 : cK S o4 = 10) (h12 : o4 ∈ cL S) (h13 : ci S 386 o5 = (nI 0)) (h14 : cK S o5 = 12) (h15 : o5 ∈ cL S) (h16 : cr S 352 o1 = (some o6)) (h17 : cK S o6 = 3) (h18 : o6 ∈ cL S) (h19 : cr S 353 o1 = (some o7)) (h20 : cK S o7 = 0) (h21 : o7 ∈ cL S) (h22 : cr S 3 o7 = (some o8)) (h23 : ci S 289 o8 = (nI 0)) (h24 : cK S o8 = 9) (h25 : o8 ∈ cL S) (h26 : cr S 4 o7 = (some o9)) (h27 : ci S 289 o9 = (nI 0)) (h28 : cK S o9 = 9) (h29 : o9 ∈ cL S) (h30 : ci S 384 o3 = (nI 0)) (h31 : cr S 385 o3 = (some dp)) (h32 : cK S o2 = 15) (h33 : o2 ∈ cL S) (h34 : cn S o2 = 1) : cMetW (cQi (fun r_ u_ => ∃ (S1 : cS), S1 = cSi S 104 o6 (bI true) ∧ ∃ (S2 : cS), S2 = cSi S1 0 o7 (nI n1) ∧ ∃ (S3 : cS), S3 = cSi S2 98 o6 (nI 0) ∧ ∃ (S4 : cS), S4 = cSi S3 292 o8 (nI 0) ∧ ∃ (S5 : cS), S5 = cSi S4 98 o6 (nI 0) ∧ ∃ (S6 : cS), S6 = cSi S5 292 o9 (nI 0) ∧ ∃ (S7 : cS), S7 = cSi S6 384 o3 (nI 1) ∧ ∃ (q1 : Nat) (S8 : cS), q1 ∉ cL S7 ∧ S8 = cNewA S7 q1 17 10 ∧ ∃ (S9 : cS), S9 = cSr S8 385 o3 (some q1) ∧ ∃ (S10 : cS), S10 = cSO S9 q1 0 (some o7) ∧ ∃ (S11 : cS), S11 = cSi S10 386 o3 (nI 1) ∧ ∃ (q2 : Nat) (S12 : cS), q2 ∉ cL S11 ∧ S12 = cNew S11 q2 0 ∧ ∃ (S13 : cS), S13 = cSi S12 0 q2 ((-1)) ∧ ∃ (S14 : cS), S14 = cSi S13 1 q2 (nI 0) ∧ ∃ (S15 : cS), S15 = cSi S14 2 q2 (nI 0) ∧ ∃ (q3 : Nat) (S16 : cS), q3 ∉ cL S15 ∧ S16 = cNew S15 q3 9 ∧ ∃ (q4 : Nat) (S17 : cS), q4 ∉ cL S16 ∧ S17 = cNewA S16 q4 14 40 ∧ ∃ (S18 : cS), S18 = cSr S17 288 q3 (some q4) ∧ ∃ (S19 : cS), S19 = cSi S18 289 q3 (nI 0) ∧ ∃ (q5 : Nat) (S20 : cS), q5 ∉ cL S19 ∧ S20 = cNewA S19 q5 15 0 ∧ ∃ (S21 : cS), S21 = cSr S20 290 q3 (some q5) ∧ ∃ (q6 : Nat) (S22 : cS), q6 ∉ cL S21 ∧ S22 = cNewA S21 q6 14 0 ∧ ∃ (S23 : cS), S23 = cSr S22 291 q3 (some q6) ∧ ∃ (S24 : cS), S24 = cSi S23 292 q3 (nI 0) ∧ ∃ (S25 : cS), S25 = cSr S24 3 q2 (some q3) ∧ ∃ (q7 : Nat) (S26 : cS), q7 ∉ cL S25 ∧ S26 = cNew S25 q7 9 ∧ ∃ (q8 : Nat) (S27 : cS), q8 ∉ cL S26 ∧ S27 = cNewA S26 q8 14 40 ∧ ∃ (S28 : cS), S28 = cSr S27 288 q7 (some q8) ∧ ∃ (S29 : cS), S29 = cSi S28 289 q7 (nI 0) ∧ ∃ (q9 : Nat) (S30 : cS), q9 ∉ cL S29 ∧ S30 = cNewA S29 q9 15 0 ∧ ∃ (S31 : cS), S31 = cSr S30 290 q7 (some q9) ∧ ∃ (q10 : Nat) (S32 : cS), q10 ∉ cL S31 ∧ S32 = cNewA S31 q10 14 0 ∧ ∃ (S33 : cS), S33 = cSr S32 291 q7 (some q10) ∧ ∃ (S34 : cS), S34 = cSi S33 292 q7 (nI 0) ∧ ∃ (S35 : cS), S35 = cSr S34 4 q2 (some q7) ∧ ∃ (S36 : cS), S36 = cSr S35 353 o1 (some q2) ∧ ∃ (S37 : cS), S37 = cSJ S36 o2 0 (((nI 1)).toInt64) ∧ r_ = (nI 0) ∧ u_ = S37)) l yL_add cL_add 4 (some .int) [(0, 9, 12, 28), (0, 9, 15, 15)] 6 10 105 122 [.ref o1, .int (nI n1), .ref o2] S dp := by
  intro D Y tp sz
  refine cg_bodyW (by decide +kernel) (Nat.le_of_ble_eq_true rfl) ?_
  intro p e s m args below meth c C htab
  generalize va_A (cWd Y S) sz = A at C ⊢
  have C : cC p s m args meth c cL_add 4 (some .int) A D Y tp dp RL := C
  refine cg_lv (lv' := [(0, .ref o1), (1, .int (nI n1)), (2, .ref o2)]) rfl ?_
  refine cg_aload_n C (i := 2) rfl 2 rfl dL_add_0 ?_
  refine cg_iconst C (x := nI 0) rfl dL_add_1 ?_
  refine cg_aload_n C (i := 0) rfl 0 rfl dL_add_2 ?_
  refine cg_iload_n C (i := 1) rfl 1 rfl dL_add_3 ?_
  refine cg_calli C (z69_X11_add l hlt S dp o1 o3 o4 o5 o6 o7 o8 o9 n1 (by omega) h2 h3 h4 h5 h6 h7 h8 h9 h10 h11 h12 h13 h14 h15 h16 h17 h18 h19 h20 h21 h22 h23 h24 h25 h26 h27 h28 h29 h30 h31) cc_L_34 h4 h3 (by decide) rfl rfl ⟨by decide, by decide⟩ ⟨by decide, by decide⟩ rfl (Nat.le_of_ble_eq_true rfl) dL_add_4 (fun r_4 u_4 h_4 => ?_)
  obtain ⟨S1, hS1, S2, hS2, S3, hS3, S4, hS4, S5, hS5, S6, hS6, S7, hS7, q1, S8, hf_q1, hS8, S9, hS9, S10, hS10, S11, hS11, q2, S12, hf_q2, hS12, S13, hS13, S14, hS14, S15, hS15, q3, S16, hf_q3, hS16, q4, S17, hf_q4, hS17, S18, hS18, S19, hS19, q5, S20, hf_q5, hS20, S21, hS21, q6, S22, hf_q6, hS22, S23, hS23, S24, hS24, S25, hS25, q7, S26, hf_q7, hS26, q8, S27, hf_q8, hS27, S28, hS28, S29, hS29, q9, S30, hf_q9, hS30, S31, hS31, q10, S32, hf_q10, hS32, S33, hS33, S34, hS34, S35, hS35, S36, hS36, hr_4, hu_4⟩ := h_4
  have hw_4 := hu_4.symm
  subst hw_4
  have hx_4 := hr_4.symm
  subst hx_4
  refine cg_i2l C dL_add_7 ?_
  have f_1 : cK S6 o2 = 15 := (hk_Si hS6 (hk_Si hS5 (hk_Si hS4 (hk_Si hS3 (hk_Si hS2 (hk_Si hS1 h32))))))
  have f_2 : o2 ∈ cL S6 := (hm_Si hS6 (hm_Si hS5 (hm_Si hS4 (hm_Si hS3 (hm_Si hS2 (hm_Si hS1 h33))))))
  have f_3 : cK S10 o2 = 15 := (hk_SO hS10 (hk_Sr hS9 (hk_A hS8 (cm_ne (hm_Si hS7 f_2) hf_q1) (hk_Si hS7 f_1))))
  have f_4 : cK S12 o2 = 15 := (hk_N hS12 (cm_ne (hm_Si hS11 (hm_SO hS10 (hm_Sr hS9 (hm_A hS8 (hm_Si hS7 f_2))))) hf_q2) (hk_Si hS11 f_3))
  have f_5 : o2 ∈ cL S12 := (hm_N hS12 (hm_Si hS11 (hm_SO hS10 (hm_Sr hS9 (hm_A hS8 (hm_Si hS7 f_2))))))
  have f_6 : cK S16 o2 = 15 := (hk_N hS16 (cm_ne (hm_Si hS15 (hm_Si hS14 (hm_Si hS13 f_5))) hf_q3) (hk_Si hS15 (hk_Si hS14 (hk_Si hS13 f_4))))
  have f_7 : cK S17 o2 = 15 := (hk_A hS17 (cm_ne (hm_N hS16 (hm_Si hS15 (hm_Si hS14 (hm_Si hS13 f_5)))) hf_q4) f_6)
  have f_8 : o2 ∈ cL S18 := (hm_Sr hS18 (hm_A hS17 (hm_N hS16 (hm_Si hS15 (hm_Si hS14 (hm_Si hS13 f_5))))))
  have f_9 : cK S20 o2 = 15 := (hk_A hS20 (cm_ne (hm_Si hS19 f_8) hf_q5) (hk_Si hS19 (hk_Sr hS18 f_7)))
  have f_10 : cK S22 o2 = 15 := (hk_A hS22 (cm_ne (hm_Sr hS21 (hm_A hS20 (hm_Si hS19 f_8))) hf_q6) (hk_Sr hS21 f_9))
  have f_11 : o2 ∈ cL S24 := (hm_Si hS24 (hm_Sr hS23 (hm_A hS22 (hm_Sr hS21 (hm_A hS20 (hm_Si hS19 f_8))))))
  have f_12 : cK S26 o2 = 15 := (hk_N hS26 (cm_ne (hm_Sr hS25 f_11) hf_q7) (hk_Sr hS25 (hk_Si hS24 (hk_Sr hS23 f_10))))
  have f_13 : cK S28 o2 = 15 := (hk_Sr hS28 (hk_A hS27 (cm_ne (hm_N hS26 (hm_Sr hS25 f_11)) hf_q8) f_12))
  have f_14 : cK S30 o2 = 15 := (hk_A hS30 (cm_ne (hm_Si hS29 (hm_Sr hS28 (hm_A hS27 (hm_N hS26 (hm_Sr hS25 f_11))))) hf_q9) (hk_Si hS29 f_13))
  have f_15 : o2 ∈ cL S30 := (hm_A hS30 (hm_Si hS29 (hm_Sr hS28 (hm_A hS27 (hm_N hS26 (hm_Sr hS25 f_11))))))
  have f_16 : cK S33 o2 = 15 := (hk_Sr hS33 (hk_A hS32 (cm_ne (hm_Sr hS31 f_15) hf_q10) (hk_Sr hS31 f_14)))
  have f_17 : cn S6 o2 = 1 := (hn_Si hS6 (hn_Si hS5 (hn_Si hS4 (hn_Si hS3 (hn_Si hS2 (hn_Si hS1 h34))))))
  have f_18 : cn S10 o2 = 1 := (hn_SO hS10 (hn_Sr hS9 (hn_A hS8 (cm_ne (hm_Si hS7 f_2) hf_q1) (hn_Si hS7 f_17))))
  have f_19 : cn S16 o2 = 1 := (hn_N hS16 (hn_Si hS15 (hn_Si hS14 (hn_Si hS13 (hn_N hS12 (hn_Si hS11 f_18))))))
  have f_20 : cn S17 o2 = 1 := (hn_A hS17 (cm_ne (hm_N hS16 (hm_Si hS15 (hm_Si hS14 (hm_Si hS13 f_5)))) hf_q4) f_19)
  have f_21 : cn S20 o2 = 1 := (hn_A hS20 (cm_ne (hm_Si hS19 f_8) hf_q5) (hn_Si hS19 (hn_Sr hS18 f_20)))
  have f_22 : cn S22 o2 = 1 := (hn_A hS22 (cm_ne (hm_Sr hS21 (hm_A hS20 (hm_Si hS19 f_8))) hf_q6) (hn_Sr hS21 f_21))
  have f_23 : cn S27 o2 = 1 := (hn_A hS27 (cm_ne (hm_N hS26 (hm_Sr hS25 f_11)) hf_q8) (hn_N hS26 (hn_Sr hS25 (hn_Si hS24 (hn_Sr hS23 f_22)))))
  have f_24 : cn S30 o2 = 1 := (hn_A hS30 (cm_ne (hm_Si hS29 (hm_Sr hS28 (hm_A hS27 (hm_N hS26 (hm_Sr hS25 f_11))))) hf_q9) (hn_Si hS29 (hn_Sr hS28 f_23)))
  have f_25 : cn S33 o2 = 1 := (hn_Sr hS33 (hn_A hS32 (cm_ne (hm_Sr hS31 f_15) hf_q10) (hn_Sr hS31 f_24)))
  have f_26 : o2 ∈ cL S36 := (hm_Sr hS36 (hm_Sr hS35 (hm_Si hS34 (hm_Sr hS33 (hm_A hS32 (hm_Sr hS31 f_15))))))
  refine cg_lastore C 0 f_26 (hk_Sr hS36 (hk_Sr hS35 (hk_Si hS34 f_16))) (by rw [show cn _ _ = 1 from (hn_Sr hS36 (hn_Sr hS35 (hn_Si hS34 f_25)))]; omega) (by rw [show cn _ _ = 1 from (hn_Sr hS36 (hn_Sr hS35 (hn_Si hS34 f_25)))]; omega) dL_add_8 ?_
  refine cg_nm (fun S37 (hS37 : S37 = cSJ S36 o2 0 (((nI 1)).toInt64)) => ?_)
  refine cg_goto C 18 (by decide) dL_add_9 ?_
  refine cg_iconst C (x := nI 0) rfl dL_add_18 ?_
  exact cg_iret C ⟨S1, hS1, S2, hS2, S3, hS3, S4, hS4, S5, hS5, S6, hS6, S7, hS7, q1, S8, hf_q1, hS8, S9, hS9, S10, hS10, S11, hS11, q2, S12, hf_q2, hS12, S13, hS13, S14, hS14, S15, hS15, q3, S16, hf_q3, hS16, q4, S17, hf_q4, hS17, S18, hS18, S19, hS19, q5, S20, hf_q5, hS20, S21, hS21, q6, S22, hf_q6, hS22, S23, hS23, S24, hS24, S25, hS25, q7, S26, hf_q7, hS26, q8, S27, hf_q8, hS27, S28, hS28, S29, hS29, q9, S30, hf_q9, hS30, S31, hS31, q10, S32, hf_q10, hS32, S33, hS33, S34, hS34, S35, hS35, S36, hS36, S37, hS37, rfl, rfl⟩ dL_add_19 (by decide) (by decide)
set_option maxHeartbeats 4000000 in
set_option maxRecDepth 100000 in
theorem z71_X11_checkKey (l : Launch) (hlt : l.stackTraces = false) (S : cS) (dp : Nat) (n1 : Nat) (h1 : 100 ≤ n1) (h2 : n1 ≤ 2147483647) : cMetX "java/lang/IndexOutOfBoundsException" (fun u_ => u_ = S) l yX11_checkKey cX11_checkKey 1 none 6 1 6 82 [.int (nI n1)] S dp := by
  intro D Y tp sz
  refine cg_bodyX (by decide +kernel) (Nat.le_of_ble_eq_true rfl) ?_
  intro p e s m args below meth c C hne
  generalize va_A (cWd Y S) sz = A at C ⊢
  have C : cC p s m args meth c cX11_checkKey 1 none A D Y tp dp RX11 := C
  refine cg_lv (lv' := [(0, .int (nI n1))]) rfl ?_
  refine cg_iload_n C (i := 0) rfl 0 rfl dX11_checkKey_0 ?_
  refine cg_if_ltN C (by omega) 10 (by decide) dX11_checkKey_1 ?_
  refine cg_iload_n C (i := 0) rfl 0 rfl dX11_checkKey_4 ?_
  refine cg_bipush C (x := nI 100) rfl dX11_checkKey_5 ?_
  refine cg_icmp_ltN C (by omega) (by omega) 21 (by decide) dX11_checkKey_7 (fun c_ => absurd c_ (by omega)) (fun c_7 => ?_)
  exact cg_throw3W C hlt hne "there is no such key" ce_X11_269 cei_3 (by decide) dX11_checkKey_10 dX11_checkKey_13 dX11_checkKey_14 dX11_checkKey_17 dX11_checkKey_20 (by decide) (by decide) ⟨by decide, by decide⟩ ⟨by decide, by decide⟩ rfl
set_option maxHeartbeats 4000000 in
set_option maxRecDepth 100000 in
theorem z72_X11_add (l : Launch) (hlt : l.stackTraces = false) (S : cS) (dp : Nat) (o1 : Nat) (n1 : Nat) (h1 : 100 ≤ n1) (h2 : n1 ≤ 2147483647) : cMetX "java/lang/IndexOutOfBoundsException" (fun u_ => u_ = S) l yX11_add cX11_add 2 (some .int) 7 1 6 102 [.ref o1, .int (nI n1)] S dp := by
  intro D Y tp sz
  refine cg_bodyX (by decide +kernel) (Nat.le_of_ble_eq_true rfl) ?_
  intro p e s m args below meth c C hne
  generalize va_A (cWd Y S) sz = A at C ⊢
  have C : cC p s m args meth c cX11_add 2 (some .int) A D Y tp dp RX11 := C
  refine cg_lv (lv' := [(0, .ref o1), (1, .int (nI n1))]) rfl ?_
  refine cg_iload_n C (i := 1) rfl 1 rfl dX11_add_0 ?_
  exact cg_callsx C hne (z71_X11_checkKey l hlt S dp n1 (by omega) (by omega)) cc_X11_174 rfl ⟨by decide, by decide⟩ ⟨by decide, by decide⟩ rfl (Nat.le_of_ble_eq_true rfl) dX11_add_1 ⟨by decide, by decide⟩ (fun u_ h_ => by
      have hu_ := h_
      exact hu_)
set_option maxHeartbeats 4000000 in
set_option maxRecDepth 100000 in
theorem z73_L_add (l : Launch) (hlt : l.stackTraces = false) (S : cS) (dp : Nat) (o1 o2 : Nat) (n1 : Nat) (h1 : 100 ≤ n1) (h2 : n1 ≤ 2147483647) (h3 : o1 ∈ cL S) (h4 : cK S o1 = 11) : cMetW (cQi (fun r_ u_ => r_ = (nI 1) ∧ u_ = S)) l yL_add cL_add 4 (some .int) [(0, 9, 12, 28), (0, 9, 15, 15)] 8 1 6 123 [.ref o1, .int (nI n1), .ref o2] S dp := by
  intro D Y tp sz
  refine cg_bodyW (by decide +kernel) (Nat.le_of_ble_eq_true rfl) ?_
  intro p e s m args below meth c C htab
  generalize va_A (cWd Y S) sz = A at C ⊢
  have C : cC p s m args meth c cL_add 4 (some .int) A D Y tp dp RL := C
  refine cg_lv (lv' := [(0, .ref o1), (1, .int (nI n1)), (2, .ref o2)]) rfl ?_
  refine cg_aload_n C (i := 2) rfl 2 rfl dL_add_0 ?_
  refine cg_iconst C (x := nI 0) rfl dL_add_1 ?_
  refine cg_aload_n C (i := 0) rfl 0 rfl dL_add_2 ?_
  refine cg_iload_n C (i := 1) rfl 1 rfl dL_add_3 ?_
  refine cg_callx_catch C htab (z72_X11_add l hlt S dp o1 n1 (by omega) (by omega)) cc_L_34 h3 h4 (by decide) rfl rfl ⟨by decide, by decide⟩ ⟨by decide, by decide⟩ rfl (Nat.le_of_ble_eq_true rfl) dL_add_4 (tableOf []) ⟨0, 9, 12, 28⟩ (tableOf [(0, 9, 15, 15)]) rfl (fun z hz => nomatch hz) (by decide) (by decide) (name := "java/lang/IndexOutOfBoundsException") ce_L_28 (by decide) 12 rfl (fun x_4 u_4 h_4 => ?_)
  have hu_4 := h_4
  have hw_4 := hu_4.symm
  subst hw_4
  refine cg_astore_n (lv' := [(3, .ref x_4), (0, .ref o1), (1, .int (nI n1)), (2, .ref o2)]) C (i := 3) rfl (Nat.le_of_ble_eq_true rfl) rfl dL_add_12 ?_
  refine cg_iconst C (x := nI 1) rfl dL_add_13 ?_
  exact cg_iret C ⟨rfl, rfl⟩ dL_add_14 (by decide) (by decide)
set_option maxHeartbeats 4000000 in
set_option maxRecDepth 100000 in
theorem z74_X11_delete (l : Launch) (hlt : l.stackTraces = false) (S : cS) (dp : Nat) (o1 : Nat) (x1 : Int32) (h1 : x1 < 0) : cMetX "java/lang/IndexOutOfBoundsException" (fun u_ => u_ = S) l yX11_delete cX11_delete 2 (some .boolean) 7 1 6 102 [.ref o1, .int x1] S dp := by
  intro D Y tp sz
  refine cg_bodyX (by decide +kernel) (Nat.le_of_ble_eq_true rfl) ?_
  intro p e s m args below meth c C hne
  generalize va_A (cWd Y S) sz = A at C ⊢
  have C : cC p s m args meth c cX11_delete 2 (some .boolean) A D Y tp dp RX11 := C
  refine cg_lv (lv' := [(0, .ref o1), (1, .int x1)]) rfl ?_
  refine cg_iload_n C (i := 1) rfl 1 rfl dX11_delete_0 ?_
  exact cg_callsx C hne (z53_X11_checkKey l hlt S dp x1 h1) cc_X11_174 rfl ⟨by decide, by decide⟩ ⟨by decide, by decide⟩ rfl (Nat.le_of_ble_eq_true rfl) dX11_delete_1 ⟨by decide, by decide⟩ (fun u_ h_ => by
      have hu_ := h_
      exact hu_)
set_option maxHeartbeats 4000000 in
set_option maxRecDepth 100000 in
theorem z75_L_delete (l : Launch) (hlt : l.stackTraces = false) (S : cS) (dp : Nat) (o1 o2 : Nat) (x1 : Int32) (h1 : x1 < 0) (h2 : o1 ∈ cL S) (h3 : cK S o1 = 11) : cMetW (cQi (fun r_ u_ => r_ = (nI 1) ∧ u_ = S)) l yL_delete cL_delete 4 (some .int) [(0, 16, 19, 28), (0, 16, 22, 15)] 8 1 6 123 [.ref o1, .int x1, .ref o2] S dp := by
  intro D Y tp sz
  refine cg_bodyW (by decide +kernel) (Nat.le_of_ble_eq_true rfl) ?_
  intro p e s m args below meth c C htab
  generalize va_A (cWd Y S) sz = A at C ⊢
  have C : cC p s m args meth c cL_delete 4 (some .int) A D Y tp dp RL := C
  refine cg_lv (lv' := [(0, .ref o1), (1, .int x1), (2, .ref o2)]) rfl ?_
  refine cg_aload_n C (i := 2) rfl 2 rfl dL_delete_0 ?_
  refine cg_iconst C (x := nI 0) rfl dL_delete_1 ?_
  refine cg_aload_n C (i := 0) rfl 0 rfl dL_delete_2 ?_
  refine cg_iload_n C (i := 1) rfl 1 rfl dL_delete_3 ?_
  refine cg_callx_catch C htab (z74_X11_delete l hlt S dp o1 x1 h1) cc_L_37 h2 h3 (by decide) rfl rfl ⟨by decide, by decide⟩ ⟨by decide, by decide⟩ rfl (Nat.le_of_ble_eq_true rfl) dL_delete_4 (tableOf []) ⟨0, 16, 19, 28⟩ (tableOf [(0, 16, 22, 15)]) rfl (fun z hz => nomatch hz) (by decide) (by decide) (name := "java/lang/IndexOutOfBoundsException") ce_L_28 (by decide) 19 rfl (fun x_4 u_4 h_4 => ?_)
  have hu_4 := h_4
  have hw_4 := hu_4.symm
  subst hw_4
  refine cg_astore_n (lv' := [(3, .ref x_4), (0, .ref o1), (1, .int x1), (2, .ref o2)]) C (i := 3) rfl (Nat.le_of_ble_eq_true rfl) rfl dL_delete_19 ?_
  refine cg_iconst C (x := nI 1) rfl dL_delete_20 ?_
  exact cg_iret C ⟨rfl, rfl⟩ dL_delete_21 (by decide) (by decide)
set_option maxHeartbeats 4000000 in
set_option maxRecDepth 100000 in
theorem z76_X11_delete (l : Launch) (hlt : l.stackTraces = false) (S : cS) (dp : Nat) (o1 o2 o3 o4 : Nat) (n1 : Nat) (h1 : n1 ≤ 99) (h2 : ci S 370 o1 = (bI false)) (h3 : cK S o1 = 11) (h4 : o1 ∈ cL S) (h5 : cr S 354 o1 = (some o2)) (h6 : ci S 386 o2 = (nI 0)) (h7 : cK S o2 = 12) (h8 : o2 ∈ cL S) (h9 : cr S 355 o1 = (some o3)) (h10 : cr S 321 o3 = (some o4)) (h11 : cK S o3 = 10) (h12 : o3 ∈ cL S) (h13 : ci S 386 o4 = (nI 0)) (h14 : cK S o4 = 12) (h15 : o4 ∈ cL S) : cMet (cQi (fun r_ u_ => r_ = (bI false) ∧ u_ = S)) l yX11_delete cX11_delete 2 (some .boolean) 3 0 0 64 [.ref o1, .int (nI n1)] S dp := by
  intro D Y tp sz
  refine cg_body (by decide +kernel) (Nat.le_of_ble_eq_true rfl) ?_
  intro p e s m args below meth c C
  generalize va_A (cWd Y S) sz = A at C ⊢
  have C : cC p s m args meth c cX11_delete 2 (some .boolean) A D Y tp dp RX11 := C
  refine cg_lv (lv' := [(0, .ref o1), (1, .int (nI n1))]) rfl ?_
  refine cg_iload_n C (i := 1) rfl 1 rfl dX11_delete_0 ?_
  refine cg_callsv C (z56_X11_checkKey l hlt S dp n1 (by omega)) cc_X11_174 rfl ⟨by decide, by decide⟩ ⟨by decide, by decide⟩ rfl (Nat.le_of_ble_eq_true rfl) dX11_delete_1 (fun u_1 h_1 => ?_)
  have hu_1 := h_1
  have hw_1 := hu_1.symm
  subst hw_1
  refine cg_aload_n C (i := 0) rfl 0 rfl dX11_delete_4 ?_
  refine cg_callv C (z57_X11_checkUp l hlt S dp o1 h2 h3 h4) cc_X11_177 h4 h3 (by decide) rfl rfl ⟨by decide, by decide⟩ ⟨by decide, by decide⟩ rfl (Nat.le_of_ble_eq_true rfl) dX11_delete_5 (fun u_5 h_5 => ?_)
  have hu_5 := h_5
  have hw_5 := hu_5.symm
  subst hw_5
  refine cg_aload_n C (i := 0) rfl 0 rfl dX11_delete_8 ?_
  refine cg_iload_n C (i := 1) rfl 1 rfl dX11_delete_9 ?_
  refine cg_calli C (z61_X11_dropKey l hlt S dp o1 o2 o3 o4 n1 (by omega) h5 h3 h4 h6 h7 h8 h9 h10 h11 h12 h13 h14 h15) cc_X11_189 h4 h3 (by decide) rfl rfl ⟨by decide, by decide⟩ ⟨by decide, by decide⟩ rfl (Nat.le_of_ble_eq_true rfl) dX11_delete_10 (fun r_10 u_10 h_10 => ?_)
  obtain ⟨hr_10, hu_10⟩ := h_10
  have hw_10 := hu_10.symm
  subst hw_10
  have hx_10 := hr_10.symm
  subst hx_10
  exact cg_zret C (bI_nar _) ⟨rfl, rfl⟩ dX11_delete_13 (by decide) (by decide)
set_option maxHeartbeats 4000000 in
set_option maxRecDepth 100000 in
theorem z77_L_delete (l : Launch) (hlt : l.stackTraces = false) (S : cS) (dp : Nat) (o1 o2 o3 o4 o5 : Nat) (n1 : Nat) (h1 : n1 ≤ 99) (h2 : ci S 370 o1 = (bI false)) (h3 : cK S o1 = 11) (h4 : o1 ∈ cL S) (h5 : cr S 354 o1 = (some o3)) (h6 : ci S 386 o3 = (nI 0)) (h7 : cK S o3 = 12) (h8 : o3 ∈ cL S) (h9 : cr S 355 o1 = (some o4)) (h10 : cr S 321 o4 = (some o5)) (h11 : cK S o4 = 10) (h12 : o4 ∈ cL S) (h13 : ci S 386 o5 = (nI 0)) (h14 : cK S o5 = 12) (h15 : o5 ∈ cL S) (h16 : cK S o2 = 15) (h17 : cn S o2 = 1) (h18 : o2 ∈ cL S) : cMetW (cQi (fun r_ u_ => ∃ (S1 : cS), S1 = cSJ S o2 0 0 ∧ r_ = (nI 0) ∧ u_ = S1)) l yL_delete cL_delete 4 (some .int) [(0, 16, 19, 28), (0, 16, 22, 15)] 4 0 0 85 [.ref o1, .int (nI n1), .ref o2] S dp := by
  intro D Y tp sz
  refine cg_bodyW (by decide +kernel) (Nat.le_of_ble_eq_true rfl) ?_
  intro p e s m args below meth c C htab
  generalize va_A (cWd Y S) sz = A at C ⊢
  have C : cC p s m args meth c cL_delete 4 (some .int) A D Y tp dp RL := C
  refine cg_lv (lv' := [(0, .ref o1), (1, .int (nI n1)), (2, .ref o2)]) rfl ?_
  refine cg_aload_n C (i := 2) rfl 2 rfl dL_delete_0 ?_
  refine cg_iconst C (x := nI 0) rfl dL_delete_1 ?_
  refine cg_aload_n C (i := 0) rfl 0 rfl dL_delete_2 ?_
  refine cg_iload_n C (i := 1) rfl 1 rfl dL_delete_3 ?_
  refine cg_calli C (z76_X11_delete l hlt S dp o1 o3 o4 o5 n1 (by omega) h2 h3 h4 h5 h6 h7 h8 h9 h10 h11 h12 h13 h14 h15) cc_L_37 h4 h3 (by decide) rfl rfl ⟨by decide, by decide⟩ ⟨by decide, by decide⟩ rfl (Nat.le_of_ble_eq_true rfl) dL_delete_4 (fun r_4 u_4 h_4 => ?_)
  obtain ⟨hr_4, hu_4⟩ := h_4
  have hw_4 := hu_4.symm
  subst hw_4
  have hx_4 := hr_4.symm
  subst hx_4
  refine cg_if_eqB C 14 (by decide) dL_delete_7 (fun c_7 => ?_) (fun c_ => absurd c_ (by decide))
  refine cg_lconst C (x := 0) rfl dL_delete_14 ?_
  refine cg_lastore C 0 h18 h16 (by rw [show cn _ _ = 1 from h17]; omega) (by rw [show cn _ _ = 1 from h17]; omega) dL_delete_15 ?_
  refine cg_nm (fun S1 (hS1 : S1 = cSJ S o2 0 0) => ?_)
  refine cg_goto C 25 (by decide) dL_delete_16 ?_
  refine cg_iconst C (x := nI 0) rfl dL_delete_25 ?_
  exact cg_iret C ⟨S1, hS1, rfl, rfl⟩ dL_delete_26 (by decide) (by decide)
set_option maxHeartbeats 4000000 in
set_option maxRecDepth 100000 in
theorem z78_X11_delete (l : Launch) (hlt : l.stackTraces = false) (S : cS) (dp : Nat) (o1 : Nat) (n1 : Nat) (h1 : 100 ≤ n1) (h2 : n1 ≤ 2147483647) : cMetX "java/lang/IndexOutOfBoundsException" (fun u_ => u_ = S) l yX11_delete cX11_delete 2 (some .boolean) 7 1 6 102 [.ref o1, .int (nI n1)] S dp := by
  intro D Y tp sz
  refine cg_bodyX (by decide +kernel) (Nat.le_of_ble_eq_true rfl) ?_
  intro p e s m args below meth c C hne
  generalize va_A (cWd Y S) sz = A at C ⊢
  have C : cC p s m args meth c cX11_delete 2 (some .boolean) A D Y tp dp RX11 := C
  refine cg_lv (lv' := [(0, .ref o1), (1, .int (nI n1))]) rfl ?_
  refine cg_iload_n C (i := 1) rfl 1 rfl dX11_delete_0 ?_
  exact cg_callsx C hne (z71_X11_checkKey l hlt S dp n1 (by omega) (by omega)) cc_X11_174 rfl ⟨by decide, by decide⟩ ⟨by decide, by decide⟩ rfl (Nat.le_of_ble_eq_true rfl) dX11_delete_1 ⟨by decide, by decide⟩ (fun u_ h_ => by
      have hu_ := h_
      exact hu_)
set_option maxHeartbeats 4000000 in
set_option maxRecDepth 100000 in
theorem z79_L_delete (l : Launch) (hlt : l.stackTraces = false) (S : cS) (dp : Nat) (o1 o2 : Nat) (n1 : Nat) (h1 : 100 ≤ n1) (h2 : n1 ≤ 2147483647) (h3 : o1 ∈ cL S) (h4 : cK S o1 = 11) : cMetW (cQi (fun r_ u_ => r_ = (nI 1) ∧ u_ = S)) l yL_delete cL_delete 4 (some .int) [(0, 16, 19, 28), (0, 16, 22, 15)] 8 1 6 123 [.ref o1, .int (nI n1), .ref o2] S dp := by
  intro D Y tp sz
  refine cg_bodyW (by decide +kernel) (Nat.le_of_ble_eq_true rfl) ?_
  intro p e s m args below meth c C htab
  generalize va_A (cWd Y S) sz = A at C ⊢
  have C : cC p s m args meth c cL_delete 4 (some .int) A D Y tp dp RL := C
  refine cg_lv (lv' := [(0, .ref o1), (1, .int (nI n1)), (2, .ref o2)]) rfl ?_
  refine cg_aload_n C (i := 2) rfl 2 rfl dL_delete_0 ?_
  refine cg_iconst C (x := nI 0) rfl dL_delete_1 ?_
  refine cg_aload_n C (i := 0) rfl 0 rfl dL_delete_2 ?_
  refine cg_iload_n C (i := 1) rfl 1 rfl dL_delete_3 ?_
  refine cg_callx_catch C htab (z78_X11_delete l hlt S dp o1 n1 (by omega) (by omega)) cc_L_37 h3 h4 (by decide) rfl rfl ⟨by decide, by decide⟩ ⟨by decide, by decide⟩ rfl (Nat.le_of_ble_eq_true rfl) dL_delete_4 (tableOf []) ⟨0, 16, 19, 28⟩ (tableOf [(0, 16, 22, 15)]) rfl (fun z hz => nomatch hz) (by decide) (by decide) (name := "java/lang/IndexOutOfBoundsException") ce_L_28 (by decide) 19 rfl (fun x_4 u_4 h_4 => ?_)
  have hu_4 := h_4
  have hw_4 := hu_4.symm
  subst hw_4
  refine cg_astore_n (lv' := [(3, .ref x_4), (0, .ref o1), (1, .int (nI n1)), (2, .ref o2)]) C (i := 3) rfl (Nat.le_of_ble_eq_true rfl) rfl dL_delete_19 ?_
  refine cg_iconst C (x := nI 1) rfl dL_delete_20 ?_
  exact cg_iret C ⟨rfl, rfl⟩ dL_delete_21 (by decide) (by decide)
set_option maxHeartbeats 4000000 in
set_option maxRecDepth 100000 in
theorem z80_Jx4a65c_isEmpty_aae02 (l : Launch) (hlt : l.stackTraces = false) (S : cS) (dp : Nat) (o1 : Nat) (h1 : ci S 386 o1 = (nI 0)) (h2 : cK S o1 = 12) (h3 : o1 ∈ cL S) : cMet (cQi (fun r_ u_ => r_ = (bI true) ∧ u_ = S)) l yJx4a65c_isEmpty_aae02 cJx4a65c_isEmpty_aae02 1 (some .boolean) 0 0 0 0 [.ref o1] S dp := by
  intro D Y tp sz
  refine cg_body (by decide +kernel) (Nat.le_of_ble_eq_true rfl) ?_
  intro p e s m args below meth c C
  generalize va_A (cWd Y S) sz = A at C ⊢
  have C : cC p s m args meth c cJx4a65c_isEmpty_aae02 1 (some .boolean) A D Y tp dp RJx4a65c := C
  refine cg_lv (lv' := [(0, .ref o1)]) rfl ?_
  refine cg_aload_n C (i := 0) rfl 0 rfl dJx4a65c_isEmpty_aae02_0 ?_
  refine cg_get C (k := 12) (j := 2) (.int (nI 0)) h3 h2 (by decide) rfl (by decide) rfl (show cV _ 12 2 o1 = _ from congrArg Value.int h1) cWs_wsJx4a65c0 cl_Jx4a65c_48 rfl dJx4a65c_isEmpty_aae02_1 ?_
  refine cg_if_neN C (by omega) 11 (by decide) dJx4a65c_isEmpty_aae02_4 (fun c_ => absurd c_ (by omega)) (fun c_4 => ?_)
  refine cg_iconst C (x := nI 1) rfl dJx4a65c_isEmpty_aae02_7 ?_
  refine cg_goto C 12 (by decide) dJx4a65c_isEmpty_aae02_8 ?_
  refine cg_cast (.int (bI true)) rfl ?_
  exact cg_zret C (bI_nar _) ⟨rfl, rfl⟩ dJx4a65c_isEmpty_aae02_12 (by decide) (by decide)
set_option maxHeartbeats 4000000 in
set_option maxRecDepth 100000 in
theorem z81_X11_flush (l : Launch) (hlt : l.stackTraces = false) (S : cS) (dp : Nat) (o1 o2 : Nat) (h1 : ci S 370 o1 = (bI false)) (h2 : cK S o1 = 11) (h3 : o1 ∈ cL S) (h4 : ci S 366 o1 = (nI 0)) (h5 : cr S 354 o1 = (some o2)) (h6 : ci S 386 o2 = (nI 0)) (h7 : cK S o2 = 12) (h8 : o2 ∈ cL S) : cMet (cQi (fun r_ u_ => r_ = ((-1)) ∧ u_ = S)) l yX11_flush cX11_flush 1 (some .int) 1 0 0 20 [.ref o1] S dp := by
  intro D Y tp sz
  refine cg_body (by decide +kernel) (Nat.le_of_ble_eq_true rfl) ?_
  intro p e s m args below meth c C
  generalize va_A (cWd Y S) sz = A at C ⊢
  have C : cC p s m args meth c cX11_flush 1 (some .int) A D Y tp dp RX11 := C
  refine cg_lv (lv' := [(0, .ref o1)]) rfl ?_
  refine cg_aload_n C (i := 0) rfl 0 rfl dX11_flush_0 ?_
  refine cg_callv C (z57_X11_checkUp l hlt S dp o1 h1 h2 h3) cc_X11_177 h3 h2 (by decide) rfl rfl ⟨by decide, by decide⟩ ⟨by decide, by decide⟩ rfl (Nat.le_of_ble_eq_true rfl) dX11_flush_1 (fun u_1 h_1 => ?_)
  have hu_1 := h_1
  have hw_1 := hu_1.symm
  subst hw_1
  refine cg_aload_n C (i := 0) rfl 0 rfl dX11_flush_4 ?_
  refine cg_get C (k := 11) (j := 14) (.int (nI 0)) h3 h2 (by decide) rfl (by decide) rfl (show cV _ 11 14 o1 = _ from congrArg Value.int h4) cWs_wsX110 cl_X11_84 rfl dX11_flush_5 ?_
  refine cg_sipush C (x := nI 200) rfl dX11_flush_8 ?_
  refine cg_icmp_ltN C (by omega) (by omega) 24 (by decide) dX11_flush_11 (fun c_11 => ?_) (fun c_ => absurd c_ (by omega))
  refine cg_aload_n C (i := 0) rfl 0 rfl dX11_flush_24 ?_
  refine cg_get C (k := 11) (j := 2) (.ref o2) h3 h2 (by decide) rfl (by decide) rfl (show cV _ 11 2 o1 = _ from congrArg va_rf h5) cWs_wsX110 cl_X11_26 rfl dX11_flush_25 ?_
  refine cg_calli C (z80_Jx4a65c_isEmpty_aae02 l hlt S dp o2 h6 h7 h8) cc_X11_206 h8 h7 (by decide) rfl rfl ⟨by decide, by decide⟩ ⟨by decide, by decide⟩ rfl (Nat.le_of_ble_eq_true rfl) dX11_flush_28 (fun r_28 u_28 h_28 => ?_)
  obtain ⟨hr_28, hu_28⟩ := h_28
  have hw_28 := hu_28.symm
  subst hw_28
  have hx_28 := hr_28.symm
  subst hx_28
  refine cg_if_eqB C 36 (by decide) dX11_flush_31 (fun c_ => absurd c_ (by decide)) (fun c_31 => ?_)
  refine cg_iconst C (x := (-1)) rfl dX11_flush_34 ?_
  exact cg_iret C ⟨rfl, rfl⟩ dX11_flush_35 (by decide) (by decide)
set_option maxHeartbeats 4000000 in
set_option maxRecDepth 100000 in
theorem z82_L_flush (l : Launch) (hlt : l.stackTraces = false) (S : cS) (dp : Nat) (o1 o2 o3 : Nat) (h1 : ci S 370 o1 = (bI false)) (h2 : cK S o1 = 11) (h3 : o1 ∈ cL S) (h4 : ci S 366 o1 = (nI 0)) (h5 : cr S 354 o1 = (some o3)) (h6 : ci S 386 o3 = (nI 0)) (h7 : cK S o3 = 12) (h8 : o3 ∈ cL S) (h9 : cK S o2 = 15) (h10 : cn S o2 = 1) (h11 : o2 ∈ cL S) : cMetW (cQi (fun r_ u_ => ∃ (S1 : cS), S1 = cSJ S o2 0 (((-1)).toInt64) ∧ r_ = (nI 0) ∧ u_ = S1)) l yL_flush cL_flush 3 (some .int) [(0, 8, 11, 15)] 2 0 0 40 [.ref o1, .ref o2] S dp := by
  intro D Y tp sz
  refine cg_bodyW (by decide +kernel) (Nat.le_of_ble_eq_true rfl) ?_
  intro p e s m args below meth c C htab
  generalize va_A (cWd Y S) sz = A at C ⊢
  have C : cC p s m args meth c cL_flush 3 (some .int) A D Y tp dp RL := C
  refine cg_lv (lv' := [(0, .ref o1), (1, .ref o2)]) rfl ?_
  refine cg_aload_n C (i := 1) rfl 1 rfl dL_flush_0 ?_
  refine cg_iconst C (x := nI 0) rfl dL_flush_1 ?_
  refine cg_aload_n C (i := 0) rfl 0 rfl dL_flush_2 ?_
  refine cg_calli C (z81_X11_flush l hlt S dp o1 o3 h1 h2 h3 h4 h5 h6 h7 h8) cc_L_41 h3 h2 (by decide) rfl rfl ⟨by decide, by decide⟩ ⟨by decide, by decide⟩ rfl (Nat.le_of_ble_eq_true rfl) dL_flush_3 (fun r_3 u_3 h_3 => ?_)
  obtain ⟨hr_3, hu_3⟩ := h_3
  have hw_3 := hu_3.symm
  subst hw_3
  have hx_3 := hr_3.symm
  subst hx_3
  refine cg_i2l C dL_flush_6 ?_
  refine cg_lastore C 0 h11 h9 (by rw [show cn _ _ = 1 from h10]; omega) (by rw [show cn _ _ = 1 from h10]; omega) dL_flush_7 ?_
  refine cg_nm (fun S1 (hS1 : S1 = cSJ S o2 0 (((-1)).toInt64)) => ?_)
  refine cg_goto C 14 (by decide) dL_flush_8 ?_
  refine cg_iconst C (x := nI 0) rfl dL_flush_14 ?_
  exact cg_iret C ⟨S1, hS1, rfl, rfl⟩ dL_flush_15 (by decide) (by decide)
set_option maxHeartbeats 4000000 in
set_option maxRecDepth 100000 in
theorem z83_X10_duePlace (l : Launch) (hlt : l.stackTraces = false) (S : cS) (dp : Nat) (o1 o2 : Nat) (h1 : cr S 321 o1 = (some o2)) (h2 : cK S o1 = 10) (h3 : o1 ∈ cL S) (h4 : ci S 386 o2 = (nI 0)) (h5 : cK S o2 = 12) (h6 : o2 ∈ cL S) : cMet (cQi (fun r_ u_ => r_ = ((-1)) ∧ u_ = S)) l yX10_duePlace cX10_duePlace 3 (some .int) 1 0 0 20 [.ref o1] S dp := by
  intro D Y tp sz
  refine cg_body (by decide +kernel) (Nat.le_of_ble_eq_true rfl) ?_
  intro p e s m args below meth c C
  generalize va_A (cWd Y S) sz = A at C ⊢
  have C : cC p s m args meth c cX10_duePlace 3 (some .int) A D Y tp dp RX10 := C
  refine cg_lv (lv' := [(0, .ref o1)]) rfl ?_
  refine cg_iconst C (x := nI 0) rfl dX10_duePlace_0 ?_
  refine cg_istore_n C (i := 1) (lv' := [(1, .int (nI 0)), (0, .ref o1)]) rfl (Nat.le_of_ble_eq_true rfl) rfl dX10_duePlace_1 ?_
  refine cg_iload_n C (i := 1) rfl 0 rfl dX10_duePlace_2 ?_
  refine cg_iconst C (x := nI 3) rfl dX10_duePlace_3 ?_
  refine cg_iadd C dX10_duePlace_4 ?_
  refine cg_cast (.int (nI 3)) (congrArg Value.int (by decide)) ?_
  refine cg_aload_n C (i := 0) rfl 1 rfl dX10_duePlace_5 ?_
  refine cg_get C (k := 10) (j := 1) (.ref o2) h3 h2 (by decide) rfl (by decide) rfl (show cV _ 10 1 o1 = _ from congrArg va_rf h1) cWs_wsX100 cl_X10_12 rfl dX10_duePlace_6 ?_
  refine cg_calli C (z58_Jx4a65c_size_8abf5 l hlt S dp o2 h4 h5 h6) cc_X10_22 h6 h5 (by decide) rfl rfl ⟨by decide, by decide⟩ ⟨by decide, by decide⟩ rfl (Nat.le_of_ble_eq_true rfl) dX10_duePlace_9 (fun r_9 u_9 h_9 => ?_)
  obtain ⟨hr_9, hu_9⟩ := h_9
  have hw_9 := hu_9.symm
  subst hw_9
  have hx_9 := hr_9.symm
  subst hx_9
  refine cg_icmp_gtN C (by omega) (by omega) 87 (by decide) dX10_duePlace_12 (fun c_12 => ?_) (fun c_ => absurd c_ (by omega))
  refine cg_iconst C (x := (-1)) rfl dX10_duePlace_87 ?_
  exact cg_iret C ⟨rfl, rfl⟩ dX10_duePlace_88 (by decide) (by decide)
set_option maxHeartbeats 4000000 in
set_option maxRecDepth 100000 in
theorem z84_X11_due (l : Launch) (hlt : l.stackTraces = false) (S : cS) (dp : Nat) (o1 o2 o3 : Nat) (h1 : ci S 370 o1 = (bI false)) (h2 : cK S o1 = 11) (h3 : o1 ∈ cL S) (h4 : cr S 355 o1 = (some o2)) (h5 : cr S 321 o2 = (some o3)) (h6 : cK S o2 = 10) (h7 : o2 ∈ cL S) (h8 : ci S 386 o3 = (nI 0)) (h9 : cK S o3 = 12) (h10 : o3 ∈ cL S) : cMet (cQi (fun r_ u_ => r_ = ((-1)) ∧ u_ = S)) l yX11_due cX11_due 1 (some .int) 2 0 0 42 [.ref o1] S dp := by
  intro D Y tp sz
  refine cg_body (by decide +kernel) (Nat.le_of_ble_eq_true rfl) ?_
  intro p e s m args below meth c C
  generalize va_A (cWd Y S) sz = A at C ⊢
  have C : cC p s m args meth c cX11_due 1 (some .int) A D Y tp dp RX11 := C
  refine cg_lv (lv' := [(0, .ref o1)]) rfl ?_
  refine cg_aload_n C (i := 0) rfl 0 rfl dX11_due_0 ?_
  refine cg_callv C (z57_X11_checkUp l hlt S dp o1 h1 h2 h3) cc_X11_177 h3 h2 (by decide) rfl rfl ⟨by decide, by decide⟩ ⟨by decide, by decide⟩ rfl (Nat.le_of_ble_eq_true rfl) dX11_due_1 (fun u_1 h_1 => ?_)
  have hu_1 := h_1
  have hw_1 := hu_1.symm
  subst hw_1
  refine cg_aload_n C (i := 0) rfl 0 rfl dX11_due_4 ?_
  refine cg_get C (k := 11) (j := 3) (.ref o2) h3 h2 (by decide) rfl (by decide) rfl (show cV _ 11 3 o1 = _ from congrArg va_rf h4) cWs_wsX110 cl_X11_35 rfl dX11_due_5 ?_
  refine cg_calli C (z83_X10_duePlace l hlt S dp o2 o3 h5 h6 h7 h8 h9 h10) cc_X11_213 h7 h6 (by decide) rfl rfl ⟨by decide, by decide⟩ ⟨by decide, by decide⟩ rfl (Nat.le_of_ble_eq_true rfl) dX11_due_8 (fun r_8 u_8 h_8 => ?_)
  obtain ⟨hr_8, hu_8⟩ := h_8
  have hw_8 := hu_8.symm
  subst hw_8
  have hx_8 := hr_8.symm
  subst hx_8
  exact cg_iret C ⟨rfl, rfl⟩ dX11_due_11 (by decide) (by decide)
set_option maxHeartbeats 4000000 in
set_option maxRecDepth 100000 in
theorem z85_L_due (l : Launch) (hlt : l.stackTraces = false) (S : cS) (dp : Nat) (o1 o2 o3 o4 : Nat) (h1 : ci S 370 o1 = (bI false)) (h2 : cK S o1 = 11) (h3 : o1 ∈ cL S) (h4 : cr S 355 o1 = (some o3)) (h5 : cr S 321 o3 = (some o4)) (h6 : cK S o3 = 10) (h7 : o3 ∈ cL S) (h8 : ci S 386 o4 = (nI 0)) (h9 : cK S o4 = 12) (h10 : o4 ∈ cL S) (h11 : cK S o2 = 15) (h12 : cn S o2 = 1) (h13 : o2 ∈ cL S) : cMetW (cQi (fun r_ u_ => ∃ (S1 : cS), S1 = cSJ S o2 0 (((-1)).toInt64) ∧ r_ = (nI 0) ∧ u_ = S1)) l yL_due cL_due 3 (some .int) [(0, 8, 11, 15)] 3 0 0 62 [.ref o1, .ref o2] S dp := by
  intro D Y tp sz
  refine cg_bodyW (by decide +kernel) (Nat.le_of_ble_eq_true rfl) ?_
  intro p e s m args below meth c C htab
  generalize va_A (cWd Y S) sz = A at C ⊢
  have C : cC p s m args meth c cL_due 3 (some .int) A D Y tp dp RL := C
  refine cg_lv (lv' := [(0, .ref o1), (1, .ref o2)]) rfl ?_
  refine cg_aload_n C (i := 1) rfl 1 rfl dL_due_0 ?_
  refine cg_iconst C (x := nI 0) rfl dL_due_1 ?_
  refine cg_aload_n C (i := 0) rfl 0 rfl dL_due_2 ?_
  refine cg_calli C (z84_X11_due l hlt S dp o1 o3 o4 h1 h2 h3 h4 h5 h6 h7 h8 h9 h10) cc_L_44 h3 h2 (by decide) rfl rfl ⟨by decide, by decide⟩ ⟨by decide, by decide⟩ rfl (Nat.le_of_ble_eq_true rfl) dL_due_3 (fun r_3 u_3 h_3 => ?_)
  obtain ⟨hr_3, hu_3⟩ := h_3
  have hw_3 := hu_3.symm
  subst hw_3
  have hx_3 := hr_3.symm
  subst hx_3
  refine cg_i2l C dL_due_6 ?_
  refine cg_lastore C 0 h13 h11 (by rw [show cn _ _ = 1 from h12]; omega) (by rw [show cn _ _ = 1 from h12]; omega) dL_due_7 ?_
  refine cg_nm (fun S1 (hS1 : S1 = cSJ S o2 0 (((-1)).toInt64)) => ?_)
  refine cg_goto C 14 (by decide) dL_due_8 ?_
  refine cg_iconst C (x := nI 0) rfl dL_due_14 ?_
  exact cg_iret C ⟨S1, hS1, rfl, rfl⟩ dL_due_15 (by decide) (by decide)
set_option maxHeartbeats 4000000 in
set_option maxRecDepth 100000 in
theorem z86_X11_merge (l : Launch) (hlt : l.stackTraces = false) (S : cS) (dp : Nat) (o1 o2 o3 : Nat) (h1 : ci S 370 o1 = (bI false)) (h2 : cK S o1 = 11) (h3 : o1 ∈ cL S) (h4 : cr S 355 o1 = (some o2)) (h5 : cr S 321 o2 = (some o3)) (h6 : cK S o2 = 10) (h7 : o2 ∈ cL S) (h8 : ci S 386 o3 = (nI 0)) (h9 : cK S o3 = 12) (h10 : o3 ∈ cL S) : cMetX "java/lang/IllegalStateException" (fun u_ => u_ = S) l yX11_merge cX11_merge 2 (some .int) 6 1 6 82 [.ref o1] S dp := by
  intro D Y tp sz
  refine cg_bodyX (by decide +kernel) (Nat.le_of_ble_eq_true rfl) ?_
  intro p e s m args below meth c C hne
  generalize va_A (cWd Y S) sz = A at C ⊢
  have C : cC p s m args meth c cX11_merge 2 (some .int) A D Y tp dp RX11 := C
  refine cg_lv (lv' := [(0, .ref o1)]) rfl ?_
  refine cg_aload_n C (i := 0) rfl 0 rfl dX11_merge_0 ?_
  refine cg_callv C (z57_X11_checkUp l hlt S dp o1 h1 h2 h3) cc_X11_177 h3 h2 (by decide) rfl rfl ⟨by decide, by decide⟩ ⟨by decide, by decide⟩ rfl (Nat.le_of_ble_eq_true rfl) dX11_merge_1 (fun u_1 h_1 => ?_)
  have hu_1 := h_1
  have hw_1 := hu_1.symm
  subst hw_1
  refine cg_aload_n C (i := 0) rfl 0 rfl dX11_merge_4 ?_
  refine cg_get C (k := 11) (j := 3) (.ref o2) h3 h2 (by decide) rfl (by decide) rfl (show cV _ 11 3 o1 = _ from congrArg va_rf h4) cWs_wsX110 cl_X11_35 rfl dX11_merge_5 ?_
  refine cg_calli C (z83_X10_duePlace l hlt S dp o2 o3 h5 h6 h7 h8 h9 h10) cc_X11_213 h7 h6 (by decide) rfl rfl ⟨by decide, by decide⟩ ⟨by decide, by decide⟩ rfl (Nat.le_of_ble_eq_true rfl) dX11_merge_8 (fun r_8 u_8 h_8 => ?_)
  obtain ⟨hr_8, hu_8⟩ := h_8
  have hw_8 := hu_8.symm
  subst hw_8
  have hx_8 := hr_8.symm
  subst hx_8
  refine cg_istore_n C (i := 1) (lv' := [(1, .int ((-1))), (0, .ref o1)]) rfl (Nat.le_of_ble_eq_true rfl) rfl dX11_merge_11 ?_
  refine cg_iload_n C (i := 1) rfl 0 rfl dX11_merge_12 ?_
  refine cg_iconst C (x := (-1)) rfl dX11_merge_13 ?_
  refine cg_icmp_eq C 34 (by decide) dX11_merge_14 (fun c_14 => ?_) (fun c_ => absurd c_ (by decide))
  exact cg_throw2 C hlt hne "no merge can be begun now" ce_X11_116 cei_2 (by decide) dX11_merge_34 dX11_merge_37 dX11_merge_38 dX11_merge_40 dX11_merge_43 (by decide) (by decide) ⟨by decide, by decide⟩ ⟨by decide, by decide⟩ rfl
set_option maxHeartbeats 4000000 in
set_option maxRecDepth 100000 in
theorem z87_L_merge (l : Launch) (hlt : l.stackTraces = false) (S : cS) (dp : Nat) (o1 o2 o3 o4 : Nat) (h1 : ci S 370 o1 = (bI false)) (h2 : cK S o1 = 11) (h3 : o1 ∈ cL S) (h4 : cr S 355 o1 = (some o3)) (h5 : cr S 321 o3 = (some o4)) (h6 : cK S o3 = 10) (h7 : o3 ∈ cL S) (h8 : ci S 386 o4 = (nI 0)) (h9 : cK S o4 = 12) (h10 : o4 ∈ cL S) : cMetW (cQi (fun r_ u_ => r_ = (nI 1) ∧ u_ = S)) l yL_merge cL_merge 3 (some .int) [(0, 8, 11, 15)] 7 1 6 103 [.ref o1, .ref o2] S dp := by
  intro D Y tp sz
  refine cg_bodyW (by decide +kernel) (Nat.le_of_ble_eq_true rfl) ?_
  intro p e s m args below meth c C htab
  generalize va_A (cWd Y S) sz = A at C ⊢
  have C : cC p s m args meth c cL_merge 3 (some .int) A D Y tp dp RL := C
  refine cg_lv (lv' := [(0, .ref o1), (1, .ref o2)]) rfl ?_
  refine cg_aload_n C (i := 1) rfl 1 rfl dL_merge_0 ?_
  refine cg_iconst C (x := nI 0) rfl dL_merge_1 ?_
  refine cg_aload_n C (i := 0) rfl 0 rfl dL_merge_2 ?_
  refine cg_callx_catch C htab (z86_X11_merge l hlt S dp o1 o3 o4 h1 h2 h3 h4 h5 h6 h7 h8 h9 h10) cc_L_47 h3 h2 (by decide) rfl rfl ⟨by decide, by decide⟩ ⟨by decide, by decide⟩ rfl (Nat.le_of_ble_eq_true rfl) dL_merge_3 (tableOf []) ⟨0, 8, 11, 15⟩ (tableOf []) rfl (fun z hz => nomatch hz) (by decide) (by decide) (name := "java/lang/IllegalStateException") ce_L_15 (by decide) 11 rfl (fun x_3 u_3 h_3 => ?_)
  have hu_3 := h_3
  have hw_3 := hu_3.symm
  subst hw_3
  refine cg_astore_n (lv' := [(2, .ref x_3), (0, .ref o1), (1, .ref o2)]) C (i := 2) rfl (Nat.le_of_ble_eq_true rfl) rfl dL_merge_11 ?_
  refine cg_iconst C (x := nI 1) rfl dL_merge_12 ?_
  exact cg_iret C ⟨rfl, rfl⟩ dL_merge_13 (by decide) (by decide)
set_option maxHeartbeats 4000000 in
set_option maxRecDepth 100000 in
theorem z88_X11_step (l : Launch) (hlt : l.stackTraces = false) (S : cS) (dp : Nat) (o1 : Nat) (h1 : ci S 370 o1 = (bI false)) (h2 : cK S o1 = 11) (h3 : o1 ∈ cL S) (h4 : cr S 356 o1 = none) : cMetX "java/lang/IllegalStateException" (fun u_ => u_ = S) l yX11_step cX11_step 3 (some .int) 6 1 6 82 [.ref o1] S dp := by
  intro D Y tp sz
  refine cg_bodyX (by decide +kernel) (Nat.le_of_ble_eq_true rfl) ?_
  intro p e s m args below meth c C hne
  generalize va_A (cWd Y S) sz = A at C ⊢
  have C : cC p s m args meth c cX11_step 3 (some .int) A D Y tp dp RX11 := C
  refine cg_lv (lv' := [(0, .ref o1)]) rfl ?_
  refine cg_aload_n C (i := 0) rfl 0 rfl dX11_step_0 ?_
  refine cg_callv C (z57_X11_checkUp l hlt S dp o1 h1 h2 h3) cc_X11_177 h3 h2 (by decide) rfl rfl ⟨by decide, by decide⟩ ⟨by decide, by decide⟩ rfl (Nat.le_of_ble_eq_true rfl) dX11_step_1 (fun u_1 h_1 => ?_)
  have hu_1 := h_1
  have hw_1 := hu_1.symm
  subst hw_1
  refine cg_aload_n C (i := 0) rfl 0 rfl dX11_step_4 ?_
  refine cg_get C (k := 11) (j := 4) (.null) h3 h2 (by decide) rfl (by decide) rfl (show cV _ 11 4 o1 = _ from congrArg va_rf h4) cWs_wsX110 cl_X11_39 rfl dX11_step_5 ?_
  refine cg_astoreN_n (lv' := [(1, .null), (0, .ref o1)]) C (i := 1) rfl (Nat.le_of_ble_eq_true rfl) rfl dX11_step_8 ?_
  refine cg_aloadN_n C (i := 1) rfl 0 rfl dX11_step_9 ?_
  refine cg_ifnonnullN C dX11_step_10 ?_
  exact cg_throw2 C hlt hne "no merge is under way" ce_X11_116 cei_2 (by decide) dX11_step_13 dX11_step_16 dX11_step_17 dX11_step_19 dX11_step_22 (by decide) (by decide) ⟨by decide, by decide⟩ ⟨by decide, by decide⟩ rfl
set_option maxHeartbeats 4000000 in
set_option maxRecDepth 100000 in
theorem z89_L_step (l : Launch) (hlt : l.stackTraces = false) (S : cS) (dp : Nat) (o1 o2 : Nat) (h1 : ci S 370 o1 = (bI false)) (h2 : cK S o1 = 11) (h3 : o1 ∈ cL S) (h4 : cr S 356 o1 = none) : cMetW (cQi (fun r_ u_ => r_ = (nI 1) ∧ u_ = S)) l yL_step cL_step 3 (some .int) [(0, 8, 11, 15)] 7 1 6 104 [.ref o1, .ref o2] S dp := by
  intro D Y tp sz
  refine cg_bodyW (by decide +kernel) (Nat.le_of_ble_eq_true rfl) ?_
  intro p e s m args below meth c C htab
  generalize va_A (cWd Y S) sz = A at C ⊢
  have C : cC p s m args meth c cL_step 3 (some .int) A D Y tp dp RL := C
  refine cg_lv (lv' := [(0, .ref o1), (1, .ref o2)]) rfl ?_
  refine cg_aload_n C (i := 1) rfl 1 rfl dL_step_0 ?_
  refine cg_iconst C (x := nI 0) rfl dL_step_1 ?_
  refine cg_aload_n C (i := 0) rfl 0 rfl dL_step_2 ?_
  refine cg_callx_catch C htab (z88_X11_step l hlt S dp o1 h1 h2 h3 h4) cc_L_50 h3 h2 (by decide) rfl rfl ⟨by decide, by decide⟩ ⟨by decide, by decide⟩ rfl (Nat.le_of_ble_eq_true rfl) dL_step_3 (tableOf []) ⟨0, 8, 11, 15⟩ (tableOf []) rfl (fun z hz => nomatch hz) (by decide) (by decide) (name := "java/lang/IllegalStateException") ce_L_15 (by decide) 11 rfl (fun x_3 u_3 h_3 => ?_)
  have hu_3 := h_3
  have hw_3 := hu_3.symm
  subst hw_3
  refine cg_astore_n (lv' := [(2, .ref x_3), (0, .ref o1), (1, .ref o2)]) C (i := 2) rfl (Nat.le_of_ble_eq_true rfl) rfl dL_step_11 ?_
  refine cg_iconst C (x := nI 1) rfl dL_step_12 ?_
  exact cg_iret C ⟨rfl, rfl⟩ dL_step_13 (by decide) (by decide)
set_option maxHeartbeats 4000000 in
set_option maxRecDepth 100000 in
theorem z90_X11_giveUp (l : Launch) (hlt : l.stackTraces = false) (S : cS) (dp : Nat) (o1 : Nat) (h1 : ci S 370 o1 = (bI false)) (h2 : cK S o1 = 11) (h3 : o1 ∈ cL S) (h4 : cr S 356 o1 = none) : cMetX "java/lang/IllegalStateException" (fun u_ => u_ = S) l yX11_giveUp cX11_giveUp 2 (some .int) 6 1 6 82 [.ref o1] S dp := by
  intro D Y tp sz
  refine cg_bodyX (by decide +kernel) (Nat.le_of_ble_eq_true rfl) ?_
  intro p e s m args below meth c C hne
  generalize va_A (cWd Y S) sz = A at C ⊢
  have C : cC p s m args meth c cX11_giveUp 2 (some .int) A D Y tp dp RX11 := C
  refine cg_lv (lv' := [(0, .ref o1)]) rfl ?_
  refine cg_aload_n C (i := 0) rfl 0 rfl dX11_giveUp_0 ?_
  refine cg_callv C (z57_X11_checkUp l hlt S dp o1 h1 h2 h3) cc_X11_177 h3 h2 (by decide) rfl rfl ⟨by decide, by decide⟩ ⟨by decide, by decide⟩ rfl (Nat.le_of_ble_eq_true rfl) dX11_giveUp_1 (fun u_1 h_1 => ?_)
  have hu_1 := h_1
  have hw_1 := hu_1.symm
  subst hw_1
  refine cg_aload_n C (i := 0) rfl 0 rfl dX11_giveUp_4 ?_
  refine cg_get C (k := 11) (j := 4) (.null) h3 h2 (by decide) rfl (by decide) rfl (show cV _ 11 4 o1 = _ from congrArg va_rf h4) cWs_wsX110 cl_X11_39 rfl dX11_giveUp_5 ?_
  refine cg_ifnonnullN C dX11_giveUp_8 ?_
  exact cg_throw2 C hlt hne "no merge is under way" ce_X11_116 cei_2 (by decide) dX11_giveUp_11 dX11_giveUp_14 dX11_giveUp_15 dX11_giveUp_17 dX11_giveUp_20 (by decide) (by decide) ⟨by decide, by decide⟩ ⟨by decide, by decide⟩ rfl
set_option maxHeartbeats 4000000 in
set_option maxRecDepth 100000 in
theorem z91_L_giveUp (l : Launch) (hlt : l.stackTraces = false) (S : cS) (dp : Nat) (o1 o2 : Nat) (h1 : ci S 370 o1 = (bI false)) (h2 : cK S o1 = 11) (h3 : o1 ∈ cL S) (h4 : cr S 356 o1 = none) : cMetW (cQi (fun r_ u_ => r_ = (nI 1) ∧ u_ = S)) l yL_giveUp cL_giveUp 3 (some .int) [(0, 8, 11, 15)] 7 1 6 103 [.ref o1, .ref o2] S dp := by
  intro D Y tp sz
  refine cg_bodyW (by decide +kernel) (Nat.le_of_ble_eq_true rfl) ?_
  intro p e s m args below meth c C htab
  generalize va_A (cWd Y S) sz = A at C ⊢
  have C : cC p s m args meth c cL_giveUp 3 (some .int) A D Y tp dp RL := C
  refine cg_lv (lv' := [(0, .ref o1), (1, .ref o2)]) rfl ?_
  refine cg_aload_n C (i := 1) rfl 1 rfl dL_giveUp_0 ?_
  refine cg_iconst C (x := nI 0) rfl dL_giveUp_1 ?_
  refine cg_aload_n C (i := 0) rfl 0 rfl dL_giveUp_2 ?_
  refine cg_callx_catch C htab (z90_X11_giveUp l hlt S dp o1 h1 h2 h3 h4) cc_L_53 h3 h2 (by decide) rfl rfl ⟨by decide, by decide⟩ ⟨by decide, by decide⟩ rfl (Nat.le_of_ble_eq_true rfl) dL_giveUp_3 (tableOf []) ⟨0, 8, 11, 15⟩ (tableOf []) rfl (fun z hz => nomatch hz) (by decide) (by decide) (name := "java/lang/IllegalStateException") ce_L_15 (by decide) 11 rfl (fun x_3 u_3 h_3 => ?_)
  have hu_3 := h_3
  have hw_3 := hu_3.symm
  subst hw_3
  refine cg_astore_n (lv' := [(2, .ref x_3), (0, .ref o1), (1, .ref o2)]) C (i := 2) rfl (Nat.le_of_ble_eq_true rfl) rfl dL_giveUp_11 ?_
  refine cg_iconst C (x := nI 1) rfl dL_giveUp_12 ?_
  exact cg_iret C ⟨rfl, rfl⟩ dL_giveUp_13 (by decide) (by decide)
set_option maxHeartbeats 4000000 in
set_option maxRecDepth 100000 in
theorem z92_X10_changedSince (l : Launch) (hlt : l.stackTraces = false) (S : cS) (dp : Nat) (o1 o2 : Nat) (h1 : cr S 321 o1 = (some o2)) (h2 : cK S o1 = 10) (h3 : o1 ∈ cL S) (h4 : ci S 386 o2 = (nI 0)) (h5 : cK S o2 = 12) (h6 : o2 ∈ cL S) : cMet (cQi (fun r_ u_ => r_ = (nI 0) ∧ u_ = S)) l yX10_changedSince cX10_changedSince 6 (some .int) 1 0 0 20 [.ref o1, .null] S dp := by
  intro D Y tp sz
  refine cg_body (by decide +kernel) (Nat.le_of_ble_eq_true rfl) ?_
  intro p e s m args below meth c C
  generalize va_A (cWd Y S) sz = A at C ⊢
  have C : cC p s m args meth c cX10_changedSince 6 (some .int) A D Y tp dp RX10 := C
  refine cg_lv (lv' := [(0, .ref o1), (1, .null)]) rfl ?_
  refine cg_iconst C (x := nI 0) rfl dX10_changedSince_0 ?_
  refine cg_istore_n C (i := 2) (lv' := [(2, .int (nI 0)), (0, .ref o1), (1, .null)]) rfl (Nat.le_of_ble_eq_true rfl) rfl dX10_changedSince_1 ?_
  refine cg_iconst C (x := nI 0) rfl dX10_changedSince_2 ?_
  refine cg_istore_n C (i := 3) (lv' := [(3, .int (nI 0)), (2, .int (nI 0)), (0, .ref o1), (1, .null)]) rfl (Nat.le_of_ble_eq_true rfl) rfl dX10_changedSince_3 ?_
  refine cg_iload_n C (i := 3) rfl 0 rfl dX10_changedSince_4 ?_
  refine cg_aload_n C (i := 0) rfl 2 rfl dX10_changedSince_5 ?_
  refine cg_get C (k := 10) (j := 1) (.ref o2) h3 h2 (by decide) rfl (by decide) rfl (show cV _ 10 1 o1 = _ from congrArg va_rf h1) cWs_wsX100 cl_X10_12 rfl dX10_changedSince_6 ?_
  refine cg_calli C (z58_Jx4a65c_size_8abf5 l hlt S dp o2 h4 h5 h6) cc_X10_22 h6 h5 (by decide) rfl rfl ⟨by decide, by decide⟩ ⟨by decide, by decide⟩ rfl (Nat.le_of_ble_eq_true rfl) dX10_changedSince_9 (fun r_9 u_9 h_9 => ?_)
  obtain ⟨hr_9, hu_9⟩ := h_9
  have hw_9 := hu_9.symm
  subst hw_9
  have hx_9 := hr_9.symm
  subst hx_9
  refine cg_icmp_geN C (by omega) (by omega) 82 (by decide) dX10_changedSince_12 (fun c_12 => ?_) (fun c_ => absurd c_ (by omega))
  refine cg_iload_n C (i := 2) rfl 1 rfl dX10_changedSince_82 ?_
  exact cg_iret C ⟨rfl, rfl⟩ dX10_changedSince_83 (by decide) (by decide)
set_option maxHeartbeats 4000000 in
set_option maxRecDepth 100000 in
theorem z93_X11_doWrite (l : Launch) (hlt : l.stackTraces = false) (S : cS) (dp : Nat) (o1 : Nat) (h1 : ci S 369 o1 = ((-1))) (h2 : cK S o1 = 11) (h3 : o1 ∈ cL S) (h4 : ci S 368 o1 = (nI 0)) : cMet (cQi (fun r_ u_ => ∃ (S1 : cS), S1 = cSi S 368 o1 (nI 1) ∧ r_ = (bI true) ∧ u_ = S1)) l yX11_doWrite cX11_doWrite 1 (some .boolean) 0 0 0 0 [.ref o1] S dp := by
  intro D Y tp sz
  refine cg_body (by decide +kernel) (Nat.le_of_ble_eq_true rfl) ?_
  intro p e s m args below meth c C
  generalize va_A (cWd Y S) sz = A at C ⊢
  have C : cC p s m args meth c cX11_doWrite 1 (some .boolean) A D Y tp dp RX11 := C
  refine cg_lv (lv' := [(0, .ref o1)]) rfl ?_
  refine cg_aload_n C (i := 0) rfl 0 rfl dX11_doWrite_0 ?_
  refine cg_get C (k := 11) (j := 17) (.int ((-1))) h3 h2 (by decide) rfl (by decide) rfl (show cV _ 11 17 o1 = _ from congrArg Value.int h1) cWs_wsX110 cl_X11_93 rfl dX11_doWrite_1 ?_
  refine cg_if_ne C 13 (by decide) dX11_doWrite_4 (fun c_4 => ?_) (fun c_ => absurd c_ (by decide))
  refine cg_aload_n C (i := 0) rfl 0 rfl dX11_doWrite_13 ?_
  refine cg_get C (k := 11) (j := 17) (.int ((-1))) h3 h2 (by decide) rfl (by decide) rfl (show cV _ 11 17 o1 = _ from congrArg Value.int h1) cWs_wsX110 cl_X11_93 rfl dX11_doWrite_14 ?_
  refine cg_if_le C 30 (by decide) dX11_doWrite_17 (fun c_17 => ?_) (fun c_ => absurd c_ (by decide))
  refine cg_aload_n C (i := 0) rfl 0 rfl dX11_doWrite_30 ?_
  refine cg_dup C rfl dX11_doWrite_31 ?_
  refine cg_get C (k := 11) (j := 16) (.int (nI 0)) h3 h2 (by decide) rfl (by decide) rfl (show cV _ 11 16 o1 = _ from congrArg Value.int h4) cWs_wsX110 cl_X11_90 rfl dX11_doWrite_32 ?_
  refine cg_iconst C (x := nI 1) rfl dX11_doWrite_35 ?_
  refine cg_iadd C dX11_doWrite_36 ?_
  refine cg_cast (.int (nI 1)) (congrArg Value.int (by decide)) ?_
  refine cg_puti C (k := 11) (j := 16) (ty := tyX11) (fty := .int) h3 h2 (by decide) rfl (by decide) rfl (by decide) rfl cWs_wsX110 tyX11_ok nmX11 cl_X11_90 rfl rfl rfl rfl rfl dX11_doWrite_37 ?_
  refine cg_nm (fun S1 (hS1 : S1 = cSi S 368 o1 (nI 1)) => ?_)
  refine cg_iconst C (x := nI 1) rfl dX11_doWrite_40 ?_
  refine cg_cast (.int (bI true)) rfl ?_
  exact cg_zret C (bI_nar _) ⟨S1, hS1, rfl, rfl⟩ dX11_doWrite_41 (by decide) (by decide)
set_option maxHeartbeats 4000000 in
set_option maxRecDepth 100000 in
theorem z94_X10_size (l : Launch) (hlt : l.stackTraces = false) (S : cS) (dp : Nat) (o1 o2 : Nat) (h1 : cr S 321 o1 = (some o2)) (h2 : cK S o1 = 10) (h3 : o1 ∈ cL S) (h4 : ci S 386 o2 = (nI 0)) (h5 : cK S o2 = 12) (h6 : o2 ∈ cL S) : cMet (cQi (fun r_ u_ => r_ = (nI 0) ∧ u_ = S)) l yX10_size cX10_size 1 (some .int) 1 0 0 20 [.ref o1] S dp := by
  intro D Y tp sz
  refine cg_body (by decide +kernel) (Nat.le_of_ble_eq_true rfl) ?_
  intro p e s m args below meth c C
  generalize va_A (cWd Y S) sz = A at C ⊢
  have C : cC p s m args meth c cX10_size 1 (some .int) A D Y tp dp RX10 := C
  refine cg_lv (lv' := [(0, .ref o1)]) rfl ?_
  refine cg_aload_n C (i := 0) rfl 0 rfl dX10_size_0 ?_
  refine cg_get C (k := 10) (j := 1) (.ref o2) h3 h2 (by decide) rfl (by decide) rfl (show cV _ 10 1 o1 = _ from congrArg va_rf h1) cWs_wsX100 cl_X10_12 rfl dX10_size_1 ?_
  refine cg_calli C (z58_Jx4a65c_size_8abf5 l hlt S dp o2 h4 h5 h6) cc_X10_22 h6 h5 (by decide) rfl rfl ⟨by decide, by decide⟩ ⟨by decide, by decide⟩ rfl (Nat.le_of_ble_eq_true rfl) dX10_size_4 (fun r_4 u_4 h_4 => ?_)
  obtain ⟨hr_4, hu_4⟩ := h_4
  have hw_4 := hu_4.symm
  subst hw_4
  have hx_4 := hr_4.symm
  subst hx_4
  exact cg_iret C ⟨rfl, rfl⟩ dX10_size_7 (by decide) (by decide)
set_option maxHeartbeats 4000000 in
set_option maxRecDepth 100000 in
theorem z95_X10_copyOf (l : Launch) (hlt : l.stackTraces = false) (S : cS) (dp : Nat) (o1 : Nat) : cMet (cQr (fun r_ u_ => ∃ (q1 : Nat) (S1 : cS), q1 ∉ cL S ∧ S1 = cNew S q1 10 ∧ ∃ (q2 : Nat) (S2 : cS), q2 ∉ cL S1 ∧ S2 = cNew S1 q2 12 ∧ ∃ (S3 : cS), S3 = cSi S2 384 q2 (nI 0) ∧ ∃ (S4 : cS), S4 = cSr S3 385 q2 (some dp) ∧ ∃ (S5 : cS), S5 = cSr S4 321 q1 (some q2) ∧ ∃ (S6 : cS), S6 = cSi S5 320 q1 ((-1)) ∧ r_ = q1 ∧ u_ = S6)) l yX10_copyOf cX10_copyOf 5 (some (.object "SearchMill$View")) 5 2 5 113 [.ref o1, .int (nI 0), .int (nI 0)] S dp := by
  intro D Y tp sz
  refine cg_body (by decide +kernel) (Nat.le_of_ble_eq_true rfl) ?_
  intro p e s m args below meth c C
  generalize va_A (cWd Y S) sz = A at C ⊢
  have C : cC p s m args meth c cX10_copyOf 5 (some (.object "SearchMill$View")) A D Y tp dp RX10 := C
  refine cg_lv (lv' := [(0, .ref o1), (1, .int (nI 0)), (2, .int (nI 0))]) rfl ?_
  refine cg_new C (k := 10) (N := 2) (fs := [.int 0, .null]) (by decide) rfl cWs_wsX100 tyX10_ok cn_X10_13 ci_X10 ct_X10 (fun j_ hj_ => by rcases (show j_ = 0 ∨ j_ = 1 by omega) with rfl | rfl <;> rfl) rfl (by decide) (by decide) dX10_copyOf_0 (fun q1 hf_q1 => ?_)
  refine cg_nm (fun S1 (hS1 : S1 = cNew S q1 10) => ?_)
  refine cg_dup C rfl dX10_copyOf_3 ?_
  refine cg_iconst C (x := (-1)) rfl dX10_copyOf_4 ?_
  refine cg_callI C (z7_X10_init l hlt S1 dp q1 (hk_No hS1) (hm_No hS1)) cz_X10_57 rfl ⟨by decide, by decide⟩ ⟨by decide, by decide⟩ rfl (Nat.le_of_ble_eq_true rfl) dX10_copyOf_5 (fun u_5 h_5 => ?_)
  obtain ⟨q2, S2, hf_q2, hS2, S3, hS3, S4, hS4, S5, hS5, S6, hS6, hu_5⟩ := h_5
  have hw_5 := hu_5.symm
  subst hw_5
  refine cg_astore_n (lv' := [(3, .ref q1), (0, .ref o1), (1, .int (nI 0)), (2, .int (nI 0))]) C (i := 3) rfl (Nat.le_of_ble_eq_true rfl) rfl dX10_copyOf_8 ?_
  refine cg_iload_n C (i := 1) rfl 2 rfl dX10_copyOf_9 ?_
  refine cg_iconst C (x := nI 0) rfl dX10_copyOf_10 ?_
  refine cg_mmax C cmmax_X10_60 cmmax_s cmm_i cmmax_c (by decide) (Nat.le_of_ble_eq_true rfl) (by decide) (by decide) dX10_copyOf_11 ?_
  refine cg_cast (.int (nI 0)) (congrArg Value.int (by decide)) ?_
  refine cg_istore C (lv' := [(4, .int (nI 0)), (3, .ref q1), (0, .ref o1), (1, .int (nI 0)), (2, .int (nI 0))]) (Nat.le_of_ble_eq_true rfl) rfl dX10_copyOf_14 ?_
  refine cg_iload C 0 rfl dX10_copyOf_16 ?_
  refine cg_iload_n C (i := 1) rfl 3 rfl dX10_copyOf_18 ?_
  refine cg_iload_n C (i := 2) rfl 4 rfl dX10_copyOf_19 ?_
  refine cg_iadd C dX10_copyOf_20 ?_
  refine cg_cast (.int (nI 0)) (congrArg Value.int (by decide)) ?_
  refine cg_icmp_geN C (by omega) (by omega) 65 (by decide) dX10_copyOf_21 (fun c_21 => ?_) (fun c_ => absurd c_ (by omega))
  refine cg_aload_n C (i := 3) rfl 1 rfl dX10_copyOf_65 ?_
  exact cg_aret C rfl (by first | exact Or.inl ⟨_, rfl⟩ | exact Or.inr ⟨_, rfl⟩) ⟨q1, S1, hf_q1, hS1, q2, S2, hf_q2, hS2, S3, hS3, S4, hS4, S5, hS5, S6, hS6, rfl, rfl⟩ dX10_copyOf_66 (by decide) (by decide)
set_option maxHeartbeats 4000000 in
set_option maxRecDepth 100000 in
theorem z96_X11_prepare (l : Launch) (hlt : l.stackTraces = false) (S : cS) (dp : Nat) (o1 o2 o3 o4 : Nat) (h1 : ci S 370 o1 = (bI false)) (h2 : cK S o1 = 11) (h3 : o1 ∈ cL S) (h4 : cr S 359 o1 = none) (h5 : ci S 366 o1 = (nI 0)) (h6 : cr S 354 o1 = (some o2)) (h7 : ci S 386 o2 = (nI 0)) (h8 : cK S o2 = 12) (h9 : o2 ∈ cL S) (h10 : cr S 355 o1 = (some o3)) (h11 : cr S 358 o1 = none) (h12 : cr S 321 o3 = (some o4)) (h13 : cK S o3 = 10) (h14 : o3 ∈ cL S) (h15 : ci S 386 o4 = (nI 0)) (h16 : cK S o4 = 12) (h17 : o4 ∈ cL S) (h18 : ci S 369 o1 = ((-1))) (h19 : ci S 368 o1 = (nI 0)) : cMet (cQi (fun r_ u_ => ∃ (S1 : cS), S1 = cSi S 368 o1 (nI 1) ∧ ∃ (q1 : Nat) (S2 : cS), q1 ∉ cL S1 ∧ S2 = cNew S1 q1 10 ∧ ∃ (q2 : Nat) (S3 : cS), q2 ∉ cL S2 ∧ S3 = cNew S2 q2 12 ∧ ∃ (S4 : cS), S4 = cSi S3 384 q2 (nI 0) ∧ ∃ (S5 : cS), S5 = cSr S4 385 q2 (some dp) ∧ ∃ (S6 : cS), S6 = cSr S5 321 q1 (some q2) ∧ ∃ (S7 : cS), S7 = cSi S6 320 q1 ((-1)) ∧ ∃ (S8 : cS), S8 = cSr S7 359 o1 (some q1) ∧ r_ = (nI 0) ∧ u_ = S8)) l yX11_prepare cX11_prepare 3 (some .int) 6 2 5 137 [.ref o1] S dp := by
  intro D Y tp sz
  refine cg_body (by decide +kernel) (Nat.le_of_ble_eq_true rfl) ?_
  intro p e s m args below meth c C
  generalize va_A (cWd Y S) sz = A at C ⊢
  have C : cC p s m args meth c cX11_prepare 3 (some .int) A D Y tp dp RX11 := C
  refine cg_lv (lv' := [(0, .ref o1)]) rfl ?_
  refine cg_aload_n C (i := 0) rfl 0 rfl dX11_prepare_0 ?_
  refine cg_callv C (z57_X11_checkUp l hlt S dp o1 h1 h2 h3) cc_X11_177 h3 h2 (by decide) rfl rfl ⟨by decide, by decide⟩ ⟨by decide, by decide⟩ rfl (Nat.le_of_ble_eq_true rfl) dX11_prepare_1 (fun u_1 h_1 => ?_)
  have hu_1 := h_1
  have hw_1 := hu_1.symm
  subst hw_1
  refine cg_aload_n C (i := 0) rfl 0 rfl dX11_prepare_4 ?_
  refine cg_get C (k := 11) (j := 7) (.null) h3 h2 (by decide) rfl (by decide) rfl (show cV _ 11 7 o1 = _ from congrArg va_rf h4) cWs_wsX110 cl_X11_49 rfl dX11_prepare_5 ?_
  refine cg_ifnonnullN C dX11_prepare_8 ?_
  refine cg_aload_n C (i := 0) rfl 0 rfl dX11_prepare_11 ?_
  refine cg_get C (k := 11) (j := 14) (.int (nI 0)) h3 h2 (by decide) rfl (by decide) rfl (show cV _ 11 14 o1 = _ from congrArg Value.int h5) cWs_wsX110 cl_X11_84 rfl dX11_prepare_12 ?_
  refine cg_sipush C (x := nI 200) rfl dX11_prepare_15 ?_
  refine cg_icmp_ltN C (by omega) (by omega) 41 (by decide) dX11_prepare_18 (fun c_18 => ?_) (fun c_ => absurd c_ (by omega))
  refine cg_aload_n C (i := 0) rfl 0 rfl dX11_prepare_41 ?_
  refine cg_get C (k := 11) (j := 2) (.ref o2) h3 h2 (by decide) rfl (by decide) rfl (show cV _ 11 2 o1 = _ from congrArg va_rf h6) cWs_wsX110 cl_X11_26 rfl dX11_prepare_42 ?_
  refine cg_calli C (z80_Jx4a65c_isEmpty_aae02 l hlt S dp o2 h7 h8 h9) cc_X11_206 h9 h8 (by decide) rfl rfl ⟨by decide, by decide⟩ ⟨by decide, by decide⟩ rfl (Nat.le_of_ble_eq_true rfl) dX11_prepare_45 (fun r_45 u_45 h_45 => ?_)
  obtain ⟨hr_45, hu_45⟩ := h_45
  have hw_45 := hu_45.symm
  subst hw_45
  have hx_45 := hr_45.symm
  subst hx_45
  refine cg_if_neB C 63 (by decide) dX11_prepare_48 (fun c_48 => ?_) (fun c_ => absurd c_ (by decide))
  refine cg_aload_n C (i := 0) rfl 0 rfl dX11_prepare_63 ?_
  refine cg_get C (k := 11) (j := 3) (.ref o3) h3 h2 (by decide) rfl (by decide) rfl (show cV _ 11 3 o1 = _ from congrArg va_rf h10) cWs_wsX110 cl_X11_35 rfl dX11_prepare_64 ?_
  refine cg_aload_n C (i := 0) rfl 0 rfl dX11_prepare_67 ?_
  refine cg_get C (k := 11) (j := 6) (.null) h3 h2 (by decide) rfl (by decide) rfl (show cV _ 11 6 o1 = _ from congrArg va_rf h11) cWs_wsX110 cl_X11_46 rfl dX11_prepare_68 ?_
  refine cg_calli C (z92_X10_changedSince l hlt S dp o3 o4 h12 h13 h14 h15 h16 h17) cc_X11_236 h14 h13 (by decide) rfl rfl ⟨by decide, by decide⟩ ⟨by decide, by decide⟩ rfl (Nat.le_of_ble_eq_true rfl) dX11_prepare_71 (fun r_71 u_71 h_71 => ?_)
  obtain ⟨hr_71, hu_71⟩ := h_71
  have hw_71 := hu_71.symm
  subst hw_71
  have hx_71 := hr_71.symm
  subst hx_71
  refine cg_istore_n C (i := 1) (lv' := [(1, .int (nI 0)), (0, .ref o1)]) rfl (Nat.le_of_ble_eq_true rfl) rfl dX11_prepare_74 ?_
  refine cg_iconst C (x := nI 0) rfl dX11_prepare_75 ?_
  refine cg_istore_n C (i := 2) (lv' := [(2, .int (nI 0)), (1, .int (nI 0)), (0, .ref o1)]) rfl (Nat.le_of_ble_eq_true rfl) rfl dX11_prepare_76 ?_
  refine cg_iload_n C (i := 2) rfl 0 rfl dX11_prepare_77 ?_
  refine cg_iload_n C (i := 1) rfl 1 rfl dX11_prepare_78 ?_
  refine cg_icmp_gtN C (by omega) (by omega) 98 (by decide) dX11_prepare_79 (fun c_ => absurd c_ (by omega)) (fun c_79 => ?_)
  refine cg_aload_n C (i := 0) rfl 2 rfl dX11_prepare_82 ?_
  refine cg_calli C (z93_X11_doWrite l hlt S dp o1 h18 h2 h3 h19) cc_X11_227 h3 h2 (by decide) rfl rfl ⟨by decide, by decide⟩ ⟨by decide, by decide⟩ rfl (Nat.le_of_ble_eq_true rfl) dX11_prepare_83 (fun r_83 u_83 h_83 => ?_)
  obtain ⟨S1, hS1, hr_83, hu_83⟩ := h_83
  have hw_83 := hu_83.symm
  subst hw_83
  have hx_83 := hr_83.symm
  subst hx_83
  refine cg_if_neB C 92 (by decide) dX11_prepare_86 (fun c_86 => ?_) (fun c_ => absurd c_ (by decide))
  refine cg_iincN C (lv' := [(2, .int (nI 1)), (1, .int (nI 0)), (0, .ref o1)]) 1 0 rfl rfl (Nat.le_of_ble_eq_true rfl) rfl dX11_prepare_92 ?_
  refine cg_goto C 77 (by decide) dX11_prepare_95 ?_
  refine cg_iload_n C (i := 2) rfl 0 rfl dX11_prepare_77 ?_
  refine cg_iload_n C (i := 1) rfl 1 rfl dX11_prepare_78 ?_
  refine cg_icmp_gtN C (by omega) (by omega) 98 (by decide) dX11_prepare_79 (fun c_79 => ?_) (fun c_ => absurd c_ (by omega))
  refine cg_aload_n C (i := 0) rfl 2 rfl dX11_prepare_98 ?_
  refine cg_aload_n C (i := 0) rfl 2 rfl dX11_prepare_99 ?_
  refine cg_get C (k := 11) (j := 3) (.ref o3) (hm_Si hS1 h3) (hk_Si hS1 h2) (by decide) rfl (by decide) rfl (show cV _ 11 3 o1 = _ from congrArg va_rf (hr_Si hS1 h10)) cWs_wsX110 cl_X11_35 rfl dX11_prepare_100 ?_
  refine cg_iconst C (x := nI 0) rfl dX11_prepare_103 ?_
  refine cg_aload_n C (i := 0) rfl 2 rfl dX11_prepare_104 ?_
  refine cg_get C (k := 11) (j := 3) (.ref o3) (hm_Si hS1 h3) (hk_Si hS1 h2) (by decide) rfl (by decide) rfl (show cV _ 11 3 o1 = _ from congrArg va_rf (hr_Si hS1 h10)) cWs_wsX110 cl_X11_35 rfl dX11_prepare_105 ?_
  refine cg_calli C (z94_X10_size l hlt S1 dp o3 o4 (hr_Si hS1 h12) (hk_Si hS1 h13) (hm_Si hS1 h14) (hi_Si_q hS1 (by decide) h15) (hk_Si hS1 h16) (hm_Si hS1 h17)) cc_X11_240 (hm_Si hS1 h14) (hk_Si hS1 h13) (by decide) rfl rfl ⟨by decide, by decide⟩ ⟨by decide, by decide⟩ rfl (Nat.le_of_ble_eq_true rfl) dX11_prepare_108 (fun r_108 u_108 h_108 => ?_)
  obtain ⟨hr_108, hu_108⟩ := h_108
  have hw_108 := hu_108.symm
  subst hw_108
  have hx_108 := hr_108.symm
  subst hx_108
  refine cg_callr C (z95_X10_copyOf l hlt S1 dp o3) cc_X11_218 (hm_Si hS1 h14) (hk_Si hS1 h13) (by decide) rfl rfl ⟨by decide, by decide⟩ ⟨by decide, by decide⟩ rfl (Nat.le_of_ble_eq_true rfl) dX11_prepare_111 (fun r_111 u_111 h_111 => ?_)
  obtain ⟨q1, S2, hf_q1, hS2, q2, S3, hf_q2, hS3, S4, hS4, S5, hS5, S6, hS6, S7, hS7, hr_111, hu_111⟩ := h_111
  have hw_111 := hu_111.symm
  subst hw_111
  have hx_111 := hr_111.symm
  subst hx_111
  have f_1 : cK S3 o1 = 11 := (hk_N hS3 (cm_ne (hm_N hS2 (hm_Si hS1 h3)) hf_q2) (hk_N hS2 (cm_ne (hm_Si hS1 h3) hf_q1) (hk_Si hS1 h2)))
  have f_2 : o1 ∈ cL S6 := (hm_Sr hS6 (hm_Sr hS5 (hm_Si hS4 (hm_N hS3 (hm_N hS2 (hm_Si hS1 h3))))))
  refine cg_putr C (k := 11) (j := 7) (x := (some q1)) (ty := tyX11) (fty := tyX11 7) (hm_Si hS7 f_2) (hk_Si hS7 (hk_Sr hS6 (hk_Sr hS5 (hk_Si hS4 f_1)))) (by decide) rfl (by decide) rfl (by decide) rfl cWs_wsX110 tyX11_ok nmX11 cl_X11_49 rfl rfl rfl rfl rfl dX11_prepare_114 ?_
  refine cg_nm (fun S8 (hS8 : S8 = cSr S7 359 o1 (some q1)) => ?_)
  refine cg_aload_n C (i := 0) rfl 2 rfl dX11_prepare_117 ?_
  refine cg_get C (k := 11) (j := 7) (.ref q1) (hm_Sr hS8 (hm_Si hS7 f_2)) (hk_Sr hS8 (hk_Si hS7 (hk_Sr hS6 (hk_Sr hS5 (hk_Si hS4 f_1))))) (by decide) rfl (by decide) rfl (show cV _ 11 7 o1 = _ from congrArg va_rf (hr_Sr_s hS8)) cWs_wsX110 cl_X11_49 rfl dX11_prepare_118 ?_
  have f_3 : cK S5 q1 = 10 := (hk_Sr hS5 (hk_Si hS4 (hk_N hS3 (cm_ne (hm_No hS2) hf_q2) (hk_No hS2))))
  have f_4 : q1 ∈ cL S8 := (hm_Sr hS8 (hm_Si hS7 (hm_Sr hS6 (hm_Sr hS5 (hm_Si hS4 (hm_N hS3 (hm_No hS2)))))))
  have f_5 : ci S7 386 q2 = (nI 0) := (hi_Si_q hS7 (by decide) (hi_Sr hS6 (hi_Sr hS5 (hi_Si_q hS4 (by decide) (hi_No hS3)))))
  have f_6 : cK S8 q2 = 12 := (hk_Sr hS8 (hk_Si hS7 (hk_Sr hS6 (hk_Sr hS5 (hk_Si hS4 (hk_No hS3))))))
  have f_7 : q2 ∈ cL S8 := (hm_Sr hS8 (hm_Si hS7 (hm_Sr hS6 (hm_Sr hS5 (hm_Si hS4 (hm_No hS3))))))
  refine cg_calli C (z94_X10_size l hlt S8 dp q1 q2 (hr_Sr_q hS8 (by decide) (hr_Si hS7 (hr_Sr_s hS6))) (hk_Sr hS8 (hk_Si hS7 (hk_Sr hS6 f_3))) f_4 (hi_Sr hS8 f_5) f_6 f_7) cc_X11_240 f_4 (hk_Sr hS8 (hk_Si hS7 (hk_Sr hS6 f_3))) (by decide) rfl rfl ⟨by decide, by decide⟩ ⟨by decide, by decide⟩ rfl (Nat.le_of_ble_eq_true rfl) dX11_prepare_121 (fun r_121 u_121 h_121 => ?_)
  obtain ⟨hr_121, hu_121⟩ := h_121
  have hw_121 := hu_121.symm
  subst hw_121
  have hx_121 := hr_121.symm
  subst hx_121
  exact cg_iret C ⟨S1, hS1, q1, S2, hf_q1, hS2, q2, S3, hf_q2, hS3, S4, hS4, S5, hS5, S6, hS6, S7, hS7, S8, hS8, rfl, rfl⟩ dX11_prepare_124 (by decide) (by decide)
set_option maxHeartbeats 4000000 in
set_option maxRecDepth 100000 in
theorem z97_L_prepare (l : Launch) (hlt : l.stackTraces = false) (S : cS) (dp : Nat) (o1 o2 o3 o4 o5 : Nat) (h1 : ci S 370 o1 = (bI false)) (h2 : cK S o1 = 11) (h3 : o1 ∈ cL S) (h4 : cr S 359 o1 = none) (h5 : ci S 366 o1 = (nI 0)) (h6 : cr S 354 o1 = (some o3)) (h7 : ci S 386 o3 = (nI 0)) (h8 : cK S o3 = 12) (h9 : o3 ∈ cL S) (h10 : cr S 355 o1 = (some o4)) (h11 : cr S 358 o1 = none) (h12 : cr S 321 o4 = (some o5)) (h13 : cK S o4 = 10) (h14 : o4 ∈ cL S) (h15 : ci S 386 o5 = (nI 0)) (h16 : cK S o5 = 12) (h17 : o5 ∈ cL S) (h18 : ci S 369 o1 = ((-1))) (h19 : ci S 368 o1 = (nI 0)) (h20 : cK S o2 = 15) (h21 : o2 ∈ cL S) (h22 : cn S o2 = 1) : cMetW (cQi (fun r_ u_ => ∃ (S1 : cS), S1 = cSi S 368 o1 (nI 1) ∧ ∃ (q1 : Nat) (S2 : cS), q1 ∉ cL S1 ∧ S2 = cNew S1 q1 10 ∧ ∃ (q2 : Nat) (S3 : cS), q2 ∉ cL S2 ∧ S3 = cNew S2 q2 12 ∧ ∃ (S4 : cS), S4 = cSi S3 384 q2 (nI 0) ∧ ∃ (S5 : cS), S5 = cSr S4 385 q2 (some dp) ∧ ∃ (S6 : cS), S6 = cSr S5 321 q1 (some q2) ∧ ∃ (S7 : cS), S7 = cSi S6 320 q1 ((-1)) ∧ ∃ (S8 : cS), S8 = cSr S7 359 o1 (some q1) ∧ ∃ (S9 : cS), S9 = cSJ S8 o2 0 (((nI 0)).toInt64) ∧ r_ = (nI 0) ∧ u_ = S9)) l yL_prepare cL_prepare 3 (some .int) [(0, 8, 11, 15)] 7 2 5 159 [.ref o1, .ref o2] S dp := by
  intro D Y tp sz
  refine cg_bodyW (by decide +kernel) (Nat.le_of_ble_eq_true rfl) ?_
  intro p e s m args below meth c C htab
  generalize va_A (cWd Y S) sz = A at C ⊢
  have C : cC p s m args meth c cL_prepare 3 (some .int) A D Y tp dp RL := C
  refine cg_lv (lv' := [(0, .ref o1), (1, .ref o2)]) rfl ?_
  refine cg_aload_n C (i := 1) rfl 1 rfl dL_prepare_0 ?_
  refine cg_iconst C (x := nI 0) rfl dL_prepare_1 ?_
  refine cg_aload_n C (i := 0) rfl 0 rfl dL_prepare_2 ?_
  refine cg_calli C (z96_X11_prepare l hlt S dp o1 o3 o4 o5 h1 h2 h3 h4 h5 h6 h7 h8 h9 h10 h11 h12 h13 h14 h15 h16 h17 h18 h19) cc_L_56 h3 h2 (by decide) rfl rfl ⟨by decide, by decide⟩ ⟨by decide, by decide⟩ rfl (Nat.le_of_ble_eq_true rfl) dL_prepare_3 (fun r_3 u_3 h_3 => ?_)
  obtain ⟨S1, hS1, q1, S2, hf_q1, hS2, q2, S3, hf_q2, hS3, S4, hS4, S5, hS5, S6, hS6, S7, hS7, S8, hS8, hr_3, hu_3⟩ := h_3
  have hw_3 := hu_3.symm
  subst hw_3
  have hx_3 := hr_3.symm
  subst hx_3
  refine cg_i2l C dL_prepare_6 ?_
  have f_1 : cK S3 o2 = 15 := (hk_N hS3 (cm_ne (hm_N hS2 (hm_Si hS1 h21)) hf_q2) (hk_N hS2 (cm_ne (hm_Si hS1 h21) hf_q1) (hk_Si hS1 h20)))
  have f_2 : cn S6 o2 = 1 := (hn_Sr hS6 (hn_Sr hS5 (hn_Si hS4 (hn_N hS3 (hn_N hS2 (hn_Si hS1 h22))))))
  have f_3 : o2 ∈ cL S6 := (hm_Sr hS6 (hm_Sr hS5 (hm_Si hS4 (hm_N hS3 (hm_N hS2 (hm_Si hS1 h21))))))
  refine cg_lastore C 0 (hm_Sr hS8 (hm_Si hS7 f_3)) (hk_Sr hS8 (hk_Si hS7 (hk_Sr hS6 (hk_Sr hS5 (hk_Si hS4 f_1))))) (by rw [show cn _ _ = 1 from (hn_Sr hS8 (hn_Si hS7 f_2))]; omega) (by rw [show cn _ _ = 1 from (hn_Sr hS8 (hn_Si hS7 f_2))]; omega) dL_prepare_7 ?_
  refine cg_nm (fun S9 (hS9 : S9 = cSJ S8 o2 0 (((nI 0)).toInt64)) => ?_)
  refine cg_goto C 14 (by decide) dL_prepare_8 ?_
  refine cg_iconst C (x := nI 0) rfl dL_prepare_14 ?_
  exact cg_iret C ⟨S1, hS1, q1, S2, hf_q1, hS2, q2, S3, hf_q2, hS3, S4, hS4, S5, hS5, S6, hS6, S7, hS7, S8, hS8, S9, hS9, rfl, rfl⟩ dL_prepare_15 (by decide) (by decide)
set_option maxHeartbeats 4000000 in
set_option maxRecDepth 100000 in
theorem z98_X11_finish (l : Launch) (hlt : l.stackTraces = false) (S : cS) (dp : Nat) (o1 : Nat) (h1 : ci S 370 o1 = (bI false)) (h2 : cK S o1 = 11) (h3 : o1 ∈ cL S) (h4 : cr S 359 o1 = none) : cMetX "java/lang/IllegalStateException" (fun u_ => u_ = S) l yX11_finish cX11_finish 2 (some .int) 6 1 6 82 [.ref o1] S dp := by
  intro D Y tp sz
  refine cg_bodyX (by decide +kernel) (Nat.le_of_ble_eq_true rfl) ?_
  intro p e s m args below meth c C hne
  generalize va_A (cWd Y S) sz = A at C ⊢
  have C : cC p s m args meth c cX11_finish 2 (some .int) A D Y tp dp RX11 := C
  refine cg_lv (lv' := [(0, .ref o1)]) rfl ?_
  refine cg_aload_n C (i := 0) rfl 0 rfl dX11_finish_0 ?_
  refine cg_callv C (z57_X11_checkUp l hlt S dp o1 h1 h2 h3) cc_X11_177 h3 h2 (by decide) rfl rfl ⟨by decide, by decide⟩ ⟨by decide, by decide⟩ rfl (Nat.le_of_ble_eq_true rfl) dX11_finish_1 (fun u_1 h_1 => ?_)
  have hu_1 := h_1
  have hw_1 := hu_1.symm
  subst hw_1
  refine cg_aload_n C (i := 0) rfl 0 rfl dX11_finish_4 ?_
  refine cg_get C (k := 11) (j := 7) (.null) h3 h2 (by decide) rfl (by decide) rfl (show cV _ 11 7 o1 = _ from congrArg va_rf h4) cWs_wsX110 cl_X11_49 rfl dX11_finish_5 ?_
  refine cg_astoreN_n (lv' := [(1, .null), (0, .ref o1)]) C (i := 1) rfl (Nat.le_of_ble_eq_true rfl) rfl dX11_finish_8 ?_
  refine cg_aloadN_n C (i := 1) rfl 0 rfl dX11_finish_9 ?_
  refine cg_ifnonnullN C dX11_finish_10 ?_
  exact cg_throw2 C hlt hne "no commit is prepared" ce_X11_116 cei_2 (by decide) dX11_finish_13 dX11_finish_16 dX11_finish_17 dX11_finish_19 dX11_finish_22 (by decide) (by decide) ⟨by decide, by decide⟩ ⟨by decide, by decide⟩ rfl
set_option maxHeartbeats 4000000 in
set_option maxRecDepth 100000 in
theorem z99_L_finish (l : Launch) (hlt : l.stackTraces = false) (S : cS) (dp : Nat) (o1 o2 : Nat) (h1 : ci S 370 o1 = (bI false)) (h2 : cK S o1 = 11) (h3 : o1 ∈ cL S) (h4 : cr S 359 o1 = none) : cMetW (cQi (fun r_ u_ => r_ = (nI 1) ∧ u_ = S)) l yL_finish cL_finish 3 (some .int) [(0, 8, 11, 15)] 7 1 6 103 [.ref o1, .ref o2] S dp := by
  intro D Y tp sz
  refine cg_bodyW (by decide +kernel) (Nat.le_of_ble_eq_true rfl) ?_
  intro p e s m args below meth c C htab
  generalize va_A (cWd Y S) sz = A at C ⊢
  have C : cC p s m args meth c cL_finish 3 (some .int) A D Y tp dp RL := C
  refine cg_lv (lv' := [(0, .ref o1), (1, .ref o2)]) rfl ?_
  refine cg_aload_n C (i := 1) rfl 1 rfl dL_finish_0 ?_
  refine cg_iconst C (x := nI 0) rfl dL_finish_1 ?_
  refine cg_aload_n C (i := 0) rfl 0 rfl dL_finish_2 ?_
  refine cg_callx_catch C htab (z98_X11_finish l hlt S dp o1 h1 h2 h3 h4) cc_L_59 h3 h2 (by decide) rfl rfl ⟨by decide, by decide⟩ ⟨by decide, by decide⟩ rfl (Nat.le_of_ble_eq_true rfl) dL_finish_3 (tableOf []) ⟨0, 8, 11, 15⟩ (tableOf []) rfl (fun z hz => nomatch hz) (by decide) (by decide) (name := "java/lang/IllegalStateException") ce_L_15 (by decide) 11 rfl (fun x_3 u_3 h_3 => ?_)
  have hu_3 := h_3
  have hw_3 := hu_3.symm
  subst hw_3
  refine cg_astore_n (lv' := [(2, .ref x_3), (0, .ref o1), (1, .ref o2)]) C (i := 2) rfl (Nat.le_of_ble_eq_true rfl) rfl dL_finish_11 ?_
  refine cg_iconst C (x := nI 1) rfl dL_finish_12 ?_
  exact cg_iret C ⟨rfl, rfl⟩ dL_finish_13 (by decide) (by decide)
set_option maxHeartbeats 4000000 in
set_option maxRecDepth 100000 in
theorem z100_X11_drop (l : Launch) (hlt : l.stackTraces = false) (S : cS) (dp : Nat) (o1 : Nat) (h1 : ci S 370 o1 = (bI false)) (h2 : cK S o1 = 11) (h3 : o1 ∈ cL S) (h4 : cr S 359 o1 = none) : cMetX "java/lang/IllegalStateException" (fun u_ => u_ = S) l yX11_drop cX11_drop 1 none 6 1 6 82 [.ref o1] S dp := by
  intro D Y tp sz
  refine cg_bodyX (by decide +kernel) (Nat.le_of_ble_eq_true rfl) ?_
  intro p e s m args below meth c C hne
  generalize va_A (cWd Y S) sz = A at C ⊢
  have C : cC p s m args meth c cX11_drop 1 none A D Y tp dp RX11 := C
  refine cg_lv (lv' := [(0, .ref o1)]) rfl ?_
  refine cg_aload_n C (i := 0) rfl 0 rfl dX11_drop_0 ?_
  refine cg_callv C (z57_X11_checkUp l hlt S dp o1 h1 h2 h3) cc_X11_177 h3 h2 (by decide) rfl rfl ⟨by decide, by decide⟩ ⟨by decide, by decide⟩ rfl (Nat.le_of_ble_eq_true rfl) dX11_drop_1 (fun u_1 h_1 => ?_)
  have hu_1 := h_1
  have hw_1 := hu_1.symm
  subst hw_1
  refine cg_aload_n C (i := 0) rfl 0 rfl dX11_drop_4 ?_
  refine cg_get C (k := 11) (j := 7) (.null) h3 h2 (by decide) rfl (by decide) rfl (show cV _ 11 7 o1 = _ from congrArg va_rf h4) cWs_wsX110 cl_X11_49 rfl dX11_drop_5 ?_
  refine cg_ifnonnullN C dX11_drop_8 ?_
  exact cg_throw2 C hlt hne "no commit is prepared" ce_X11_116 cei_2 (by decide) dX11_drop_11 dX11_drop_14 dX11_drop_15 dX11_drop_17 dX11_drop_20 (by decide) (by decide) ⟨by decide, by decide⟩ ⟨by decide, by decide⟩ rfl
set_option maxHeartbeats 4000000 in
set_option maxRecDepth 100000 in
theorem z101_L_drop (l : Launch) (hlt : l.stackTraces = false) (S : cS) (dp : Nat) (o1 : Nat) (h1 : ci S 370 o1 = (bI false)) (h2 : cK S o1 = 11) (h3 : o1 ∈ cL S) (h4 : cr S 359 o1 = none) : cMetW (cQi (fun r_ u_ => r_ = (nI 1) ∧ u_ = S)) l yL_drop cL_drop 2 (some .int) [(0, 4, 7, 15)] 7 1 6 102 [.ref o1] S dp := by
  intro D Y tp sz
  refine cg_bodyW (by decide +kernel) (Nat.le_of_ble_eq_true rfl) ?_
  intro p e s m args below meth c C htab
  generalize va_A (cWd Y S) sz = A at C ⊢
  have C : cC p s m args meth c cL_drop 2 (some .int) A D Y tp dp RL := C
  refine cg_lv (lv' := [(0, .ref o1)]) rfl ?_
  refine cg_aload_n C (i := 0) rfl 0 rfl dL_drop_0 ?_
  refine cg_callx_catch C htab (z100_X11_drop l hlt S dp o1 h1 h2 h3 h4) cc_L_62 h3 h2 (by decide) rfl rfl ⟨by decide, by decide⟩ ⟨by decide, by decide⟩ rfl (Nat.le_of_ble_eq_true rfl) dL_drop_1 (tableOf []) ⟨0, 4, 7, 15⟩ (tableOf []) rfl (fun z hz => nomatch hz) (by decide) (by decide) (name := "java/lang/IllegalStateException") ce_L_15 (by decide) 7 rfl (fun x_1 u_1 h_1 => ?_)
  have hu_1 := h_1
  have hw_1 := hu_1.symm
  subst hw_1
  refine cg_astore_n (lv' := [(1, .ref x_1), (0, .ref o1)]) C (i := 1) rfl (Nat.le_of_ble_eq_true rfl) rfl dL_drop_7 ?_
  refine cg_iconst C (x := nI 1) rfl dL_drop_8 ?_
  exact cg_iret C ⟨rfl, rfl⟩ dL_drop_9 (by decide) (by decide)
set_option maxHeartbeats 4000000 in
set_option maxRecDepth 100000 in
theorem z102_X11_crashAt (l : Launch) (hlt : l.stackTraces = false) (S : cS) (dp : Nat) (o1 : Nat) (x1 : Int32) (h1 : x1 < 0) : cMetX "java/lang/IllegalArgumentException" (fun u_ => u_ = S) l yX11_crashAt cX11_crashAt 2 none 6 1 6 82 [.ref o1, .int x1] S dp := by
  intro D Y tp sz
  refine cg_bodyX (by decide +kernel) (Nat.le_of_ble_eq_true rfl) ?_
  intro p e s m args below meth c C hne
  generalize va_A (cWd Y S) sz = A at C ⊢
  have C : cC p s m args meth c cX11_crashAt 2 none A D Y tp dp RX11 := C
  refine cg_lv (lv' := [(0, .ref o1), (1, .int x1)]) rfl ?_
  refine cg_iload_n C (i := 1) rfl 1 rfl dX11_crashAt_0 ?_
  refine cg_if_lt C 11 (by decide) dX11_crashAt_1 (fun c_1 => ?_) (fun c_ => absurd (cneg0_lt h1) c_)
  exact cg_throw1 C hlt hne "the number of writes is out of range" ce_X11_100 cei_1 (by decide) dX11_crashAt_11 dX11_crashAt_14 dX11_crashAt_15 dX11_crashAt_17 dX11_crashAt_20 (by decide) (by decide) ⟨by decide, by decide⟩ ⟨by decide, by decide⟩ rfl
set_option maxHeartbeats 4000000 in
set_option maxRecDepth 100000 in
theorem z103_L_crashAt (l : Launch) (hlt : l.stackTraces = false) (S : cS) (dp : Nat) (o1 : Nat) (x1 : Int32) (h1 : x1 < 0) (h2 : o1 ∈ cL S) (h3 : cK S o1 = 11) : cMetW (cQi (fun r_ u_ => r_ = (nI 1) ∧ u_ = S)) l yL_crashAt cL_crashAt 3 (some .int) [(0, 5, 8, 13), (0, 5, 11, 15)] 7 1 6 103 [.ref o1, .int x1] S dp := by
  intro D Y tp sz
  refine cg_bodyW (by decide +kernel) (Nat.le_of_ble_eq_true rfl) ?_
  intro p e s m args below meth c C htab
  generalize va_A (cWd Y S) sz = A at C ⊢
  have C : cC p s m args meth c cL_crashAt 3 (some .int) A D Y tp dp RL := C
  refine cg_lv (lv' := [(0, .ref o1), (1, .int x1)]) rfl ?_
  refine cg_aload_n C (i := 0) rfl 0 rfl dL_crashAt_0 ?_
  refine cg_iload_n C (i := 1) rfl 1 rfl dL_crashAt_1 ?_
  refine cg_callx_catch C htab (z102_X11_crashAt l hlt S dp o1 x1 h1) cc_L_65 h2 h3 (by decide) rfl rfl ⟨by decide, by decide⟩ ⟨by decide, by decide⟩ rfl (Nat.le_of_ble_eq_true rfl) dL_crashAt_2 (tableOf []) ⟨0, 5, 8, 13⟩ (tableOf [(0, 5, 11, 15)]) rfl (fun z hz => nomatch hz) (by decide) (by decide) (name := "java/lang/IllegalArgumentException") ce_L_13 (by decide) 8 rfl (fun x_2 u_2 h_2 => ?_)
  have hu_2 := h_2
  have hw_2 := hu_2.symm
  subst hw_2
  refine cg_astore_n (lv' := [(2, .ref x_2), (0, .ref o1), (1, .int x1)]) C (i := 2) rfl (Nat.le_of_ble_eq_true rfl) rfl dL_crashAt_8 ?_
  refine cg_iconst C (x := nI 1) rfl dL_crashAt_9 ?_
  exact cg_iret C ⟨rfl, rfl⟩ dL_crashAt_10 (by decide) (by decide)
set_option maxHeartbeats 4000000 in
set_option maxRecDepth 100000 in
theorem z104_X11_crashAt (l : Launch) (hlt : l.stackTraces = false) (S : cS) (dp : Nat) (o1 : Nat) (n1 : Nat) (h1 : n1 ≤ 1000) (h2 : ci S 370 o1 = (bI false)) (h3 : cK S o1 = 11) (h4 : o1 ∈ cL S) : cMet (cQv (fun u_ => ∃ (S1 : cS), S1 = cSi S 369 o1 (nI n1) ∧ u_ = S1)) l yX11_crashAt cX11_crashAt 2 none 1 0 0 20 [.ref o1, .int (nI n1)] S dp := by
  intro D Y tp sz
  refine cg_body (by decide +kernel) (Nat.le_of_ble_eq_true rfl) ?_
  intro p e s m args below meth c C
  generalize va_A (cWd Y S) sz = A at C ⊢
  have C : cC p s m args meth c cX11_crashAt 2 none A D Y tp dp RX11 := C
  refine cg_lv (lv' := [(0, .ref o1), (1, .int (nI n1))]) rfl ?_
  refine cg_iload_n C (i := 1) rfl 1 rfl dX11_crashAt_0 ?_
  refine cg_if_ltN C (by omega) 11 (by decide) dX11_crashAt_1 ?_
  refine cg_iload_n C (i := 1) rfl 1 rfl dX11_crashAt_4 ?_
  refine cg_sipush C (x := nI 1000) rfl dX11_crashAt_5 ?_
  refine cg_icmp_leN C (by omega) (by omega) 21 (by decide) dX11_crashAt_8 (fun c_8 => ?_) (fun c_ => absurd c_ (by omega))
  refine cg_aload_n C (i := 0) rfl 0 rfl dX11_crashAt_21 ?_
  refine cg_callv C (z57_X11_checkUp l hlt S dp o1 h2 h3 h4) cc_X11_177 h4 h3 (by decide) rfl rfl ⟨by decide, by decide⟩ ⟨by decide, by decide⟩ rfl (Nat.le_of_ble_eq_true rfl) dX11_crashAt_22 (fun u_22 h_22 => ?_)
  have hu_22 := h_22
  have hw_22 := hu_22.symm
  subst hw_22
  refine cg_aload_n C (i := 0) rfl 0 rfl dX11_crashAt_25 ?_
  refine cg_iload_n C (i := 1) rfl 1 rfl dX11_crashAt_26 ?_
  refine cg_puti C (k := 11) (j := 17) (ty := tyX11) (fty := .int) h4 h3 (by decide) rfl (by decide) rfl (by decide) rfl cWs_wsX110 tyX11_ok nmX11 cl_X11_93 rfl rfl rfl rfl rfl dX11_crashAt_27 ?_
  refine cg_nm (fun S1 (hS1 : S1 = cSi S 369 o1 (nI n1)) => ?_)
  exact cg_vret C ⟨S1, hS1, rfl⟩ dX11_crashAt_30 (by decide) (by decide)
set_option maxHeartbeats 4000000 in
set_option maxRecDepth 100000 in
theorem z105_L_crashAt (l : Launch) (hlt : l.stackTraces = false) (S : cS) (dp : Nat) (o1 : Nat) (n1 : Nat) (h1 : n1 ≤ 1000) (h2 : ci S 370 o1 = (bI false)) (h3 : cK S o1 = 11) (h4 : o1 ∈ cL S) : cMetW (cQi (fun r_ u_ => ∃ (S1 : cS), S1 = cSi S 369 o1 (nI n1) ∧ r_ = (nI 0) ∧ u_ = S1)) l yL_crashAt cL_crashAt 3 (some .int) [(0, 5, 8, 13), (0, 5, 11, 15)] 2 0 0 41 [.ref o1, .int (nI n1)] S dp := by
  intro D Y tp sz
  refine cg_bodyW (by decide +kernel) (Nat.le_of_ble_eq_true rfl) ?_
  intro p e s m args below meth c C htab
  generalize va_A (cWd Y S) sz = A at C ⊢
  have C : cC p s m args meth c cL_crashAt 3 (some .int) A D Y tp dp RL := C
  refine cg_lv (lv' := [(0, .ref o1), (1, .int (nI n1))]) rfl ?_
  refine cg_aload_n C (i := 0) rfl 0 rfl dL_crashAt_0 ?_
  refine cg_iload_n C (i := 1) rfl 1 rfl dL_crashAt_1 ?_
  refine cg_callv C (z104_X11_crashAt l hlt S dp o1 n1 (by omega) h2 h3 h4) cc_L_65 h4 h3 (by decide) rfl rfl ⟨by decide, by decide⟩ ⟨by decide, by decide⟩ rfl (Nat.le_of_ble_eq_true rfl) dL_crashAt_2 (fun u_2 h_2 => ?_)
  obtain ⟨S1, hS1, hu_2⟩ := h_2
  have hw_2 := hu_2.symm
  subst hw_2
  refine cg_goto C 14 (by decide) dL_crashAt_5 ?_
  refine cg_iconst C (x := nI 0) rfl dL_crashAt_14 ?_
  exact cg_iret C ⟨S1, hS1, rfl, rfl⟩ dL_crashAt_15 (by decide) (by decide)
set_option maxHeartbeats 4000000 in
set_option maxRecDepth 100000 in
theorem z106_X11_crashAt (l : Launch) (hlt : l.stackTraces = false) (S : cS) (dp : Nat) (o1 : Nat) (n1 : Nat) (h1 : 1001 ≤ n1) (h2 : n1 ≤ 2147483647) : cMetX "java/lang/IllegalArgumentException" (fun u_ => u_ = S) l yX11_crashAt cX11_crashAt 2 none 6 1 6 82 [.ref o1, .int (nI n1)] S dp := by
  intro D Y tp sz
  refine cg_bodyX (by decide +kernel) (Nat.le_of_ble_eq_true rfl) ?_
  intro p e s m args below meth c C hne
  generalize va_A (cWd Y S) sz = A at C ⊢
  have C : cC p s m args meth c cX11_crashAt 2 none A D Y tp dp RX11 := C
  refine cg_lv (lv' := [(0, .ref o1), (1, .int (nI n1))]) rfl ?_
  refine cg_iload_n C (i := 1) rfl 1 rfl dX11_crashAt_0 ?_
  refine cg_if_ltN C (by omega) 11 (by decide) dX11_crashAt_1 ?_
  refine cg_iload_n C (i := 1) rfl 1 rfl dX11_crashAt_4 ?_
  refine cg_sipush C (x := nI 1000) rfl dX11_crashAt_5 ?_
  refine cg_icmp_leN C (by omega) (by omega) 21 (by decide) dX11_crashAt_8 (fun c_ => absurd c_ (by omega)) (fun c_8 => ?_)
  exact cg_throw1 C hlt hne "the number of writes is out of range" ce_X11_100 cei_1 (by decide) dX11_crashAt_11 dX11_crashAt_14 dX11_crashAt_15 dX11_crashAt_17 dX11_crashAt_20 (by decide) (by decide) ⟨by decide, by decide⟩ ⟨by decide, by decide⟩ rfl
set_option maxHeartbeats 4000000 in
set_option maxRecDepth 100000 in
theorem z107_L_crashAt (l : Launch) (hlt : l.stackTraces = false) (S : cS) (dp : Nat) (o1 : Nat) (n1 : Nat) (h1 : 1001 ≤ n1) (h2 : n1 ≤ 2147483647) (h3 : o1 ∈ cL S) (h4 : cK S o1 = 11) : cMetW (cQi (fun r_ u_ => r_ = (nI 1) ∧ u_ = S)) l yL_crashAt cL_crashAt 3 (some .int) [(0, 5, 8, 13), (0, 5, 11, 15)] 7 1 6 103 [.ref o1, .int (nI n1)] S dp := by
  intro D Y tp sz
  refine cg_bodyW (by decide +kernel) (Nat.le_of_ble_eq_true rfl) ?_
  intro p e s m args below meth c C htab
  generalize va_A (cWd Y S) sz = A at C ⊢
  have C : cC p s m args meth c cL_crashAt 3 (some .int) A D Y tp dp RL := C
  refine cg_lv (lv' := [(0, .ref o1), (1, .int (nI n1))]) rfl ?_
  refine cg_aload_n C (i := 0) rfl 0 rfl dL_crashAt_0 ?_
  refine cg_iload_n C (i := 1) rfl 1 rfl dL_crashAt_1 ?_
  refine cg_callx_catch C htab (z106_X11_crashAt l hlt S dp o1 n1 (by omega) (by omega)) cc_L_65 h3 h4 (by decide) rfl rfl ⟨by decide, by decide⟩ ⟨by decide, by decide⟩ rfl (Nat.le_of_ble_eq_true rfl) dL_crashAt_2 (tableOf []) ⟨0, 5, 8, 13⟩ (tableOf [(0, 5, 11, 15)]) rfl (fun z hz => nomatch hz) (by decide) (by decide) (name := "java/lang/IllegalArgumentException") ce_L_13 (by decide) 8 rfl (fun x_2 u_2 h_2 => ?_)
  have hu_2 := h_2
  have hw_2 := hu_2.symm
  subst hw_2
  refine cg_astore_n (lv' := [(2, .ref x_2), (0, .ref o1), (1, .int (nI n1))]) C (i := 2) rfl (Nat.le_of_ble_eq_true rfl) rfl dL_crashAt_8 ?_
  refine cg_iconst C (x := nI 1) rfl dL_crashAt_9 ?_
  exact cg_iret C ⟨rfl, rfl⟩ dL_crashAt_10 (by decide) (by decide)
set_option maxHeartbeats 4000000 in
set_option maxRecDepth 100000 in
theorem z108_X11_open (l : Launch) (hlt : l.stackTraces = false) (S : cS) (dp : Nat) (o1 : Nat) (h1 : ci S 370 o1 = (bI false)) (h2 : cK S o1 = 11) (h3 : o1 ∈ cL S) : cMetX "java/lang/IllegalStateException" (fun u_ => u_ = S) l yX11_open cX11_open 1 (some .int) 6 1 6 82 [.ref o1] S dp := by
  intro D Y tp sz
  refine cg_bodyX (by decide +kernel) (Nat.le_of_ble_eq_true rfl) ?_
  intro p e s m args below meth c C hne
  generalize va_A (cWd Y S) sz = A at C ⊢
  have C : cC p s m args meth c cX11_open 1 (some .int) A D Y tp dp RX11 := C
  refine cg_lv (lv' := [(0, .ref o1)]) rfl ?_
  refine cg_aload_n C (i := 0) rfl 0 rfl dX11_open_0 ?_
  refine cg_get C (k := 11) (j := 18) (.int (bI false)) h3 h2 (by decide) rfl (by decide) rfl (show cV _ 11 18 o1 = _ from congrArg Value.int h1) cWs_wsX110 cl_X11_96 rfl dX11_open_1 ?_
  refine cg_if_neB C 17 (by decide) dX11_open_4 (fun c_ => absurd c_ (by decide)) (fun c_4 => ?_)
  exact cg_throw2 C hlt hne "the machine is not DOWN" ce_X11_116 cei_2 (by decide) dX11_open_7 dX11_open_10 dX11_open_11 dX11_open_13 dX11_open_16 (by decide) (by decide) ⟨by decide, by decide⟩ ⟨by decide, by decide⟩ rfl
set_option maxHeartbeats 4000000 in
set_option maxRecDepth 100000 in
theorem z109_L_open (l : Launch) (hlt : l.stackTraces = false) (S : cS) (dp : Nat) (o1 o2 : Nat) (h1 : ci S 370 o1 = (bI false)) (h2 : cK S o1 = 11) (h3 : o1 ∈ cL S) : cMetW (cQi (fun r_ u_ => r_ = (nI 1) ∧ u_ = S)) l yL_open cL_open 3 (some .int) [(0, 8, 11, 15)] 7 1 6 102 [.ref o1, .ref o2] S dp := by
  intro D Y tp sz
  refine cg_bodyW (by decide +kernel) (Nat.le_of_ble_eq_true rfl) ?_
  intro p e s m args below meth c C htab
  generalize va_A (cWd Y S) sz = A at C ⊢
  have C : cC p s m args meth c cL_open 3 (some .int) A D Y tp dp RL := C
  refine cg_lv (lv' := [(0, .ref o1), (1, .ref o2)]) rfl ?_
  refine cg_aload_n C (i := 1) rfl 1 rfl dL_open_0 ?_
  refine cg_iconst C (x := nI 0) rfl dL_open_1 ?_
  refine cg_aload_n C (i := 0) rfl 0 rfl dL_open_2 ?_
  refine cg_callx_catch C htab (z108_X11_open l hlt S dp o1 h1 h2 h3) cc_L_69 h3 h2 (by decide) rfl rfl ⟨by decide, by decide⟩ ⟨by decide, by decide⟩ rfl (Nat.le_of_ble_eq_true rfl) dL_open_3 (tableOf []) ⟨0, 8, 11, 15⟩ (tableOf []) rfl (fun z hz => nomatch hz) (by decide) (by decide) (name := "java/lang/IllegalStateException") ce_L_15 (by decide) 11 rfl (fun x_3 u_3 h_3 => ?_)
  have hu_3 := h_3
  have hw_3 := hu_3.symm
  subst hw_3
  refine cg_astore_n (lv' := [(2, .ref x_3), (0, .ref o1), (1, .ref o2)]) C (i := 2) rfl (Nat.le_of_ble_eq_true rfl) rfl dL_open_11 ?_
  refine cg_iconst C (x := nI 1) rfl dL_open_12 ?_
  exact cg_iret C ⟨rfl, rfl⟩ dL_open_13 (by decide) (by decide)
set_option maxHeartbeats 4000000 in
set_option maxRecDepth 100000 in
theorem z110_X11_isDown (l : Launch) (hlt : l.stackTraces = false) (S : cS) (dp : Nat) (o1 : Nat) (h1 : ci S 370 o1 = (bI false)) (h2 : cK S o1 = 11) (h3 : o1 ∈ cL S) : cMet (cQi (fun r_ u_ => r_ = (bI false) ∧ u_ = S)) l yX11_isDown cX11_isDown 1 (some .boolean) 0 0 0 0 [.ref o1] S dp := by
  intro D Y tp sz
  refine cg_body (by decide +kernel) (Nat.le_of_ble_eq_true rfl) ?_
  intro p e s m args below meth c C
  generalize va_A (cWd Y S) sz = A at C ⊢
  have C : cC p s m args meth c cX11_isDown 1 (some .boolean) A D Y tp dp RX11 := C
  refine cg_lv (lv' := [(0, .ref o1)]) rfl ?_
  refine cg_aload_n C (i := 0) rfl 0 rfl dX11_isDown_0 ?_
  refine cg_get C (k := 11) (j := 18) (.int (bI false)) h3 h2 (by decide) rfl (by decide) rfl (show cV _ 11 18 o1 = _ from congrArg Value.int h1) cWs_wsX110 cl_X11_96 rfl dX11_isDown_1 ?_
  exact cg_zret C (bI_nar _) ⟨rfl, rfl⟩ dX11_isDown_4 (by decide) (by decide)
set_option maxHeartbeats 4000000 in
set_option maxRecDepth 100000 in
theorem z111_X10_newFiles (l : Launch) (hlt : l.stackTraces = false) (S : cS) (dp : Nat) (o1 o2 o3 : Nat) (h1 : cr S 321 o1 = (some o3)) (h2 : cK S o1 = 10) (h3 : o1 ∈ cL S) (h4 : ci S 386 o3 = (nI 0)) (h5 : cK S o3 = 12) (h6 : o3 ∈ cL S) : cMet (cQi (fun r_ u_ => r_ = (nI 0) ∧ u_ = S)) l yX10_newFiles cX10_newFiles 5 (some .int) 1 0 0 20 [.ref o1, .ref o2] S dp := by
  intro D Y tp sz
  refine cg_body (by decide +kernel) (Nat.le_of_ble_eq_true rfl) ?_
  intro p e s m args below meth c C
  generalize va_A (cWd Y S) sz = A at C ⊢
  have C : cC p s m args meth c cX10_newFiles 5 (some .int) A D Y tp dp RX10 := C
  refine cg_lv (lv' := [(0, .ref o1), (1, .ref o2)]) rfl ?_
  refine cg_iconst C (x := nI 0) rfl dX10_newFiles_0 ?_
  refine cg_istore_n C (i := 2) (lv' := [(2, .int (nI 0)), (0, .ref o1), (1, .ref o2)]) rfl (Nat.le_of_ble_eq_true rfl) rfl dX10_newFiles_1 ?_
  refine cg_iconst C (x := nI 0) rfl dX10_newFiles_2 ?_
  refine cg_istore_n C (i := 3) (lv' := [(3, .int (nI 0)), (2, .int (nI 0)), (0, .ref o1), (1, .ref o2)]) rfl (Nat.le_of_ble_eq_true rfl) rfl dX10_newFiles_3 ?_
  refine cg_iload_n C (i := 3) rfl 0 rfl dX10_newFiles_4 ?_
  refine cg_aload_n C (i := 0) rfl 2 rfl dX10_newFiles_5 ?_
  refine cg_get C (k := 10) (j := 1) (.ref o3) h3 h2 (by decide) rfl (by decide) rfl (show cV _ 10 1 o1 = _ from congrArg va_rf h1) cWs_wsX100 cl_X10_12 rfl dX10_newFiles_6 ?_
  refine cg_calli C (z58_Jx4a65c_size_8abf5 l hlt S dp o3 h4 h5 h6) cc_X10_22 h6 h5 (by decide) rfl rfl ⟨by decide, by decide⟩ ⟨by decide, by decide⟩ rfl (Nat.le_of_ble_eq_true rfl) dX10_newFiles_9 (fun r_9 u_9 h_9 => ?_)
  obtain ⟨hr_9, hu_9⟩ := h_9
  have hw_9 := hu_9.symm
  subst hw_9
  have hx_9 := hr_9.symm
  subst hx_9
  refine cg_icmp_geN C (by omega) (by omega) 67 (by decide) dX10_newFiles_12 (fun c_12 => ?_) (fun c_ => absurd c_ (by omega))
  refine cg_iload_n C (i := 2) rfl 1 rfl dX10_newFiles_67 ?_
  exact cg_iret C ⟨rfl, rfl⟩ dX10_newFiles_68 (by decide) (by decide)
set_option maxHeartbeats 4000000 in
set_option maxRecDepth 100000 in
theorem z112_X11_fileCount (l : Launch) (hlt : l.stackTraces = false) (S : cS) (dp : Nat) (o1 o2 o3 o4 : Nat) (h1 : ci S 366 o1 = (nI 0)) (h2 : cK S o1 = 11) (h3 : o1 ∈ cL S) (h4 : cr S 355 o1 = (some o2)) (h5 : cr S 321 o2 = (some o3)) (h6 : cK S o2 = 10) (h7 : o2 ∈ cL S) (h8 : ci S 386 o3 = (nI 0)) (h9 : cK S o3 = 12) (h10 : o3 ∈ cL S) (h11 : cr S 356 o1 = none) (h12 : cr S 360 o1 = (some o4)) (h13 : ci S 386 o4 = (nI 0)) (h14 : cK S o4 = 12) (h15 : o4 ∈ cL S) (h16 : cr S 358 o1 = none) (h17 : cr S 359 o1 = none) : cMet (cQi (fun r_ u_ => ∃ (q1 : Nat) (S1 : cS), q1 ∉ cL S ∧ S1 = cNewA S q1 16 0 ∧ r_ = (nI 0) ∧ u_ = S1)) l yX11_fileCount cX11_fileCount 4 (some .int) 2 1 0 44 [.ref o1] S dp := by
  intro D Y tp sz
  refine cg_body (by decide +kernel) (Nat.le_of_ble_eq_true rfl) ?_
  intro p e s m args below meth c C
  generalize va_A (cWd Y S) sz = A at C ⊢
  have C : cC p s m args meth c cX11_fileCount 4 (some .int) A D Y tp dp RX11 := C
  refine cg_lv (lv' := [(0, .ref o1)]) rfl ?_
  refine cg_aload_n C (i := 0) rfl 0 rfl dX11_fileCount_0 ?_
  refine cg_get C (k := 11) (j := 14) (.int (nI 0)) h3 h2 (by decide) rfl (by decide) rfl (show cV _ 11 14 o1 = _ from congrArg Value.int h1) cWs_wsX110 cl_X11_84 rfl dX11_fileCount_1 ?_
  refine cg_newZ C 0 (by decide) ca_boolean (by decide) (by decide) dX11_fileCount_4 (fun q1 hf_q1 => ?_)
  refine cg_nm (fun S1 (hS1 : S1 = cNewA S q1 16 0) => ?_)
  refine cg_astore_n (lv' := [(1, .ref q1), (0, .ref o1)]) C (i := 1) rfl (Nat.le_of_ble_eq_true rfl) rfl dX11_fileCount_6 ?_
  refine cg_aload_n C (i := 0) rfl 1 rfl dX11_fileCount_7 ?_
  refine cg_get C (k := 11) (j := 3) (.ref o2) (hm_A hS1 h3) (hk_A hS1 (cm_ne h3 hf_q1) h2) (by decide) rfl (by decide) rfl (show cV _ 11 3 o1 = _ from congrArg va_rf (hr_A hS1 h4)) cWs_wsX110 cl_X11_35 rfl dX11_fileCount_8 ?_
  refine cg_aload_n C (i := 1) rfl 0 rfl dX11_fileCount_11 ?_
  refine cg_calli C (z111_X10_newFiles l hlt S1 dp o2 q1 o3 (hr_A hS1 h5) (hk_A hS1 (cm_ne h7 hf_q1) h6) (hm_A hS1 h7) (hi_A hS1 h8) (hk_A hS1 (cm_ne h10 hf_q1) h9) (hm_A hS1 h10)) cc_X11_525 (hm_A hS1 h7) (hk_A hS1 (cm_ne h7 hf_q1) h6) (by decide) rfl rfl ⟨by decide, by decide⟩ ⟨by decide, by decide⟩ rfl (Nat.le_of_ble_eq_true rfl) dX11_fileCount_12 (fun r_12 u_12 h_12 => ?_)
  obtain ⟨hr_12, hu_12⟩ := h_12
  have hw_12 := hu_12.symm
  subst hw_12
  have hx_12 := hr_12.symm
  subst hx_12
  refine cg_aload_n C (i := 0) rfl 1 rfl dX11_fileCount_15 ?_
  refine cg_get C (k := 11) (j := 4) (.null) (hm_A hS1 h3) (hk_A hS1 (cm_ne h3 hf_q1) h2) (by decide) rfl (by decide) rfl (show cV _ 11 4 o1 = _ from congrArg va_rf (hr_A hS1 h11)) cWs_wsX110 cl_X11_39 rfl dX11_fileCount_16 ?_
  refine cg_ifnullN C 33 (by decide) dX11_fileCount_19 ?_
  refine cg_iconst C (x := nI 0) rfl dX11_fileCount_33 ?_
  refine cg_iadd C dX11_fileCount_34 ?_
  refine cg_cast (.int (nI 0)) (congrArg Value.int (by decide)) ?_
  refine cg_istore_n C (i := 2) (lv' := [(2, .int (nI 0)), (1, .ref q1), (0, .ref o1)]) rfl (Nat.le_of_ble_eq_true rfl) rfl dX11_fileCount_35 ?_
  refine cg_iconst C (x := nI 0) rfl dX11_fileCount_36 ?_
  refine cg_istore_n C (i := 3) (lv' := [(3, .int (nI 0)), (2, .int (nI 0)), (1, .ref q1), (0, .ref o1)]) rfl (Nat.le_of_ble_eq_true rfl) rfl dX11_fileCount_37 ?_
  refine cg_iload_n C (i := 3) rfl 0 rfl dX11_fileCount_38 ?_
  refine cg_aload_n C (i := 0) rfl 3 rfl dX11_fileCount_39 ?_
  refine cg_get C (k := 11) (j := 8) (.ref o4) (hm_A hS1 h3) (hk_A hS1 (cm_ne h3 hf_q1) h2) (by decide) rfl (by decide) rfl (show cV _ 11 8 o1 = _ from congrArg va_rf (hr_A hS1 h12)) cWs_wsX110 cl_X11_52 rfl dX11_fileCount_40 ?_
  refine cg_calli C (z58_Jx4a65c_size_8abf5 l hlt S1 dp o4 (hi_A hS1 h13) (hk_A hS1 (cm_ne h15 hf_q1) h14) (hm_A hS1 h15)) cc_X11_180 (hm_A hS1 h15) (hk_A hS1 (cm_ne h15 hf_q1) h14) (by decide) rfl rfl ⟨by decide, by decide⟩ ⟨by decide, by decide⟩ rfl (Nat.le_of_ble_eq_true rfl) dX11_fileCount_43 (fun r_43 u_43 h_43 => ?_)
  obtain ⟨hr_43, hu_43⟩ := h_43
  have hw_43 := hu_43.symm
  subst hw_43
  have hx_43 := hr_43.symm
  subst hx_43
  refine cg_icmp_geN C (by omega) (by omega) 73 (by decide) dX11_fileCount_46 (fun c_46 => ?_) (fun c_ => absurd c_ (by omega))
  refine cg_aload_n C (i := 0) rfl 3 rfl dX11_fileCount_73 ?_
  refine cg_get C (k := 11) (j := 6) (.null) (hm_A hS1 h3) (hk_A hS1 (cm_ne h3 hf_q1) h2) (by decide) rfl (by decide) rfl (show cV _ 11 6 o1 = _ from congrArg va_rf (hr_A hS1 h16)) cWs_wsX110 cl_X11_46 rfl dX11_fileCount_74 ?_
  refine cg_ifnullN C 102 (by decide) dX11_fileCount_77 ?_
  refine cg_aload_n C (i := 0) rfl 3 rfl dX11_fileCount_102 ?_
  refine cg_get C (k := 11) (j := 7) (.null) (hm_A hS1 h3) (hk_A hS1 (cm_ne h3 hf_q1) h2) (by decide) rfl (by decide) rfl (show cV _ 11 7 o1 = _ from congrArg va_rf (hr_A hS1 h17)) cWs_wsX110 cl_X11_49 rfl dX11_fileCount_103 ?_
  refine cg_ifnullN C 134 (by decide) dX11_fileCount_106 ?_
  refine cg_iload_n C (i := 2) rfl 1 rfl dX11_fileCount_134 ?_
  exact cg_iret C ⟨q1, S1, hf_q1, hS1, rfl, rfl⟩ dX11_fileCount_135 (by decide) (by decide)
set_option maxHeartbeats 4000000 in
set_option maxRecDepth 100000 in
theorem z113_X11_files (l : Launch) (hlt : l.stackTraces = false) (S : cS) (dp : Nat) (o1 o2 o3 o4 : Nat) (h1 : ci S 370 o1 = (bI false)) (h2 : cK S o1 = 11) (h3 : o1 ∈ cL S) (h4 : ci S 366 o1 = (nI 0)) (h5 : cr S 355 o1 = (some o2)) (h6 : cr S 321 o2 = (some o3)) (h7 : cK S o2 = 10) (h8 : o2 ∈ cL S) (h9 : ci S 386 o3 = (nI 0)) (h10 : cK S o3 = 12) (h11 : o3 ∈ cL S) (h12 : cr S 356 o1 = none) (h13 : cr S 360 o1 = (some o4)) (h14 : ci S 386 o4 = (nI 0)) (h15 : cK S o4 = 12) (h16 : o4 ∈ cL S) (h17 : cr S 358 o1 = none) (h18 : cr S 359 o1 = none) : cMet (cQi (fun r_ u_ => ∃ (q1 : Nat) (S1 : cS), q1 ∉ cL S ∧ S1 = cNewA S q1 16 0 ∧ r_ = (nI 0) ∧ u_ = S1)) l yX11_files cX11_files 1 (some .int) 3 1 0 67 [.ref o1] S dp := by
  intro D Y tp sz
  refine cg_body (by decide +kernel) (Nat.le_of_ble_eq_true rfl) ?_
  intro p e s m args below meth c C
  generalize va_A (cWd Y S) sz = A at C ⊢
  have C : cC p s m args meth c cX11_files 1 (some .int) A D Y tp dp RX11 := C
  refine cg_lv (lv' := [(0, .ref o1)]) rfl ?_
  refine cg_aload_n C (i := 0) rfl 0 rfl dX11_files_0 ?_
  refine cg_callv C (z57_X11_checkUp l hlt S dp o1 h1 h2 h3) cc_X11_177 h3 h2 (by decide) rfl rfl ⟨by decide, by decide⟩ ⟨by decide, by decide⟩ rfl (Nat.le_of_ble_eq_true rfl) dX11_files_1 (fun u_1 h_1 => ?_)
  have hu_1 := h_1
  have hw_1 := hu_1.symm
  subst hw_1
  refine cg_aload_n C (i := 0) rfl 0 rfl dX11_files_4 ?_
  refine cg_calli C (z112_X11_fileCount l hlt S dp o1 o2 o3 o4 h4 h2 h3 h5 h6 h7 h8 h9 h10 h11 h12 h13 h14 h15 h16 h17 h18) cc_X11_251 h3 h2 (by decide) rfl rfl ⟨by decide, by decide⟩ ⟨by decide, by decide⟩ rfl (Nat.le_of_ble_eq_true rfl) dX11_files_5 (fun r_5 u_5 h_5 => ?_)
  obtain ⟨q1, S1, hf_q1, hS1, hr_5, hu_5⟩ := h_5
  have hw_5 := hu_5.symm
  subst hw_5
  have hx_5 := hr_5.symm
  subst hx_5
  exact cg_iret C ⟨q1, S1, hf_q1, hS1, rfl, rfl⟩ dX11_files_8 (by decide) (by decide)
set_option maxHeartbeats 4000000 in
set_option maxRecDepth 100000 in
theorem z114_L_files (l : Launch) (hlt : l.stackTraces = false) (S : cS) (dp : Nat) (o1 o2 o3 o4 o5 : Nat) (h1 : ci S 370 o1 = (bI false)) (h2 : cK S o1 = 11) (h3 : o1 ∈ cL S) (h4 : ci S 366 o1 = (nI 0)) (h5 : cr S 355 o1 = (some o3)) (h6 : cr S 321 o3 = (some o4)) (h7 : cK S o3 = 10) (h8 : o3 ∈ cL S) (h9 : ci S 386 o4 = (nI 0)) (h10 : cK S o4 = 12) (h11 : o4 ∈ cL S) (h12 : cr S 356 o1 = none) (h13 : cr S 360 o1 = (some o5)) (h14 : ci S 386 o5 = (nI 0)) (h15 : cK S o5 = 12) (h16 : o5 ∈ cL S) (h17 : cr S 358 o1 = none) (h18 : cr S 359 o1 = none) (h19 : cK S o2 = 15) (h20 : o2 ∈ cL S) (h21 : cn S o2 = 1) : cMetW (cQi (fun r_ u_ => ∃ (q1 : Nat) (S1 : cS), q1 ∉ cL S ∧ S1 = cNewA S q1 16 0 ∧ ∃ (S2 : cS), S2 = cSJ S1 o2 0 (((nI 0)).toInt64) ∧ r_ = (nI 0) ∧ u_ = S2)) l yL_files cL_files 3 (some .int) [(0, 8, 11, 15)] 4 1 0 87 [.ref o1, .ref o2] S dp := by
  intro D Y tp sz
  refine cg_bodyW (by decide +kernel) (Nat.le_of_ble_eq_true rfl) ?_
  intro p e s m args below meth c C htab
  generalize va_A (cWd Y S) sz = A at C ⊢
  have C : cC p s m args meth c cL_files 3 (some .int) A D Y tp dp RL := C
  refine cg_lv (lv' := [(0, .ref o1), (1, .ref o2)]) rfl ?_
  refine cg_aload_n C (i := 1) rfl 1 rfl dL_files_0 ?_
  refine cg_iconst C (x := nI 0) rfl dL_files_1 ?_
  refine cg_aload_n C (i := 0) rfl 0 rfl dL_files_2 ?_
  refine cg_calli C (z113_X11_files l hlt S dp o1 o3 o4 o5 h1 h2 h3 h4 h5 h6 h7 h8 h9 h10 h11 h12 h13 h14 h15 h16 h17 h18) cc_L_72 h3 h2 (by decide) rfl rfl ⟨by decide, by decide⟩ ⟨by decide, by decide⟩ rfl (Nat.le_of_ble_eq_true rfl) dL_files_3 (fun r_3 u_3 h_3 => ?_)
  obtain ⟨q1, S1, hf_q1, hS1, hr_3, hu_3⟩ := h_3
  have hw_3 := hu_3.symm
  subst hw_3
  have hx_3 := hr_3.symm
  subst hx_3
  refine cg_i2l C dL_files_6 ?_
  refine cg_lastore C 0 (hm_A hS1 h20) (hk_A hS1 (cm_ne h20 hf_q1) h19) (by rw [show cn _ _ = 1 from (hn_A hS1 (cm_ne h20 hf_q1) h21)]; omega) (by rw [show cn _ _ = 1 from (hn_A hS1 (cm_ne h20 hf_q1) h21)]; omega) dL_files_7 ?_
  refine cg_nm (fun S2 (hS2 : S2 = cSJ S1 o2 0 (((nI 0)).toInt64)) => ?_)
  refine cg_goto C 14 (by decide) dL_files_8 ?_
  refine cg_iconst C (x := nI 0) rfl dL_files_14 ?_
  exact cg_iret C ⟨q1, S1, hf_q1, hS1, S2, hS2, rfl, rfl⟩ dL_files_15 (by decide) (by decide)
set_option maxHeartbeats 4000000 in
set_option maxRecDepth 100000 in
theorem z115_X11_writes (l : Launch) (hlt : l.stackTraces = false) (S : cS) (dp : Nat) (o1 : Nat) (h1 : ci S 368 o1 = (nI 0)) (h2 : cK S o1 = 11) (h3 : o1 ∈ cL S) : cMet (cQi (fun r_ u_ => r_ = (nI 0) ∧ u_ = S)) l yX11_writes cX11_writes 1 (some .int) 0 0 0 0 [.ref o1] S dp := by
  intro D Y tp sz
  refine cg_body (by decide +kernel) (Nat.le_of_ble_eq_true rfl) ?_
  intro p e s m args below meth c C
  generalize va_A (cWd Y S) sz = A at C ⊢
  have C : cC p s m args meth c cX11_writes 1 (some .int) A D Y tp dp RX11 := C
  refine cg_lv (lv' := [(0, .ref o1)]) rfl ?_
  refine cg_aload_n C (i := 0) rfl 0 rfl dX11_writes_0 ?_
  refine cg_get C (k := 11) (j := 16) (.int (nI 0)) h3 h2 (by decide) rfl (by decide) rfl (show cV _ 11 16 o1 = _ from congrArg Value.int h1) cWs_wsX110 cl_X11_90 rfl dX11_writes_1 ?_
  exact cg_iret C ⟨rfl, rfl⟩ dX11_writes_4 (by decide) (by decide)
set_option maxHeartbeats 4000000 in
set_option maxRecDepth 100000 in
theorem z116_X11_segments (l : Launch) (hlt : l.stackTraces = false) (S : cS) (dp : Nat) (o1 o2 o3 : Nat) (h1 : ci S 370 o1 = (bI false)) (h2 : cK S o1 = 11) (h3 : o1 ∈ cL S) (h4 : cr S 355 o1 = (some o2)) (h5 : cr S 321 o2 = (some o3)) (h6 : cK S o2 = 10) (h7 : o2 ∈ cL S) (h8 : ci S 386 o3 = (nI 0)) (h9 : cK S o3 = 12) (h10 : o3 ∈ cL S) : cMet (cQi (fun r_ u_ => r_ = (nI 0) ∧ u_ = S)) l yX11_segments cX11_segments 1 (some .int) 2 0 0 40 [.ref o1] S dp := by
  intro D Y tp sz
  refine cg_body (by decide +kernel) (Nat.le_of_ble_eq_true rfl) ?_
  intro p e s m args below meth c C
  generalize va_A (cWd Y S) sz = A at C ⊢
  have C : cC p s m args meth c cX11_segments 1 (some .int) A D Y tp dp RX11 := C
  refine cg_lv (lv' := [(0, .ref o1)]) rfl ?_
  refine cg_aload_n C (i := 0) rfl 0 rfl dX11_segments_0 ?_
  refine cg_callv C (z57_X11_checkUp l hlt S dp o1 h1 h2 h3) cc_X11_177 h3 h2 (by decide) rfl rfl ⟨by decide, by decide⟩ ⟨by decide, by decide⟩ rfl (Nat.le_of_ble_eq_true rfl) dX11_segments_1 (fun u_1 h_1 => ?_)
  have hu_1 := h_1
  have hw_1 := hu_1.symm
  subst hw_1
  refine cg_aload_n C (i := 0) rfl 0 rfl dX11_segments_4 ?_
  refine cg_get C (k := 11) (j := 3) (.ref o2) h3 h2 (by decide) rfl (by decide) rfl (show cV _ 11 3 o1 = _ from congrArg va_rf h4) cWs_wsX110 cl_X11_35 rfl dX11_segments_5 ?_
  refine cg_calli C (z94_X10_size l hlt S dp o2 o3 h5 h6 h7 h8 h9 h10) cc_X11_240 h7 h6 (by decide) rfl rfl ⟨by decide, by decide⟩ ⟨by decide, by decide⟩ rfl (Nat.le_of_ble_eq_true rfl) dX11_segments_8 (fun r_8 u_8 h_8 => ?_)
  obtain ⟨hr_8, hu_8⟩ := h_8
  have hw_8 := hu_8.symm
  subst hw_8
  have hx_8 := hr_8.symm
  subst hx_8
  exact cg_iret C ⟨rfl, rfl⟩ dX11_segments_11 (by decide) (by decide)
set_option maxHeartbeats 4000000 in
set_option maxRecDepth 100000 in
theorem z117_L_segments (l : Launch) (hlt : l.stackTraces = false) (S : cS) (dp : Nat) (o1 o2 o3 o4 : Nat) (h1 : ci S 370 o1 = (bI false)) (h2 : cK S o1 = 11) (h3 : o1 ∈ cL S) (h4 : cr S 355 o1 = (some o3)) (h5 : cr S 321 o3 = (some o4)) (h6 : cK S o3 = 10) (h7 : o3 ∈ cL S) (h8 : ci S 386 o4 = (nI 0)) (h9 : cK S o4 = 12) (h10 : o4 ∈ cL S) (h11 : cK S o2 = 15) (h12 : cn S o2 = 1) (h13 : o2 ∈ cL S) : cMetW (cQi (fun r_ u_ => ∃ (S1 : cS), S1 = cSJ S o2 0 (((nI 0)).toInt64) ∧ r_ = (nI 0) ∧ u_ = S1)) l yL_segments cL_segments 3 (some .int) [(0, 8, 11, 15)] 3 0 0 60 [.ref o1, .ref o2] S dp := by
  intro D Y tp sz
  refine cg_bodyW (by decide +kernel) (Nat.le_of_ble_eq_true rfl) ?_
  intro p e s m args below meth c C htab
  generalize va_A (cWd Y S) sz = A at C ⊢
  have C : cC p s m args meth c cL_segments 3 (some .int) A D Y tp dp RL := C
  refine cg_lv (lv' := [(0, .ref o1), (1, .ref o2)]) rfl ?_
  refine cg_aload_n C (i := 1) rfl 1 rfl dL_segments_0 ?_
  refine cg_iconst C (x := nI 0) rfl dL_segments_1 ?_
  refine cg_aload_n C (i := 0) rfl 0 rfl dL_segments_2 ?_
  refine cg_calli C (z116_X11_segments l hlt S dp o1 o3 o4 h1 h2 h3 h4 h5 h6 h7 h8 h9 h10) cc_L_75 h3 h2 (by decide) rfl rfl ⟨by decide, by decide⟩ ⟨by decide, by decide⟩ rfl (Nat.le_of_ble_eq_true rfl) dL_segments_3 (fun r_3 u_3 h_3 => ?_)
  obtain ⟨hr_3, hu_3⟩ := h_3
  have hw_3 := hu_3.symm
  subst hw_3
  have hx_3 := hr_3.symm
  subst hx_3
  refine cg_i2l C dL_segments_6 ?_
  refine cg_lastore C 0 h13 h11 (by rw [show cn _ _ = 1 from h12]; omega) (by rw [show cn _ _ = 1 from h12]; omega) dL_segments_7 ?_
  refine cg_nm (fun S1 (hS1 : S1 = cSJ S o2 0 (((nI 0)).toInt64)) => ?_)
  refine cg_goto C 14 (by decide) dL_segments_8 ?_
  refine cg_iconst C (x := nI 0) rfl dL_segments_14 ?_
  exact cg_iret C ⟨S1, hS1, rfl, rfl⟩ dL_segments_15 (by decide) (by decide)
set_option maxHeartbeats 4000000 in
set_option maxRecDepth 100000 in
theorem z118_X10_at (l : Launch) (hlt : l.stackTraces = false) (S : cS) (dp : Nat) (o1 : Nat) (x1 : Int32) (h1 : x1 < 0) : cMet (cQq (fun r_ u_ => r_ = none ∧ u_ = S)) l yX10_at cX10_at 2 (some (.object "SearchMill$Holding")) 0 0 0 0 [.ref o1, .int x1] S dp := by
  intro D Y tp sz
  refine cg_body (by decide +kernel) (Nat.le_of_ble_eq_true rfl) ?_
  intro p e s m args below meth c C
  generalize va_A (cWd Y S) sz = A at C ⊢
  have C : cC p s m args meth c cX10_at 2 (some (.object "SearchMill$Holding")) A D Y tp dp RX10 := C
  refine cg_lv (lv' := [(0, .ref o1), (1, .int x1)]) rfl ?_
  refine cg_iload_n C (i := 1) rfl 1 rfl dX10_at_0 ?_
  refine cg_if_lt C 15 (by decide) dX10_at_1 (fun c_1 => ?_) (fun c_ => absurd (cneg0_lt h1) c_)
  refine cg_null C dX10_at_15 ?_
  refine cg_goto C 30 (by decide) dX10_at_16 ?_
  exact cg_anret C rfl (by first | exact Or.inl ⟨_, rfl⟩ | exact Or.inr ⟨_, rfl⟩) ⟨rfl, rfl⟩ dX10_at_30 (by decide) (by decide)
set_option maxHeartbeats 4000000 in
set_option maxRecDepth 100000 in
theorem z119_X11_holdingAt (l : Launch) (hlt : l.stackTraces = false) (S : cS) (dp : Nat) (o1 o2 : Nat) (x1 : Int32) (h1 : x1 < 0) (h2 : cr S 355 o1 = (some o2)) (h3 : cK S o1 = 11) (h4 : o1 ∈ cL S) (h5 : o2 ∈ cL S) (h6 : cK S o2 = 10) (h7 : ci S 370 o1 = (bI false)) : cMetX "java/lang/IndexOutOfBoundsException" (fun u_ => u_ = S) l yX11_holdingAt cX11_holdingAt 3 (some (.object "SearchMill$Holding")) 6 1 6 82 [.ref o1, .int x1] S dp := by
  intro D Y tp sz
  refine cg_bodyX (by decide +kernel) (Nat.le_of_ble_eq_true rfl) ?_
  intro p e s m args below meth c C hne
  generalize va_A (cWd Y S) sz = A at C ⊢
  have C : cC p s m args meth c cX11_holdingAt 3 (some (.object "SearchMill$Holding")) A D Y tp dp RX11 := C
  refine cg_lv (lv' := [(0, .ref o1), (1, .int x1)]) rfl ?_
  refine cg_aload_n C (i := 0) rfl 0 rfl dX11_holdingAt_0 ?_
  refine cg_get C (k := 11) (j := 3) (.ref o2) h4 h3 (by decide) rfl (by decide) rfl (show cV _ 11 3 o1 = _ from congrArg va_rf h2) cWs_wsX110 cl_X11_35 rfl dX11_holdingAt_1 ?_
  refine cg_iload_n C (i := 1) rfl 1 rfl dX11_holdingAt_4 ?_
  refine cg_callq C (z118_X10_at l hlt S dp o2 x1 h1) cc_X11_478 h5 h6 (by decide) rfl rfl ⟨by decide, by decide⟩ ⟨by decide, by decide⟩ rfl (Nat.le_of_ble_eq_true rfl) dX11_holdingAt_5 (fun r_5 u_5 h_5 => ?_)
  obtain ⟨hr_5, hu_5⟩ := h_5
  have hw_5 := hu_5.symm
  subst hw_5
  have hx_5 := hr_5.symm
  subst hx_5
  refine cg_astoreN_n (lv' := [(2, .null), (0, .ref o1), (1, .int x1)]) C (i := 2) rfl (Nat.le_of_ble_eq_true rfl) rfl dX11_holdingAt_8 ?_
  refine cg_aload_n C (i := 0) rfl 1 rfl dX11_holdingAt_9 ?_
  refine cg_get C (k := 11) (j := 18) (.int (bI false)) h4 h3 (by decide) rfl (by decide) rfl (show cV _ 11 18 o1 = _ from congrArg Value.int h7) cWs_wsX110 cl_X11_96 rfl dX11_holdingAt_10 ?_
  refine cg_if_neB C 20 (by decide) dX11_holdingAt_13 (fun c_ => absurd c_ (by decide)) (fun c_13 => ?_)
  refine cg_aloadN_n C (i := 2) rfl 0 rfl dX11_holdingAt_16 ?_
  refine cg_ifnonnullN C dX11_holdingAt_17 ?_
  exact cg_throw3W C hlt hne "there is no such place" ce_X11_269 cei_3 (by decide) dX11_holdingAt_20 dX11_holdingAt_23 dX11_holdingAt_24 dX11_holdingAt_27 dX11_holdingAt_30 (by decide) (by decide) ⟨by decide, by decide⟩ ⟨by decide, by decide⟩ rfl
set_option maxHeartbeats 4000000 in
set_option maxRecDepth 100000 in
theorem z120_X11_segmentAt (l : Launch) (hlt : l.stackTraces = false) (S : cS) (dp : Nat) (o1 o2 : Nat) (x1 : Int32) (h1 : x1 < 0) (h2 : cr S 355 o1 = (some o2)) (h3 : cK S o1 = 11) (h4 : o1 ∈ cL S) (h5 : o2 ∈ cL S) (h6 : cK S o2 = 10) (h7 : ci S 370 o1 = (bI false)) : cMetX "java/lang/IndexOutOfBoundsException" (fun u_ => u_ = S) l yX11_segmentAt cX11_segmentAt 2 (some .int) 7 1 6 104 [.ref o1, .int x1] S dp := by
  intro D Y tp sz
  refine cg_bodyX (by decide +kernel) (Nat.le_of_ble_eq_true rfl) ?_
  intro p e s m args below meth c C hne
  generalize va_A (cWd Y S) sz = A at C ⊢
  have C : cC p s m args meth c cX11_segmentAt 2 (some .int) A D Y tp dp RX11 := C
  refine cg_lv (lv' := [(0, .ref o1), (1, .int x1)]) rfl ?_
  refine cg_aload_n C (i := 0) rfl 0 rfl dX11_segmentAt_0 ?_
  refine cg_iload_n C (i := 1) rfl 1 rfl dX11_segmentAt_1 ?_
  exact cg_callx C hne (z119_X11_holdingAt l hlt S dp o1 o2 x1 h1 h2 h3 h4 h5 h6 h7) cc_X11_254 h4 h3 (by decide) rfl rfl ⟨by decide, by decide⟩ ⟨by decide, by decide⟩ rfl (Nat.le_of_ble_eq_true rfl) dX11_segmentAt_2 ⟨by decide, by decide⟩ (fun u_ h_ => by
      have hu_ := h_
      exact hu_)
set_option maxHeartbeats 4000000 in
set_option maxRecDepth 100000 in
theorem z121_L_segmentAt (l : Launch) (hlt : l.stackTraces = false) (S : cS) (dp : Nat) (o1 o2 o3 : Nat) (x1 : Int32) (h1 : x1 < 0) (h2 : cr S 355 o1 = (some o3)) (h3 : cK S o1 = 11) (h4 : o1 ∈ cL S) (h5 : o3 ∈ cL S) (h6 : cK S o3 = 10) (h7 : ci S 370 o1 = (bI false)) : cMetW (cQi (fun r_ u_ => r_ = (nI 1) ∧ u_ = S)) l yL_segmentAt cL_segmentAt 4 (some .int) [(0, 9, 12, 28)] 8 1 6 125 [.ref o1, .int x1, .ref o2] S dp := by
  intro D Y tp sz
  refine cg_bodyW (by decide +kernel) (Nat.le_of_ble_eq_true rfl) ?_
  intro p e s m args below meth c C htab
  generalize va_A (cWd Y S) sz = A at C ⊢
  have C : cC p s m args meth c cL_segmentAt 4 (some .int) A D Y tp dp RL := C
  refine cg_lv (lv' := [(0, .ref o1), (1, .int x1), (2, .ref o2)]) rfl ?_
  refine cg_aload_n C (i := 2) rfl 2 rfl dL_segmentAt_0 ?_
  refine cg_iconst C (x := nI 0) rfl dL_segmentAt_1 ?_
  refine cg_aload_n C (i := 0) rfl 0 rfl dL_segmentAt_2 ?_
  refine cg_iload_n C (i := 1) rfl 1 rfl dL_segmentAt_3 ?_
  refine cg_callx_catch C htab (z120_X11_segmentAt l hlt S dp o1 o3 x1 h1 h2 h3 h4 h5 h6 h7) cc_L_78 h4 h3 (by decide) rfl rfl ⟨by decide, by decide⟩ ⟨by decide, by decide⟩ rfl (Nat.le_of_ble_eq_true rfl) dL_segmentAt_4 (tableOf []) ⟨0, 9, 12, 28⟩ (tableOf []) rfl (fun z hz => nomatch hz) (by decide) (by decide) (name := "java/lang/IndexOutOfBoundsException") ce_L_28 (by decide) 12 rfl (fun x_4 u_4 h_4 => ?_)
  have hu_4 := h_4
  have hw_4 := hu_4.symm
  subst hw_4
  refine cg_astore_n (lv' := [(3, .ref x_4), (0, .ref o1), (1, .int x1), (2, .ref o2)]) C (i := 3) rfl (Nat.le_of_ble_eq_true rfl) rfl dL_segmentAt_12 ?_
  refine cg_iconst C (x := nI 1) rfl dL_segmentAt_13 ?_
  exact cg_iret C ⟨rfl, rfl⟩ dL_segmentAt_14 (by decide) (by decide)
set_option maxHeartbeats 4000000 in
set_option maxRecDepth 100000 in
theorem z122_X10_at (l : Launch) (hlt : l.stackTraces = false) (S : cS) (dp : Nat) (o1 o2 : Nat) (n1 : Nat) (h1 : n1 ≤ 2147483647) (h2 : cr S 321 o1 = (some o2)) (h3 : cK S o1 = 10) (h4 : o1 ∈ cL S) (h5 : ci S 386 o2 = (nI 0)) (h6 : cK S o2 = 12) (h7 : o2 ∈ cL S) : cMet (cQq (fun r_ u_ => r_ = none ∧ u_ = S)) l yX10_at cX10_at 2 (some (.object "SearchMill$Holding")) 1 0 0 20 [.ref o1, .int (nI n1)] S dp := by
  intro D Y tp sz
  refine cg_body (by decide +kernel) (Nat.le_of_ble_eq_true rfl) ?_
  intro p e s m args below meth c C
  generalize va_A (cWd Y S) sz = A at C ⊢
  have C : cC p s m args meth c cX10_at 2 (some (.object "SearchMill$Holding")) A D Y tp dp RX10 := C
  refine cg_lv (lv' := [(0, .ref o1), (1, .int (nI n1))]) rfl ?_
  refine cg_iload_n C (i := 1) rfl 1 rfl dX10_at_0 ?_
  refine cg_if_ltN C (by omega) 15 (by decide) dX10_at_1 ?_
  refine cg_iload_n C (i := 1) rfl 1 rfl dX10_at_4 ?_
  refine cg_aload_n C (i := 0) rfl 0 rfl dX10_at_5 ?_
  refine cg_get C (k := 10) (j := 1) (.ref o2) h4 h3 (by decide) rfl (by decide) rfl (show cV _ 10 1 o1 = _ from congrArg va_rf h2) cWs_wsX100 cl_X10_12 rfl dX10_at_6 ?_
  refine cg_calli C (z58_Jx4a65c_size_8abf5 l hlt S dp o2 h5 h6 h7) cc_X10_22 h7 h6 (by decide) rfl rfl ⟨by decide, by decide⟩ ⟨by decide, by decide⟩ rfl (Nat.le_of_ble_eq_true rfl) dX10_at_9 (fun r_9 u_9 h_9 => ?_)
  obtain ⟨hr_9, hu_9⟩ := h_9
  have hw_9 := hu_9.symm
  subst hw_9
  have hx_9 := hr_9.symm
  subst hx_9
  refine cg_icmp_ltN C (by omega) (by omega) 19 (by decide) dX10_at_12 (fun c_ => absurd c_ (by omega)) (fun c_12 => ?_)
  refine cg_null C dX10_at_15 ?_
  refine cg_goto C 30 (by decide) dX10_at_16 ?_
  exact cg_anret C rfl (by first | exact Or.inl ⟨_, rfl⟩ | exact Or.inr ⟨_, rfl⟩) ⟨rfl, rfl⟩ dX10_at_30 (by decide) (by decide)
set_option maxHeartbeats 4000000 in
set_option maxRecDepth 100000 in
theorem z123_X11_holdingAt (l : Launch) (hlt : l.stackTraces = false) (S : cS) (dp : Nat) (o1 o2 o3 : Nat) (n1 : Nat) (h1 : n1 ≤ 2147483647) (h2 : cr S 355 o1 = (some o2)) (h3 : cK S o1 = 11) (h4 : o1 ∈ cL S) (h5 : cr S 321 o2 = (some o3)) (h6 : cK S o2 = 10) (h7 : o2 ∈ cL S) (h8 : ci S 386 o3 = (nI 0)) (h9 : cK S o3 = 12) (h10 : o3 ∈ cL S) (h11 : ci S 370 o1 = (bI false)) : cMetX "java/lang/IndexOutOfBoundsException" (fun u_ => u_ = S) l yX11_holdingAt cX11_holdingAt 3 (some (.object "SearchMill$Holding")) 6 1 6 82 [.ref o1, .int (nI n1)] S dp := by
  intro D Y tp sz
  refine cg_bodyX (by decide +kernel) (Nat.le_of_ble_eq_true rfl) ?_
  intro p e s m args below meth c C hne
  generalize va_A (cWd Y S) sz = A at C ⊢
  have C : cC p s m args meth c cX11_holdingAt 3 (some (.object "SearchMill$Holding")) A D Y tp dp RX11 := C
  refine cg_lv (lv' := [(0, .ref o1), (1, .int (nI n1))]) rfl ?_
  refine cg_aload_n C (i := 0) rfl 0 rfl dX11_holdingAt_0 ?_
  refine cg_get C (k := 11) (j := 3) (.ref o2) h4 h3 (by decide) rfl (by decide) rfl (show cV _ 11 3 o1 = _ from congrArg va_rf h2) cWs_wsX110 cl_X11_35 rfl dX11_holdingAt_1 ?_
  refine cg_iload_n C (i := 1) rfl 1 rfl dX11_holdingAt_4 ?_
  refine cg_callq C (z122_X10_at l hlt S dp o2 o3 n1 (by omega) h5 h6 h7 h8 h9 h10) cc_X11_478 h7 h6 (by decide) rfl rfl ⟨by decide, by decide⟩ ⟨by decide, by decide⟩ rfl (Nat.le_of_ble_eq_true rfl) dX11_holdingAt_5 (fun r_5 u_5 h_5 => ?_)
  obtain ⟨hr_5, hu_5⟩ := h_5
  have hw_5 := hu_5.symm
  subst hw_5
  have hx_5 := hr_5.symm
  subst hx_5
  refine cg_astoreN_n (lv' := [(2, .null), (0, .ref o1), (1, .int (nI n1))]) C (i := 2) rfl (Nat.le_of_ble_eq_true rfl) rfl dX11_holdingAt_8 ?_
  refine cg_aload_n C (i := 0) rfl 1 rfl dX11_holdingAt_9 ?_
  refine cg_get C (k := 11) (j := 18) (.int (bI false)) h4 h3 (by decide) rfl (by decide) rfl (show cV _ 11 18 o1 = _ from congrArg Value.int h11) cWs_wsX110 cl_X11_96 rfl dX11_holdingAt_10 ?_
  refine cg_if_neB C 20 (by decide) dX11_holdingAt_13 (fun c_ => absurd c_ (by decide)) (fun c_13 => ?_)
  refine cg_aloadN_n C (i := 2) rfl 0 rfl dX11_holdingAt_16 ?_
  refine cg_ifnonnullN C dX11_holdingAt_17 ?_
  exact cg_throw3W C hlt hne "there is no such place" ce_X11_269 cei_3 (by decide) dX11_holdingAt_20 dX11_holdingAt_23 dX11_holdingAt_24 dX11_holdingAt_27 dX11_holdingAt_30 (by decide) (by decide) ⟨by decide, by decide⟩ ⟨by decide, by decide⟩ rfl
set_option maxHeartbeats 4000000 in
set_option maxRecDepth 100000 in
theorem z124_X11_segmentAt (l : Launch) (hlt : l.stackTraces = false) (S : cS) (dp : Nat) (o1 o2 o3 : Nat) (n1 : Nat) (h1 : n1 ≤ 2147483647) (h2 : cr S 355 o1 = (some o2)) (h3 : cK S o1 = 11) (h4 : o1 ∈ cL S) (h5 : cr S 321 o2 = (some o3)) (h6 : cK S o2 = 10) (h7 : o2 ∈ cL S) (h8 : ci S 386 o3 = (nI 0)) (h9 : cK S o3 = 12) (h10 : o3 ∈ cL S) (h11 : ci S 370 o1 = (bI false)) : cMetX "java/lang/IndexOutOfBoundsException" (fun u_ => u_ = S) l yX11_segmentAt cX11_segmentAt 2 (some .int) 7 1 6 104 [.ref o1, .int (nI n1)] S dp := by
  intro D Y tp sz
  refine cg_bodyX (by decide +kernel) (Nat.le_of_ble_eq_true rfl) ?_
  intro p e s m args below meth c C hne
  generalize va_A (cWd Y S) sz = A at C ⊢
  have C : cC p s m args meth c cX11_segmentAt 2 (some .int) A D Y tp dp RX11 := C
  refine cg_lv (lv' := [(0, .ref o1), (1, .int (nI n1))]) rfl ?_
  refine cg_aload_n C (i := 0) rfl 0 rfl dX11_segmentAt_0 ?_
  refine cg_iload_n C (i := 1) rfl 1 rfl dX11_segmentAt_1 ?_
  exact cg_callx C hne (z123_X11_holdingAt l hlt S dp o1 o2 o3 n1 (by omega) h2 h3 h4 h5 h6 h7 h8 h9 h10 h11) cc_X11_254 h4 h3 (by decide) rfl rfl ⟨by decide, by decide⟩ ⟨by decide, by decide⟩ rfl (Nat.le_of_ble_eq_true rfl) dX11_segmentAt_2 ⟨by decide, by decide⟩ (fun u_ h_ => by
      have hu_ := h_
      exact hu_)
set_option maxHeartbeats 4000000 in
set_option maxRecDepth 100000 in
theorem z125_L_segmentAt (l : Launch) (hlt : l.stackTraces = false) (S : cS) (dp : Nat) (o1 o2 o3 o4 : Nat) (n1 : Nat) (h1 : n1 ≤ 2147483647) (h2 : cr S 355 o1 = (some o3)) (h3 : cK S o1 = 11) (h4 : o1 ∈ cL S) (h5 : cr S 321 o3 = (some o4)) (h6 : cK S o3 = 10) (h7 : o3 ∈ cL S) (h8 : ci S 386 o4 = (nI 0)) (h9 : cK S o4 = 12) (h10 : o4 ∈ cL S) (h11 : ci S 370 o1 = (bI false)) : cMetW (cQi (fun r_ u_ => r_ = (nI 1) ∧ u_ = S)) l yL_segmentAt cL_segmentAt 4 (some .int) [(0, 9, 12, 28)] 8 1 6 125 [.ref o1, .int (nI n1), .ref o2] S dp := by
  intro D Y tp sz
  refine cg_bodyW (by decide +kernel) (Nat.le_of_ble_eq_true rfl) ?_
  intro p e s m args below meth c C htab
  generalize va_A (cWd Y S) sz = A at C ⊢
  have C : cC p s m args meth c cL_segmentAt 4 (some .int) A D Y tp dp RL := C
  refine cg_lv (lv' := [(0, .ref o1), (1, .int (nI n1)), (2, .ref o2)]) rfl ?_
  refine cg_aload_n C (i := 2) rfl 2 rfl dL_segmentAt_0 ?_
  refine cg_iconst C (x := nI 0) rfl dL_segmentAt_1 ?_
  refine cg_aload_n C (i := 0) rfl 0 rfl dL_segmentAt_2 ?_
  refine cg_iload_n C (i := 1) rfl 1 rfl dL_segmentAt_3 ?_
  refine cg_callx_catch C htab (z124_X11_segmentAt l hlt S dp o1 o3 o4 n1 (by omega) h2 h3 h4 h5 h6 h7 h8 h9 h10 h11) cc_L_78 h4 h3 (by decide) rfl rfl ⟨by decide, by decide⟩ ⟨by decide, by decide⟩ rfl (Nat.le_of_ble_eq_true rfl) dL_segmentAt_4 (tableOf []) ⟨0, 9, 12, 28⟩ (tableOf []) rfl (fun z hz => nomatch hz) (by decide) (by decide) (name := "java/lang/IndexOutOfBoundsException") ce_L_28 (by decide) 12 rfl (fun x_4 u_4 h_4 => ?_)
  have hu_4 := h_4
  have hw_4 := hu_4.symm
  subst hw_4
  refine cg_astore_n (lv' := [(3, .ref x_4), (0, .ref o1), (1, .int (nI n1)), (2, .ref o2)]) C (i := 3) rfl (Nat.le_of_ble_eq_true rfl) rfl dL_segmentAt_12 ?_
  refine cg_iconst C (x := nI 1) rfl dL_segmentAt_13 ?_
  exact cg_iret C ⟨rfl, rfl⟩ dL_segmentAt_14 (by decide) (by decide)
set_option maxHeartbeats 4000000 in
set_option maxRecDepth 100000 in
theorem z126_X11_live (l : Launch) (hlt : l.stackTraces = false) (S : cS) (dp : Nat) (o1 o2 : Nat) (x1 : Int32) (h1 : x1 < 0) (h2 : cr S 355 o1 = (some o2)) (h3 : cK S o1 = 11) (h4 : o1 ∈ cL S) (h5 : o2 ∈ cL S) (h6 : cK S o2 = 10) (h7 : ci S 370 o1 = (bI false)) : cMetX "java/lang/IndexOutOfBoundsException" (fun u_ => u_ = S) l yX11_live cX11_live 2 (some .int) 7 1 6 104 [.ref o1, .int x1] S dp := by
  intro D Y tp sz
  refine cg_bodyX (by decide +kernel) (Nat.le_of_ble_eq_true rfl) ?_
  intro p e s m args below meth c C hne
  generalize va_A (cWd Y S) sz = A at C ⊢
  have C : cC p s m args meth c cX11_live 2 (some .int) A D Y tp dp RX11 := C
  refine cg_lv (lv' := [(0, .ref o1), (1, .int x1)]) rfl ?_
  refine cg_aload_n C (i := 0) rfl 0 rfl dX11_live_0 ?_
  refine cg_iload_n C (i := 1) rfl 1 rfl dX11_live_1 ?_
  exact cg_callx C hne (z119_X11_holdingAt l hlt S dp o1 o2 x1 h1 h2 h3 h4 h5 h6 h7) cc_X11_254 h4 h3 (by decide) rfl rfl ⟨by decide, by decide⟩ ⟨by decide, by decide⟩ rfl (Nat.le_of_ble_eq_true rfl) dX11_live_2 ⟨by decide, by decide⟩ (fun u_ h_ => by
      have hu_ := h_
      exact hu_)
set_option maxHeartbeats 4000000 in
set_option maxRecDepth 100000 in
theorem z127_L_live (l : Launch) (hlt : l.stackTraces = false) (S : cS) (dp : Nat) (o1 o2 o3 : Nat) (x1 : Int32) (h1 : x1 < 0) (h2 : cr S 355 o1 = (some o3)) (h3 : cK S o1 = 11) (h4 : o1 ∈ cL S) (h5 : o3 ∈ cL S) (h6 : cK S o3 = 10) (h7 : ci S 370 o1 = (bI false)) : cMetW (cQi (fun r_ u_ => r_ = (nI 1) ∧ u_ = S)) l yL_live cL_live 4 (some .int) [(0, 9, 12, 28)] 8 1 6 125 [.ref o1, .int x1, .ref o2] S dp := by
  intro D Y tp sz
  refine cg_bodyW (by decide +kernel) (Nat.le_of_ble_eq_true rfl) ?_
  intro p e s m args below meth c C htab
  generalize va_A (cWd Y S) sz = A at C ⊢
  have C : cC p s m args meth c cL_live 4 (some .int) A D Y tp dp RL := C
  refine cg_lv (lv' := [(0, .ref o1), (1, .int x1), (2, .ref o2)]) rfl ?_
  refine cg_aload_n C (i := 2) rfl 2 rfl dL_live_0 ?_
  refine cg_iconst C (x := nI 0) rfl dL_live_1 ?_
  refine cg_aload_n C (i := 0) rfl 0 rfl dL_live_2 ?_
  refine cg_iload_n C (i := 1) rfl 1 rfl dL_live_3 ?_
  refine cg_callx_catch C htab (z126_X11_live l hlt S dp o1 o3 x1 h1 h2 h3 h4 h5 h6 h7) cc_L_81 h4 h3 (by decide) rfl rfl ⟨by decide, by decide⟩ ⟨by decide, by decide⟩ rfl (Nat.le_of_ble_eq_true rfl) dL_live_4 (tableOf []) ⟨0, 9, 12, 28⟩ (tableOf []) rfl (fun z hz => nomatch hz) (by decide) (by decide) (name := "java/lang/IndexOutOfBoundsException") ce_L_28 (by decide) 12 rfl (fun x_4 u_4 h_4 => ?_)
  have hu_4 := h_4
  have hw_4 := hu_4.symm
  subst hw_4
  refine cg_astore_n (lv' := [(3, .ref x_4), (0, .ref o1), (1, .int x1), (2, .ref o2)]) C (i := 3) rfl (Nat.le_of_ble_eq_true rfl) rfl dL_live_12 ?_
  refine cg_iconst C (x := nI 1) rfl dL_live_13 ?_
  exact cg_iret C ⟨rfl, rfl⟩ dL_live_14 (by decide) (by decide)
set_option maxHeartbeats 4000000 in
set_option maxRecDepth 100000 in
theorem z128_X11_live (l : Launch) (hlt : l.stackTraces = false) (S : cS) (dp : Nat) (o1 o2 o3 : Nat) (n1 : Nat) (h1 : n1 ≤ 2147483647) (h2 : cr S 355 o1 = (some o2)) (h3 : cK S o1 = 11) (h4 : o1 ∈ cL S) (h5 : cr S 321 o2 = (some o3)) (h6 : cK S o2 = 10) (h7 : o2 ∈ cL S) (h8 : ci S 386 o3 = (nI 0)) (h9 : cK S o3 = 12) (h10 : o3 ∈ cL S) (h11 : ci S 370 o1 = (bI false)) : cMetX "java/lang/IndexOutOfBoundsException" (fun u_ => u_ = S) l yX11_live cX11_live 2 (some .int) 7 1 6 104 [.ref o1, .int (nI n1)] S dp := by
  intro D Y tp sz
  refine cg_bodyX (by decide +kernel) (Nat.le_of_ble_eq_true rfl) ?_
  intro p e s m args below meth c C hne
  generalize va_A (cWd Y S) sz = A at C ⊢
  have C : cC p s m args meth c cX11_live 2 (some .int) A D Y tp dp RX11 := C
  refine cg_lv (lv' := [(0, .ref o1), (1, .int (nI n1))]) rfl ?_
  refine cg_aload_n C (i := 0) rfl 0 rfl dX11_live_0 ?_
  refine cg_iload_n C (i := 1) rfl 1 rfl dX11_live_1 ?_
  exact cg_callx C hne (z123_X11_holdingAt l hlt S dp o1 o2 o3 n1 (by omega) h2 h3 h4 h5 h6 h7 h8 h9 h10 h11) cc_X11_254 h4 h3 (by decide) rfl rfl ⟨by decide, by decide⟩ ⟨by decide, by decide⟩ rfl (Nat.le_of_ble_eq_true rfl) dX11_live_2 ⟨by decide, by decide⟩ (fun u_ h_ => by
      have hu_ := h_
      exact hu_)
set_option maxHeartbeats 4000000 in
set_option maxRecDepth 100000 in
theorem z129_L_live (l : Launch) (hlt : l.stackTraces = false) (S : cS) (dp : Nat) (o1 o2 o3 o4 : Nat) (n1 : Nat) (h1 : n1 ≤ 2147483647) (h2 : cr S 355 o1 = (some o3)) (h3 : cK S o1 = 11) (h4 : o1 ∈ cL S) (h5 : cr S 321 o3 = (some o4)) (h6 : cK S o3 = 10) (h7 : o3 ∈ cL S) (h8 : ci S 386 o4 = (nI 0)) (h9 : cK S o4 = 12) (h10 : o4 ∈ cL S) (h11 : ci S 370 o1 = (bI false)) : cMetW (cQi (fun r_ u_ => r_ = (nI 1) ∧ u_ = S)) l yL_live cL_live 4 (some .int) [(0, 9, 12, 28)] 8 1 6 125 [.ref o1, .int (nI n1), .ref o2] S dp := by
  intro D Y tp sz
  refine cg_bodyW (by decide +kernel) (Nat.le_of_ble_eq_true rfl) ?_
  intro p e s m args below meth c C htab
  generalize va_A (cWd Y S) sz = A at C ⊢
  have C : cC p s m args meth c cL_live 4 (some .int) A D Y tp dp RL := C
  refine cg_lv (lv' := [(0, .ref o1), (1, .int (nI n1)), (2, .ref o2)]) rfl ?_
  refine cg_aload_n C (i := 2) rfl 2 rfl dL_live_0 ?_
  refine cg_iconst C (x := nI 0) rfl dL_live_1 ?_
  refine cg_aload_n C (i := 0) rfl 0 rfl dL_live_2 ?_
  refine cg_iload_n C (i := 1) rfl 1 rfl dL_live_3 ?_
  refine cg_callx_catch C htab (z128_X11_live l hlt S dp o1 o3 o4 n1 (by omega) h2 h3 h4 h5 h6 h7 h8 h9 h10 h11) cc_L_81 h4 h3 (by decide) rfl rfl ⟨by decide, by decide⟩ ⟨by decide, by decide⟩ rfl (Nat.le_of_ble_eq_true rfl) dL_live_4 (tableOf []) ⟨0, 9, 12, 28⟩ (tableOf []) rfl (fun z hz => nomatch hz) (by decide) (by decide) (name := "java/lang/IndexOutOfBoundsException") ce_L_28 (by decide) 12 rfl (fun x_4 u_4 h_4 => ?_)
  have hu_4 := h_4
  have hw_4 := hu_4.symm
  subst hw_4
  refine cg_astore_n (lv' := [(3, .ref x_4), (0, .ref o1), (1, .int (nI n1)), (2, .ref o2)]) C (i := 3) rfl (Nat.le_of_ble_eq_true rfl) rfl dL_live_12 ?_
  refine cg_iconst C (x := nI 1) rfl dL_live_13 ?_
  exact cg_iret C ⟨rfl, rfl⟩ dL_live_14 (by decide) (by decide)
set_option maxHeartbeats 4000000 in
set_option maxRecDepth 100000 in
theorem z130_X11_keyAt (l : Launch) (hlt : l.stackTraces = false) (S : cS) (dp : Nat) (o1 o2 : Nat) (x1 x2 : Int32) (h1 : x1 < 0) (h2 : cr S 355 o1 = (some o2)) (h3 : cK S o1 = 11) (h4 : o1 ∈ cL S) (h5 : o2 ∈ cL S) (h6 : cK S o2 = 10) (h7 : ci S 370 o1 = (bI false)) : cMetX "java/lang/IndexOutOfBoundsException" (fun u_ => u_ = S) l yX11_keyAt cX11_keyAt 4 (some .int) 7 1 6 104 [.ref o1, .int x1, .int x2] S dp := by
  intro D Y tp sz
  refine cg_bodyX (by decide +kernel) (Nat.le_of_ble_eq_true rfl) ?_
  intro p e s m args below meth c C hne
  generalize va_A (cWd Y S) sz = A at C ⊢
  have C : cC p s m args meth c cX11_keyAt 4 (some .int) A D Y tp dp RX11 := C
  refine cg_lv (lv' := [(0, .ref o1), (1, .int x1), (2, .int x2)]) rfl ?_
  refine cg_aload_n C (i := 0) rfl 0 rfl dX11_keyAt_0 ?_
  refine cg_iload_n C (i := 1) rfl 1 rfl dX11_keyAt_1 ?_
  exact cg_callx C hne (z119_X11_holdingAt l hlt S dp o1 o2 x1 h1 h2 h3 h4 h5 h6 h7) cc_X11_254 h4 h3 (by decide) rfl rfl ⟨by decide, by decide⟩ ⟨by decide, by decide⟩ rfl (Nat.le_of_ble_eq_true rfl) dX11_keyAt_2 ⟨by decide, by decide⟩ (fun u_ h_ => by
      have hu_ := h_
      exact hu_)
set_option maxHeartbeats 4000000 in
set_option maxRecDepth 100000 in
theorem z131_L_keyAt (l : Launch) (hlt : l.stackTraces = false) (S : cS) (dp : Nat) (o1 o2 o3 : Nat) (x1 x2 : Int32) (h1 : x1 < 0) (h2 : cr S 355 o1 = (some o3)) (h3 : cK S o1 = 11) (h4 : o1 ∈ cL S) (h5 : o3 ∈ cL S) (h6 : cK S o3 = 10) (h7 : ci S 370 o1 = (bI false)) : cMetW (cQi (fun r_ u_ => r_ = (nI 1) ∧ u_ = S)) l yL_keyAt cL_keyAt 5 (some .int) [(0, 10, 13, 28)] 8 1 6 127 [.ref o1, .int x1, .int x2, .ref o2] S dp := by
  intro D Y tp sz
  refine cg_bodyW (by decide +kernel) (Nat.le_of_ble_eq_true rfl) ?_
  intro p e s m args below meth c C htab
  generalize va_A (cWd Y S) sz = A at C ⊢
  have C : cC p s m args meth c cL_keyAt 5 (some .int) A D Y tp dp RL := C
  refine cg_lv (lv' := [(0, .ref o1), (1, .int x1), (2, .int x2), (3, .ref o2)]) rfl ?_
  refine cg_aload_n C (i := 3) rfl 3 rfl dL_keyAt_0 ?_
  refine cg_iconst C (x := nI 0) rfl dL_keyAt_1 ?_
  refine cg_aload_n C (i := 0) rfl 0 rfl dL_keyAt_2 ?_
  refine cg_iload_n C (i := 1) rfl 1 rfl dL_keyAt_3 ?_
  refine cg_iload_n C (i := 2) rfl 2 rfl dL_keyAt_4 ?_
  refine cg_callx_catch C htab (z130_X11_keyAt l hlt S dp o1 o3 x1 x2 h1 h2 h3 h4 h5 h6 h7) cc_L_84 h4 h3 (by decide) rfl rfl ⟨by decide, by decide⟩ ⟨by decide, by decide⟩ rfl (Nat.le_of_ble_eq_true rfl) dL_keyAt_5 (tableOf []) ⟨0, 10, 13, 28⟩ (tableOf []) rfl (fun z hz => nomatch hz) (by decide) (by decide) (name := "java/lang/IndexOutOfBoundsException") ce_L_28 (by decide) 13 rfl (fun x_5 u_5 h_5 => ?_)
  have hu_5 := h_5
  have hw_5 := hu_5.symm
  subst hw_5
  refine cg_astore (lv' := [(4, .ref x_5), (0, .ref o1), (1, .int x1), (2, .int x2), (3, .ref o2)]) C (Nat.le_of_ble_eq_true rfl) rfl dL_keyAt_13 ?_
  refine cg_iconst C (x := nI 1) rfl dL_keyAt_15 ?_
  exact cg_iret C ⟨rfl, rfl⟩ dL_keyAt_16 (by decide) (by decide)
set_option maxHeartbeats 4000000 in
set_option maxRecDepth 100000 in
theorem z132_X11_keyAt (l : Launch) (hlt : l.stackTraces = false) (S : cS) (dp : Nat) (o1 o2 o3 : Nat) (n1 : Nat) (x1 : Int32) (h1 : n1 ≤ 2147483647) (h2 : cr S 355 o1 = (some o2)) (h3 : cK S o1 = 11) (h4 : o1 ∈ cL S) (h5 : cr S 321 o2 = (some o3)) (h6 : cK S o2 = 10) (h7 : o2 ∈ cL S) (h8 : ci S 386 o3 = (nI 0)) (h9 : cK S o3 = 12) (h10 : o3 ∈ cL S) (h11 : ci S 370 o1 = (bI false)) : cMetX "java/lang/IndexOutOfBoundsException" (fun u_ => u_ = S) l yX11_keyAt cX11_keyAt 4 (some .int) 7 1 6 104 [.ref o1, .int (nI n1), .int x1] S dp := by
  intro D Y tp sz
  refine cg_bodyX (by decide +kernel) (Nat.le_of_ble_eq_true rfl) ?_
  intro p e s m args below meth c C hne
  generalize va_A (cWd Y S) sz = A at C ⊢
  have C : cC p s m args meth c cX11_keyAt 4 (some .int) A D Y tp dp RX11 := C
  refine cg_lv (lv' := [(0, .ref o1), (1, .int (nI n1)), (2, .int x1)]) rfl ?_
  refine cg_aload_n C (i := 0) rfl 0 rfl dX11_keyAt_0 ?_
  refine cg_iload_n C (i := 1) rfl 1 rfl dX11_keyAt_1 ?_
  exact cg_callx C hne (z123_X11_holdingAt l hlt S dp o1 o2 o3 n1 (by omega) h2 h3 h4 h5 h6 h7 h8 h9 h10 h11) cc_X11_254 h4 h3 (by decide) rfl rfl ⟨by decide, by decide⟩ ⟨by decide, by decide⟩ rfl (Nat.le_of_ble_eq_true rfl) dX11_keyAt_2 ⟨by decide, by decide⟩ (fun u_ h_ => by
      have hu_ := h_
      exact hu_)
set_option maxHeartbeats 4000000 in
set_option maxRecDepth 100000 in
theorem z133_L_keyAt (l : Launch) (hlt : l.stackTraces = false) (S : cS) (dp : Nat) (o1 o2 o3 o4 : Nat) (n1 : Nat) (x1 : Int32) (h1 : n1 ≤ 2147483647) (h2 : cr S 355 o1 = (some o3)) (h3 : cK S o1 = 11) (h4 : o1 ∈ cL S) (h5 : cr S 321 o3 = (some o4)) (h6 : cK S o3 = 10) (h7 : o3 ∈ cL S) (h8 : ci S 386 o4 = (nI 0)) (h9 : cK S o4 = 12) (h10 : o4 ∈ cL S) (h11 : ci S 370 o1 = (bI false)) : cMetW (cQi (fun r_ u_ => r_ = (nI 1) ∧ u_ = S)) l yL_keyAt cL_keyAt 5 (some .int) [(0, 10, 13, 28)] 8 1 6 127 [.ref o1, .int (nI n1), .int x1, .ref o2] S dp := by
  intro D Y tp sz
  refine cg_bodyW (by decide +kernel) (Nat.le_of_ble_eq_true rfl) ?_
  intro p e s m args below meth c C htab
  generalize va_A (cWd Y S) sz = A at C ⊢
  have C : cC p s m args meth c cL_keyAt 5 (some .int) A D Y tp dp RL := C
  refine cg_lv (lv' := [(0, .ref o1), (1, .int (nI n1)), (2, .int x1), (3, .ref o2)]) rfl ?_
  refine cg_aload_n C (i := 3) rfl 3 rfl dL_keyAt_0 ?_
  refine cg_iconst C (x := nI 0) rfl dL_keyAt_1 ?_
  refine cg_aload_n C (i := 0) rfl 0 rfl dL_keyAt_2 ?_
  refine cg_iload_n C (i := 1) rfl 1 rfl dL_keyAt_3 ?_
  refine cg_iload_n C (i := 2) rfl 2 rfl dL_keyAt_4 ?_
  refine cg_callx_catch C htab (z132_X11_keyAt l hlt S dp o1 o3 o4 n1 x1 (by omega) h2 h3 h4 h5 h6 h7 h8 h9 h10 h11) cc_L_84 h4 h3 (by decide) rfl rfl ⟨by decide, by decide⟩ ⟨by decide, by decide⟩ rfl (Nat.le_of_ble_eq_true rfl) dL_keyAt_5 (tableOf []) ⟨0, 10, 13, 28⟩ (tableOf []) rfl (fun z hz => nomatch hz) (by decide) (by decide) (name := "java/lang/IndexOutOfBoundsException") ce_L_28 (by decide) 13 rfl (fun x_5 u_5 h_5 => ?_)
  have hu_5 := h_5
  have hw_5 := hu_5.symm
  subst hw_5
  refine cg_astore (lv' := [(4, .ref x_5), (0, .ref o1), (1, .int (nI n1)), (2, .int x1), (3, .ref o2)]) C (Nat.le_of_ble_eq_true rfl) rfl dL_keyAt_13 ?_
  refine cg_iconst C (x := nI 1) rfl dL_keyAt_15 ?_
  exact cg_iret C ⟨rfl, rfl⟩ dL_keyAt_16 (by decide) (by decide)
set_option maxHeartbeats 4000000 in
set_option maxRecDepth 100000 in
theorem z134_X11_wordsAt (l : Launch) (hlt : l.stackTraces = false) (S : cS) (dp : Nat) (o1 o2 : Nat) (x1 x2 : Int32) (h1 : x1 < 0) (h2 : cr S 355 o1 = (some o2)) (h3 : cK S o1 = 11) (h4 : o1 ∈ cL S) (h5 : o2 ∈ cL S) (h6 : cK S o2 = 10) (h7 : ci S 370 o1 = (bI false)) : cMetX "java/lang/IndexOutOfBoundsException" (fun u_ => u_ = S) l yX11_wordsAt cX11_wordsAt 4 (some (.object "java/util/ArrayList")) 7 1 6 104 [.ref o1, .int x1, .int x2] S dp := by
  intro D Y tp sz
  refine cg_bodyX (by decide +kernel) (Nat.le_of_ble_eq_true rfl) ?_
  intro p e s m args below meth c C hne
  generalize va_A (cWd Y S) sz = A at C ⊢
  have C : cC p s m args meth c cX11_wordsAt 4 (some (.object "java/util/ArrayList")) A D Y tp dp RX11 := C
  refine cg_lv (lv' := [(0, .ref o1), (1, .int x1), (2, .int x2)]) rfl ?_
  refine cg_aload_n C (i := 0) rfl 0 rfl dX11_wordsAt_0 ?_
  refine cg_iload_n C (i := 1) rfl 1 rfl dX11_wordsAt_1 ?_
  exact cg_callx C hne (z119_X11_holdingAt l hlt S dp o1 o2 x1 h1 h2 h3 h4 h5 h6 h7) cc_X11_254 h4 h3 (by decide) rfl rfl ⟨by decide, by decide⟩ ⟨by decide, by decide⟩ rfl (Nat.le_of_ble_eq_true rfl) dX11_wordsAt_2 ⟨by decide, by decide⟩ (fun u_ h_ => by
      have hu_ := h_
      exact hu_)
set_option maxHeartbeats 4000000 in
set_option maxRecDepth 100000 in
theorem z135_X11_words (l : Launch) (hlt : l.stackTraces = false) (S : cS) (dp : Nat) (o1 o2 : Nat) (x1 x2 : Int32) (h1 : x1 < 0) (h2 : cr S 355 o1 = (some o2)) (h3 : cK S o1 = 11) (h4 : o1 ∈ cL S) (h5 : o2 ∈ cL S) (h6 : cK S o2 = 10) (h7 : ci S 370 o1 = (bI false)) : cMetX "java/lang/IndexOutOfBoundsException" (fun u_ => u_ = S) l yX11_words cX11_words 3 (some .int) 8 1 6 127 [.ref o1, .int x1, .int x2] S dp := by
  intro D Y tp sz
  refine cg_bodyX (by decide +kernel) (Nat.le_of_ble_eq_true rfl) ?_
  intro p e s m args below meth c C hne
  generalize va_A (cWd Y S) sz = A at C ⊢
  have C : cC p s m args meth c cX11_words 3 (some .int) A D Y tp dp RX11 := C
  refine cg_lv (lv' := [(0, .ref o1), (1, .int x1), (2, .int x2)]) rfl ?_
  refine cg_aload_n C (i := 0) rfl 0 rfl dX11_words_0 ?_
  refine cg_iload_n C (i := 1) rfl 1 rfl dX11_words_1 ?_
  refine cg_iload_n C (i := 2) rfl 2 rfl dX11_words_2 ?_
  exact cg_callx C hne (z134_X11_wordsAt l hlt S dp o1 o2 x1 x2 h1 h2 h3 h4 h5 h6 h7) cc_X11_281 h4 h3 (by decide) rfl rfl ⟨by decide, by decide⟩ ⟨by decide, by decide⟩ rfl (Nat.le_of_ble_eq_true rfl) dX11_words_3 ⟨by decide, by decide⟩ (fun u_ h_ => by
      have hu_ := h_
      exact hu_)
set_option maxHeartbeats 4000000 in
set_option maxRecDepth 100000 in
theorem z136_L_words (l : Launch) (hlt : l.stackTraces = false) (S : cS) (dp : Nat) (o1 o2 o3 : Nat) (x1 x2 : Int32) (h1 : x1 < 0) (h2 : cr S 355 o1 = (some o3)) (h3 : cK S o1 = 11) (h4 : o1 ∈ cL S) (h5 : o3 ∈ cL S) (h6 : cK S o3 = 10) (h7 : ci S 370 o1 = (bI false)) : cMetW (cQi (fun r_ u_ => r_ = (nI 1) ∧ u_ = S)) l yL_words cL_words 5 (some .int) [(0, 10, 13, 28)] 9 1 6 149 [.ref o1, .int x1, .int x2, .ref o2] S dp := by
  intro D Y tp sz
  refine cg_bodyW (by decide +kernel) (Nat.le_of_ble_eq_true rfl) ?_
  intro p e s m args below meth c C htab
  generalize va_A (cWd Y S) sz = A at C ⊢
  have C : cC p s m args meth c cL_words 5 (some .int) A D Y tp dp RL := C
  refine cg_lv (lv' := [(0, .ref o1), (1, .int x1), (2, .int x2), (3, .ref o2)]) rfl ?_
  refine cg_aload_n C (i := 3) rfl 3 rfl dL_words_0 ?_
  refine cg_iconst C (x := nI 0) rfl dL_words_1 ?_
  refine cg_aload_n C (i := 0) rfl 0 rfl dL_words_2 ?_
  refine cg_iload_n C (i := 1) rfl 1 rfl dL_words_3 ?_
  refine cg_iload_n C (i := 2) rfl 2 rfl dL_words_4 ?_
  refine cg_callx_catch C htab (z135_X11_words l hlt S dp o1 o3 x1 x2 h1 h2 h3 h4 h5 h6 h7) cc_L_88 h4 h3 (by decide) rfl rfl ⟨by decide, by decide⟩ ⟨by decide, by decide⟩ rfl (Nat.le_of_ble_eq_true rfl) dL_words_5 (tableOf []) ⟨0, 10, 13, 28⟩ (tableOf []) rfl (fun z hz => nomatch hz) (by decide) (by decide) (name := "java/lang/IndexOutOfBoundsException") ce_L_28 (by decide) 13 rfl (fun x_5 u_5 h_5 => ?_)
  have hu_5 := h_5
  have hw_5 := hu_5.symm
  subst hw_5
  refine cg_astore (lv' := [(4, .ref x_5), (0, .ref o1), (1, .int x1), (2, .int x2), (3, .ref o2)]) C (Nat.le_of_ble_eq_true rfl) rfl dL_words_13 ?_
  refine cg_iconst C (x := nI 1) rfl dL_words_15 ?_
  exact cg_iret C ⟨rfl, rfl⟩ dL_words_16 (by decide) (by decide)
set_option maxHeartbeats 4000000 in
set_option maxRecDepth 100000 in
theorem z137_X11_wordsAt (l : Launch) (hlt : l.stackTraces = false) (S : cS) (dp : Nat) (o1 o2 o3 : Nat) (n1 : Nat) (x1 : Int32) (h1 : n1 ≤ 2147483647) (h2 : cr S 355 o1 = (some o2)) (h3 : cK S o1 = 11) (h4 : o1 ∈ cL S) (h5 : cr S 321 o2 = (some o3)) (h6 : cK S o2 = 10) (h7 : o2 ∈ cL S) (h8 : ci S 386 o3 = (nI 0)) (h9 : cK S o3 = 12) (h10 : o3 ∈ cL S) (h11 : ci S 370 o1 = (bI false)) : cMetX "java/lang/IndexOutOfBoundsException" (fun u_ => u_ = S) l yX11_wordsAt cX11_wordsAt 4 (some (.object "java/util/ArrayList")) 7 1 6 104 [.ref o1, .int (nI n1), .int x1] S dp := by
  intro D Y tp sz
  refine cg_bodyX (by decide +kernel) (Nat.le_of_ble_eq_true rfl) ?_
  intro p e s m args below meth c C hne
  generalize va_A (cWd Y S) sz = A at C ⊢
  have C : cC p s m args meth c cX11_wordsAt 4 (some (.object "java/util/ArrayList")) A D Y tp dp RX11 := C
  refine cg_lv (lv' := [(0, .ref o1), (1, .int (nI n1)), (2, .int x1)]) rfl ?_
  refine cg_aload_n C (i := 0) rfl 0 rfl dX11_wordsAt_0 ?_
  refine cg_iload_n C (i := 1) rfl 1 rfl dX11_wordsAt_1 ?_
  exact cg_callx C hne (z123_X11_holdingAt l hlt S dp o1 o2 o3 n1 (by omega) h2 h3 h4 h5 h6 h7 h8 h9 h10 h11) cc_X11_254 h4 h3 (by decide) rfl rfl ⟨by decide, by decide⟩ ⟨by decide, by decide⟩ rfl (Nat.le_of_ble_eq_true rfl) dX11_wordsAt_2 ⟨by decide, by decide⟩ (fun u_ h_ => by
      have hu_ := h_
      exact hu_)
set_option maxHeartbeats 4000000 in
set_option maxRecDepth 100000 in
theorem z138_X11_words (l : Launch) (hlt : l.stackTraces = false) (S : cS) (dp : Nat) (o1 o2 o3 : Nat) (n1 : Nat) (x1 : Int32) (h1 : n1 ≤ 2147483647) (h2 : cr S 355 o1 = (some o2)) (h3 : cK S o1 = 11) (h4 : o1 ∈ cL S) (h5 : cr S 321 o2 = (some o3)) (h6 : cK S o2 = 10) (h7 : o2 ∈ cL S) (h8 : ci S 386 o3 = (nI 0)) (h9 : cK S o3 = 12) (h10 : o3 ∈ cL S) (h11 : ci S 370 o1 = (bI false)) : cMetX "java/lang/IndexOutOfBoundsException" (fun u_ => u_ = S) l yX11_words cX11_words 3 (some .int) 8 1 6 127 [.ref o1, .int (nI n1), .int x1] S dp := by
  intro D Y tp sz
  refine cg_bodyX (by decide +kernel) (Nat.le_of_ble_eq_true rfl) ?_
  intro p e s m args below meth c C hne
  generalize va_A (cWd Y S) sz = A at C ⊢
  have C : cC p s m args meth c cX11_words 3 (some .int) A D Y tp dp RX11 := C
  refine cg_lv (lv' := [(0, .ref o1), (1, .int (nI n1)), (2, .int x1)]) rfl ?_
  refine cg_aload_n C (i := 0) rfl 0 rfl dX11_words_0 ?_
  refine cg_iload_n C (i := 1) rfl 1 rfl dX11_words_1 ?_
  refine cg_iload_n C (i := 2) rfl 2 rfl dX11_words_2 ?_
  exact cg_callx C hne (z137_X11_wordsAt l hlt S dp o1 o2 o3 n1 x1 (by omega) h2 h3 h4 h5 h6 h7 h8 h9 h10 h11) cc_X11_281 h4 h3 (by decide) rfl rfl ⟨by decide, by decide⟩ ⟨by decide, by decide⟩ rfl (Nat.le_of_ble_eq_true rfl) dX11_words_3 ⟨by decide, by decide⟩ (fun u_ h_ => by
      have hu_ := h_
      exact hu_)
set_option maxHeartbeats 4000000 in
set_option maxRecDepth 100000 in
theorem z139_L_words (l : Launch) (hlt : l.stackTraces = false) (S : cS) (dp : Nat) (o1 o2 o3 o4 : Nat) (n1 : Nat) (x1 : Int32) (h1 : n1 ≤ 2147483647) (h2 : cr S 355 o1 = (some o3)) (h3 : cK S o1 = 11) (h4 : o1 ∈ cL S) (h5 : cr S 321 o3 = (some o4)) (h6 : cK S o3 = 10) (h7 : o3 ∈ cL S) (h8 : ci S 386 o4 = (nI 0)) (h9 : cK S o4 = 12) (h10 : o4 ∈ cL S) (h11 : ci S 370 o1 = (bI false)) : cMetW (cQi (fun r_ u_ => r_ = (nI 1) ∧ u_ = S)) l yL_words cL_words 5 (some .int) [(0, 10, 13, 28)] 9 1 6 149 [.ref o1, .int (nI n1), .int x1, .ref o2] S dp := by
  intro D Y tp sz
  refine cg_bodyW (by decide +kernel) (Nat.le_of_ble_eq_true rfl) ?_
  intro p e s m args below meth c C htab
  generalize va_A (cWd Y S) sz = A at C ⊢
  have C : cC p s m args meth c cL_words 5 (some .int) A D Y tp dp RL := C
  refine cg_lv (lv' := [(0, .ref o1), (1, .int (nI n1)), (2, .int x1), (3, .ref o2)]) rfl ?_
  refine cg_aload_n C (i := 3) rfl 3 rfl dL_words_0 ?_
  refine cg_iconst C (x := nI 0) rfl dL_words_1 ?_
  refine cg_aload_n C (i := 0) rfl 0 rfl dL_words_2 ?_
  refine cg_iload_n C (i := 1) rfl 1 rfl dL_words_3 ?_
  refine cg_iload_n C (i := 2) rfl 2 rfl dL_words_4 ?_
  refine cg_callx_catch C htab (z138_X11_words l hlt S dp o1 o3 o4 n1 x1 (by omega) h2 h3 h4 h5 h6 h7 h8 h9 h10 h11) cc_L_88 h4 h3 (by decide) rfl rfl ⟨by decide, by decide⟩ ⟨by decide, by decide⟩ rfl (Nat.le_of_ble_eq_true rfl) dL_words_5 (tableOf []) ⟨0, 10, 13, 28⟩ (tableOf []) rfl (fun z hz => nomatch hz) (by decide) (by decide) (name := "java/lang/IndexOutOfBoundsException") ce_L_28 (by decide) 13 rfl (fun x_5 u_5 h_5 => ?_)
  have hu_5 := h_5
  have hw_5 := hu_5.symm
  subst hw_5
  refine cg_astore (lv' := [(4, .ref x_5), (0, .ref o1), (1, .int (nI n1)), (2, .int x1), (3, .ref o2)]) C (Nat.le_of_ble_eq_true rfl) rfl dL_words_13 ?_
  refine cg_iconst C (x := nI 1) rfl dL_words_15 ?_
  exact cg_iret C ⟨rfl, rfl⟩ dL_words_16 (by decide) (by decide)
set_option maxHeartbeats 4000000 in
set_option maxRecDepth 100000 in
theorem z140_X11_postingsAt (l : Launch) (hlt : l.stackTraces = false) (S : cS) (dp : Nat) (o1 o2 : Nat) (x1 x2 x3 : Int32) (h1 : x1 < 0) (h2 : cr S 355 o1 = (some o2)) (h3 : cK S o1 = 11) (h4 : o1 ∈ cL S) (h5 : o2 ∈ cL S) (h6 : cK S o2 = 10) (h7 : ci S 370 o1 = (bI false)) : cMetX "java/lang/IndexOutOfBoundsException" (fun u_ => u_ = S) l yX11_postingsAt cX11_postingsAt 5 (some (.object "SearchMill$Postings")) 8 1 6 127 [.ref o1, .int x1, .int x2, .int x3] S dp := by
  intro D Y tp sz
  refine cg_bodyX (by decide +kernel) (Nat.le_of_ble_eq_true rfl) ?_
  intro p e s m args below meth c C hne
  generalize va_A (cWd Y S) sz = A at C ⊢
  have C : cC p s m args meth c cX11_postingsAt 5 (some (.object "SearchMill$Postings")) A D Y tp dp RX11 := C
  refine cg_lv (lv' := [(0, .ref o1), (1, .int x1), (2, .int x2), (3, .int x3)]) rfl ?_
  refine cg_aload_n C (i := 0) rfl 0 rfl dX11_postingsAt_0 ?_
  refine cg_iload_n C (i := 1) rfl 1 rfl dX11_postingsAt_1 ?_
  refine cg_iload_n C (i := 2) rfl 2 rfl dX11_postingsAt_2 ?_
  exact cg_callx C hne (z134_X11_wordsAt l hlt S dp o1 o2 x1 x2 h1 h2 h3 h4 h5 h6 h7) cc_X11_281 h4 h3 (by decide) rfl rfl ⟨by decide, by decide⟩ ⟨by decide, by decide⟩ rfl (Nat.le_of_ble_eq_true rfl) dX11_postingsAt_3 ⟨by decide, by decide⟩ (fun u_ h_ => by
      have hu_ := h_
      exact hu_)
set_option maxHeartbeats 4000000 in
set_option maxRecDepth 100000 in
theorem z141_X11_shared (l : Launch) (hlt : l.stackTraces = false) (S : cS) (dp : Nat) (o1 o2 : Nat) (x1 x2 x3 : Int32) (h1 : x1 < 0) (h2 : cr S 355 o1 = (some o2)) (h3 : cK S o1 = 11) (h4 : o1 ∈ cL S) (h5 : o2 ∈ cL S) (h6 : cK S o2 = 10) (h7 : ci S 370 o1 = (bI false)) : cMetX "java/lang/IndexOutOfBoundsException" (fun u_ => u_ = S) l yX11_shared cX11_shared 4 (some .int) 9 1 6 151 [.ref o1, .int x1, .int x2, .int x3] S dp := by
  intro D Y tp sz
  refine cg_bodyX (by decide +kernel) (Nat.le_of_ble_eq_true rfl) ?_
  intro p e s m args below meth c C hne
  generalize va_A (cWd Y S) sz = A at C ⊢
  have C : cC p s m args meth c cX11_shared 4 (some .int) A D Y tp dp RX11 := C
  refine cg_lv (lv' := [(0, .ref o1), (1, .int x1), (2, .int x2), (3, .int x3)]) rfl ?_
  refine cg_aload_n C (i := 0) rfl 0 rfl dX11_shared_0 ?_
  refine cg_iload_n C (i := 1) rfl 1 rfl dX11_shared_1 ?_
  refine cg_iload_n C (i := 2) rfl 2 rfl dX11_shared_2 ?_
  refine cg_iload_n C (i := 3) rfl 3 rfl dX11_shared_3 ?_
  exact cg_callx C hne (z140_X11_postingsAt l hlt S dp o1 o2 x1 x2 x3 h1 h2 h3 h4 h5 h6 h7) cc_X11_285 h4 h3 (by decide) rfl rfl ⟨by decide, by decide⟩ ⟨by decide, by decide⟩ rfl (Nat.le_of_ble_eq_true rfl) dX11_shared_4 ⟨by decide, by decide⟩ (fun u_ h_ => by
      have hu_ := h_
      exact hu_)
set_option maxHeartbeats 4000000 in
set_option maxRecDepth 100000 in
theorem z142_L_shared (l : Launch) (hlt : l.stackTraces = false) (S : cS) (dp : Nat) (o1 o2 o3 : Nat) (x1 x2 x3 : Int32) (h1 : x1 < 0) (h2 : cr S 355 o1 = (some o3)) (h3 : cK S o1 = 11) (h4 : o1 ∈ cL S) (h5 : o3 ∈ cL S) (h6 : cK S o3 = 10) (h7 : ci S 370 o1 = (bI false)) : cMetW (cQi (fun r_ u_ => r_ = (nI 1) ∧ u_ = S)) l yL_shared cL_shared 6 (some .int) [(0, 12, 15, 28)] 10 1 6 174 [.ref o1, .int x1, .int x2, .int x3, .ref o2] S dp := by
  intro D Y tp sz
  refine cg_bodyW (by decide +kernel) (Nat.le_of_ble_eq_true rfl) ?_
  intro p e s m args below meth c C htab
  generalize va_A (cWd Y S) sz = A at C ⊢
  have C : cC p s m args meth c cL_shared 6 (some .int) A D Y tp dp RL := C
  refine cg_lv (lv' := [(0, .ref o1), (1, .int x1), (2, .int x2), (3, .int x3), (4, .ref o2)]) rfl ?_
  refine cg_aload C 4 rfl dL_shared_0 ?_
  refine cg_iconst C (x := nI 0) rfl dL_shared_2 ?_
  refine cg_aload_n C (i := 0) rfl 0 rfl dL_shared_3 ?_
  refine cg_iload_n C (i := 1) rfl 1 rfl dL_shared_4 ?_
  refine cg_iload_n C (i := 2) rfl 2 rfl dL_shared_5 ?_
  refine cg_iload_n C (i := 3) rfl 3 rfl dL_shared_6 ?_
  refine cg_callx_catch C htab (z141_X11_shared l hlt S dp o1 o3 x1 x2 x3 h1 h2 h3 h4 h5 h6 h7) cc_L_91 h4 h3 (by decide) rfl rfl ⟨by decide, by decide⟩ ⟨by decide, by decide⟩ rfl (Nat.le_of_ble_eq_true rfl) dL_shared_7 (tableOf []) ⟨0, 12, 15, 28⟩ (tableOf []) rfl (fun z hz => nomatch hz) (by decide) (by decide) (name := "java/lang/IndexOutOfBoundsException") ce_L_28 (by decide) 15 rfl (fun x_7 u_7 h_7 => ?_)
  have hu_7 := h_7
  have hw_7 := hu_7.symm
  subst hw_7
  refine cg_astore (lv' := [(5, .ref x_7), (0, .ref o1), (1, .int x1), (2, .int x2), (3, .int x3), (4, .ref o2)]) C (Nat.le_of_ble_eq_true rfl) rfl dL_shared_15 ?_
  refine cg_iconst C (x := nI 1) rfl dL_shared_17 ?_
  exact cg_iret C ⟨rfl, rfl⟩ dL_shared_18 (by decide) (by decide)
set_option maxHeartbeats 4000000 in
set_option maxRecDepth 100000 in
theorem z143_X11_postingsAt (l : Launch) (hlt : l.stackTraces = false) (S : cS) (dp : Nat) (o1 o2 o3 : Nat) (n1 : Nat) (x1 x2 : Int32) (h1 : n1 ≤ 2147483647) (h2 : cr S 355 o1 = (some o2)) (h3 : cK S o1 = 11) (h4 : o1 ∈ cL S) (h5 : cr S 321 o2 = (some o3)) (h6 : cK S o2 = 10) (h7 : o2 ∈ cL S) (h8 : ci S 386 o3 = (nI 0)) (h9 : cK S o3 = 12) (h10 : o3 ∈ cL S) (h11 : ci S 370 o1 = (bI false)) : cMetX "java/lang/IndexOutOfBoundsException" (fun u_ => u_ = S) l yX11_postingsAt cX11_postingsAt 5 (some (.object "SearchMill$Postings")) 8 1 6 127 [.ref o1, .int (nI n1), .int x1, .int x2] S dp := by
  intro D Y tp sz
  refine cg_bodyX (by decide +kernel) (Nat.le_of_ble_eq_true rfl) ?_
  intro p e s m args below meth c C hne
  generalize va_A (cWd Y S) sz = A at C ⊢
  have C : cC p s m args meth c cX11_postingsAt 5 (some (.object "SearchMill$Postings")) A D Y tp dp RX11 := C
  refine cg_lv (lv' := [(0, .ref o1), (1, .int (nI n1)), (2, .int x1), (3, .int x2)]) rfl ?_
  refine cg_aload_n C (i := 0) rfl 0 rfl dX11_postingsAt_0 ?_
  refine cg_iload_n C (i := 1) rfl 1 rfl dX11_postingsAt_1 ?_
  refine cg_iload_n C (i := 2) rfl 2 rfl dX11_postingsAt_2 ?_
  exact cg_callx C hne (z137_X11_wordsAt l hlt S dp o1 o2 o3 n1 x1 (by omega) h2 h3 h4 h5 h6 h7 h8 h9 h10 h11) cc_X11_281 h4 h3 (by decide) rfl rfl ⟨by decide, by decide⟩ ⟨by decide, by decide⟩ rfl (Nat.le_of_ble_eq_true rfl) dX11_postingsAt_3 ⟨by decide, by decide⟩ (fun u_ h_ => by
      have hu_ := h_
      exact hu_)
set_option maxHeartbeats 4000000 in
set_option maxRecDepth 100000 in
theorem z144_X11_shared (l : Launch) (hlt : l.stackTraces = false) (S : cS) (dp : Nat) (o1 o2 o3 : Nat) (n1 : Nat) (x1 x2 : Int32) (h1 : n1 ≤ 2147483647) (h2 : cr S 355 o1 = (some o2)) (h3 : cK S o1 = 11) (h4 : o1 ∈ cL S) (h5 : cr S 321 o2 = (some o3)) (h6 : cK S o2 = 10) (h7 : o2 ∈ cL S) (h8 : ci S 386 o3 = (nI 0)) (h9 : cK S o3 = 12) (h10 : o3 ∈ cL S) (h11 : ci S 370 o1 = (bI false)) : cMetX "java/lang/IndexOutOfBoundsException" (fun u_ => u_ = S) l yX11_shared cX11_shared 4 (some .int) 9 1 6 151 [.ref o1, .int (nI n1), .int x1, .int x2] S dp := by
  intro D Y tp sz
  refine cg_bodyX (by decide +kernel) (Nat.le_of_ble_eq_true rfl) ?_
  intro p e s m args below meth c C hne
  generalize va_A (cWd Y S) sz = A at C ⊢
  have C : cC p s m args meth c cX11_shared 4 (some .int) A D Y tp dp RX11 := C
  refine cg_lv (lv' := [(0, .ref o1), (1, .int (nI n1)), (2, .int x1), (3, .int x2)]) rfl ?_
  refine cg_aload_n C (i := 0) rfl 0 rfl dX11_shared_0 ?_
  refine cg_iload_n C (i := 1) rfl 1 rfl dX11_shared_1 ?_
  refine cg_iload_n C (i := 2) rfl 2 rfl dX11_shared_2 ?_
  refine cg_iload_n C (i := 3) rfl 3 rfl dX11_shared_3 ?_
  exact cg_callx C hne (z143_X11_postingsAt l hlt S dp o1 o2 o3 n1 x1 x2 (by omega) h2 h3 h4 h5 h6 h7 h8 h9 h10 h11) cc_X11_285 h4 h3 (by decide) rfl rfl ⟨by decide, by decide⟩ ⟨by decide, by decide⟩ rfl (Nat.le_of_ble_eq_true rfl) dX11_shared_4 ⟨by decide, by decide⟩ (fun u_ h_ => by
      have hu_ := h_
      exact hu_)
set_option maxHeartbeats 4000000 in
set_option maxRecDepth 100000 in
theorem z145_L_shared (l : Launch) (hlt : l.stackTraces = false) (S : cS) (dp : Nat) (o1 o2 o3 o4 : Nat) (n1 : Nat) (x1 x2 : Int32) (h1 : n1 ≤ 2147483647) (h2 : cr S 355 o1 = (some o3)) (h3 : cK S o1 = 11) (h4 : o1 ∈ cL S) (h5 : cr S 321 o3 = (some o4)) (h6 : cK S o3 = 10) (h7 : o3 ∈ cL S) (h8 : ci S 386 o4 = (nI 0)) (h9 : cK S o4 = 12) (h10 : o4 ∈ cL S) (h11 : ci S 370 o1 = (bI false)) : cMetW (cQi (fun r_ u_ => r_ = (nI 1) ∧ u_ = S)) l yL_shared cL_shared 6 (some .int) [(0, 12, 15, 28)] 10 1 6 174 [.ref o1, .int (nI n1), .int x1, .int x2, .ref o2] S dp := by
  intro D Y tp sz
  refine cg_bodyW (by decide +kernel) (Nat.le_of_ble_eq_true rfl) ?_
  intro p e s m args below meth c C htab
  generalize va_A (cWd Y S) sz = A at C ⊢
  have C : cC p s m args meth c cL_shared 6 (some .int) A D Y tp dp RL := C
  refine cg_lv (lv' := [(0, .ref o1), (1, .int (nI n1)), (2, .int x1), (3, .int x2), (4, .ref o2)]) rfl ?_
  refine cg_aload C 4 rfl dL_shared_0 ?_
  refine cg_iconst C (x := nI 0) rfl dL_shared_2 ?_
  refine cg_aload_n C (i := 0) rfl 0 rfl dL_shared_3 ?_
  refine cg_iload_n C (i := 1) rfl 1 rfl dL_shared_4 ?_
  refine cg_iload_n C (i := 2) rfl 2 rfl dL_shared_5 ?_
  refine cg_iload_n C (i := 3) rfl 3 rfl dL_shared_6 ?_
  refine cg_callx_catch C htab (z144_X11_shared l hlt S dp o1 o3 o4 n1 x1 x2 (by omega) h2 h3 h4 h5 h6 h7 h8 h9 h10 h11) cc_L_91 h4 h3 (by decide) rfl rfl ⟨by decide, by decide⟩ ⟨by decide, by decide⟩ rfl (Nat.le_of_ble_eq_true rfl) dL_shared_7 (tableOf []) ⟨0, 12, 15, 28⟩ (tableOf []) rfl (fun z hz => nomatch hz) (by decide) (by decide) (name := "java/lang/IndexOutOfBoundsException") ce_L_28 (by decide) 15 rfl (fun x_7 u_7 h_7 => ?_)
  have hu_7 := h_7
  have hw_7 := hu_7.symm
  subst hw_7
  refine cg_astore (lv' := [(5, .ref x_7), (0, .ref o1), (1, .int (nI n1)), (2, .int x1), (3, .int x2), (4, .ref o2)]) C (Nat.le_of_ble_eq_true rfl) rfl dL_shared_15 ?_
  refine cg_iconst C (x := nI 1) rfl dL_shared_17 ?_
  exact cg_iret C ⟨rfl, rfl⟩ dL_shared_18 (by decide) (by decide)
set_option maxHeartbeats 4000000 in
set_option maxRecDepth 100000 in
theorem z146_X11_wordBytes (l : Launch) (hlt : l.stackTraces = false) (S : cS) (dp : Nat) (o1 o2 : Nat) (x1 x2 : Int32) (h1 : x1 < 0) (h2 : cr S 355 o1 = (some o2)) (h3 : cK S o1 = 11) (h4 : o1 ∈ cL S) (h5 : o2 ∈ cL S) (h6 : cK S o2 = 10) (h7 : ci S 370 o1 = (bI false)) : cMetX "java/lang/IndexOutOfBoundsException" (fun u_ => u_ = S) l yX11_wordBytes cX11_wordBytes 6 (some .int) 8 1 6 127 [.ref o1, .int x1, .int x2] S dp := by
  intro D Y tp sz
  refine cg_bodyX (by decide +kernel) (Nat.le_of_ble_eq_true rfl) ?_
  intro p e s m args below meth c C hne
  generalize va_A (cWd Y S) sz = A at C ⊢
  have C : cC p s m args meth c cX11_wordBytes 6 (some .int) A D Y tp dp RX11 := C
  refine cg_lv (lv' := [(0, .ref o1), (1, .int x1), (2, .int x2)]) rfl ?_
  refine cg_aload_n C (i := 0) rfl 0 rfl dX11_wordBytes_0 ?_
  refine cg_iload_n C (i := 1) rfl 1 rfl dX11_wordBytes_1 ?_
  refine cg_iload_n C (i := 2) rfl 2 rfl dX11_wordBytes_2 ?_
  exact cg_callx C hne (z134_X11_wordsAt l hlt S dp o1 o2 x1 x2 h1 h2 h3 h4 h5 h6 h7) cc_X11_281 h4 h3 (by decide) rfl rfl ⟨by decide, by decide⟩ ⟨by decide, by decide⟩ rfl (Nat.le_of_ble_eq_true rfl) dX11_wordBytes_3 ⟨by decide, by decide⟩ (fun u_ h_ => by
      have hu_ := h_
      exact hu_)
set_option maxHeartbeats 4000000 in
set_option maxRecDepth 100000 in
theorem z147_L_wordBytes (l : Launch) (hlt : l.stackTraces = false) (S : cS) (dp : Nat) (o1 o2 o3 : Nat) (x1 x2 : Int32) (h1 : x1 < 0) (h2 : cr S 355 o1 = (some o3)) (h3 : cK S o1 = 11) (h4 : o1 ∈ cL S) (h5 : o3 ∈ cL S) (h6 : cK S o3 = 10) (h7 : ci S 370 o1 = (bI false)) : cMetW (cQi (fun r_ u_ => r_ = (nI 1) ∧ u_ = S)) l yL_wordBytes cL_wordBytes 5 (some .int) [(0, 10, 13, 28)] 9 1 6 152 [.ref o1, .int x1, .int x2, .ref o2] S dp := by
  intro D Y tp sz
  refine cg_bodyW (by decide +kernel) (Nat.le_of_ble_eq_true rfl) ?_
  intro p e s m args below meth c C htab
  generalize va_A (cWd Y S) sz = A at C ⊢
  have C : cC p s m args meth c cL_wordBytes 5 (some .int) A D Y tp dp RL := C
  refine cg_lv (lv' := [(0, .ref o1), (1, .int x1), (2, .int x2), (3, .ref o2)]) rfl ?_
  refine cg_aload_n C (i := 3) rfl 3 rfl dL_wordBytes_0 ?_
  refine cg_iconst C (x := nI 0) rfl dL_wordBytes_1 ?_
  refine cg_aload_n C (i := 0) rfl 0 rfl dL_wordBytes_2 ?_
  refine cg_iload_n C (i := 1) rfl 1 rfl dL_wordBytes_3 ?_
  refine cg_iload_n C (i := 2) rfl 2 rfl dL_wordBytes_4 ?_
  refine cg_callx_catch C htab (z146_X11_wordBytes l hlt S dp o1 o3 x1 x2 h1 h2 h3 h4 h5 h6 h7) cc_L_95 h4 h3 (by decide) rfl rfl ⟨by decide, by decide⟩ ⟨by decide, by decide⟩ rfl (Nat.le_of_ble_eq_true rfl) dL_wordBytes_5 (tableOf []) ⟨0, 10, 13, 28⟩ (tableOf []) rfl (fun z hz => nomatch hz) (by decide) (by decide) (name := "java/lang/IndexOutOfBoundsException") ce_L_28 (by decide) 13 rfl (fun x_5 u_5 h_5 => ?_)
  have hu_5 := h_5
  have hw_5 := hu_5.symm
  subst hw_5
  refine cg_astore (lv' := [(4, .ref x_5), (0, .ref o1), (1, .int x1), (2, .int x2), (3, .ref o2)]) C (Nat.le_of_ble_eq_true rfl) rfl dL_wordBytes_13 ?_
  refine cg_iconst C (x := nI 1) rfl dL_wordBytes_15 ?_
  exact cg_iret C ⟨rfl, rfl⟩ dL_wordBytes_16 (by decide) (by decide)
set_option maxHeartbeats 4000000 in
set_option maxRecDepth 100000 in
theorem z148_X11_wordBytes (l : Launch) (hlt : l.stackTraces = false) (S : cS) (dp : Nat) (o1 o2 o3 : Nat) (n1 : Nat) (x1 : Int32) (h1 : n1 ≤ 2147483647) (h2 : cr S 355 o1 = (some o2)) (h3 : cK S o1 = 11) (h4 : o1 ∈ cL S) (h5 : cr S 321 o2 = (some o3)) (h6 : cK S o2 = 10) (h7 : o2 ∈ cL S) (h8 : ci S 386 o3 = (nI 0)) (h9 : cK S o3 = 12) (h10 : o3 ∈ cL S) (h11 : ci S 370 o1 = (bI false)) : cMetX "java/lang/IndexOutOfBoundsException" (fun u_ => u_ = S) l yX11_wordBytes cX11_wordBytes 6 (some .int) 8 1 6 127 [.ref o1, .int (nI n1), .int x1] S dp := by
  intro D Y tp sz
  refine cg_bodyX (by decide +kernel) (Nat.le_of_ble_eq_true rfl) ?_
  intro p e s m args below meth c C hne
  generalize va_A (cWd Y S) sz = A at C ⊢
  have C : cC p s m args meth c cX11_wordBytes 6 (some .int) A D Y tp dp RX11 := C
  refine cg_lv (lv' := [(0, .ref o1), (1, .int (nI n1)), (2, .int x1)]) rfl ?_
  refine cg_aload_n C (i := 0) rfl 0 rfl dX11_wordBytes_0 ?_
  refine cg_iload_n C (i := 1) rfl 1 rfl dX11_wordBytes_1 ?_
  refine cg_iload_n C (i := 2) rfl 2 rfl dX11_wordBytes_2 ?_
  exact cg_callx C hne (z137_X11_wordsAt l hlt S dp o1 o2 o3 n1 x1 (by omega) h2 h3 h4 h5 h6 h7 h8 h9 h10 h11) cc_X11_281 h4 h3 (by decide) rfl rfl ⟨by decide, by decide⟩ ⟨by decide, by decide⟩ rfl (Nat.le_of_ble_eq_true rfl) dX11_wordBytes_3 ⟨by decide, by decide⟩ (fun u_ h_ => by
      have hu_ := h_
      exact hu_)
set_option maxHeartbeats 4000000 in
set_option maxRecDepth 100000 in
theorem z149_L_wordBytes (l : Launch) (hlt : l.stackTraces = false) (S : cS) (dp : Nat) (o1 o2 o3 o4 : Nat) (n1 : Nat) (x1 : Int32) (h1 : n1 ≤ 2147483647) (h2 : cr S 355 o1 = (some o3)) (h3 : cK S o1 = 11) (h4 : o1 ∈ cL S) (h5 : cr S 321 o3 = (some o4)) (h6 : cK S o3 = 10) (h7 : o3 ∈ cL S) (h8 : ci S 386 o4 = (nI 0)) (h9 : cK S o4 = 12) (h10 : o4 ∈ cL S) (h11 : ci S 370 o1 = (bI false)) : cMetW (cQi (fun r_ u_ => r_ = (nI 1) ∧ u_ = S)) l yL_wordBytes cL_wordBytes 5 (some .int) [(0, 10, 13, 28)] 9 1 6 152 [.ref o1, .int (nI n1), .int x1, .ref o2] S dp := by
  intro D Y tp sz
  refine cg_bodyW (by decide +kernel) (Nat.le_of_ble_eq_true rfl) ?_
  intro p e s m args below meth c C htab
  generalize va_A (cWd Y S) sz = A at C ⊢
  have C : cC p s m args meth c cL_wordBytes 5 (some .int) A D Y tp dp RL := C
  refine cg_lv (lv' := [(0, .ref o1), (1, .int (nI n1)), (2, .int x1), (3, .ref o2)]) rfl ?_
  refine cg_aload_n C (i := 3) rfl 3 rfl dL_wordBytes_0 ?_
  refine cg_iconst C (x := nI 0) rfl dL_wordBytes_1 ?_
  refine cg_aload_n C (i := 0) rfl 0 rfl dL_wordBytes_2 ?_
  refine cg_iload_n C (i := 1) rfl 1 rfl dL_wordBytes_3 ?_
  refine cg_iload_n C (i := 2) rfl 2 rfl dL_wordBytes_4 ?_
  refine cg_callx_catch C htab (z148_X11_wordBytes l hlt S dp o1 o3 o4 n1 x1 (by omega) h2 h3 h4 h5 h6 h7 h8 h9 h10 h11) cc_L_95 h4 h3 (by decide) rfl rfl ⟨by decide, by decide⟩ ⟨by decide, by decide⟩ rfl (Nat.le_of_ble_eq_true rfl) dL_wordBytes_5 (tableOf []) ⟨0, 10, 13, 28⟩ (tableOf []) rfl (fun z hz => nomatch hz) (by decide) (by decide) (name := "java/lang/IndexOutOfBoundsException") ce_L_28 (by decide) 13 rfl (fun x_5 u_5 h_5 => ?_)
  have hu_5 := h_5
  have hw_5 := hu_5.symm
  subst hw_5
  refine cg_astore (lv' := [(4, .ref x_5), (0, .ref o1), (1, .int (nI n1)), (2, .int x1), (3, .ref o2)]) C (Nat.le_of_ble_eq_true rfl) rfl dL_wordBytes_13 ?_
  refine cg_iconst C (x := nI 1) rfl dL_wordBytes_15 ?_
  exact cg_iret C ⟨rfl, rfl⟩ dL_wordBytes_16 (by decide) (by decide)
set_option maxHeartbeats 4000000 in
set_option maxRecDepth 100000 in
theorem z150_X11_signAt (l : Launch) (hlt : l.stackTraces = false) (S : cS) (dp : Nat) (o1 o2 : Nat) (x1 x2 x3 x4 : Int32) (h1 : x1 < 0) (h2 : cr S 355 o1 = (some o2)) (h3 : cK S o1 = 11) (h4 : o1 ∈ cL S) (h5 : o2 ∈ cL S) (h6 : cK S o2 = 10) (h7 : ci S 370 o1 = (bI false)) : cMetX "java/lang/IndexOutOfBoundsException" (fun u_ => u_ = S) l yX11_signAt cX11_signAt 5 (some .char) 9 1 6 151 [.ref o1, .int x1, .int x2, .int x3, .int x4] S dp := by
  intro D Y tp sz
  refine cg_bodyX (by decide +kernel) (Nat.le_of_ble_eq_true rfl) ?_
  intro p e s m args below meth c C hne
  generalize va_A (cWd Y S) sz = A at C ⊢
  have C : cC p s m args meth c cX11_signAt 5 (some .char) A D Y tp dp RX11 := C
  refine cg_lv (lv' := [(0, .ref o1), (1, .int x1), (2, .int x2), (3, .int x3), (4, .int x4)]) rfl ?_
  refine cg_aload_n C (i := 0) rfl 0 rfl dX11_signAt_0 ?_
  refine cg_iload_n C (i := 1) rfl 1 rfl dX11_signAt_1 ?_
  refine cg_iload_n C (i := 2) rfl 2 rfl dX11_signAt_2 ?_
  refine cg_iload_n C (i := 3) rfl 3 rfl dX11_signAt_3 ?_
  exact cg_callx C hne (z140_X11_postingsAt l hlt S dp o1 o2 x1 x2 x3 h1 h2 h3 h4 h5 h6 h7) cc_X11_285 h4 h3 (by decide) rfl rfl ⟨by decide, by decide⟩ ⟨by decide, by decide⟩ rfl (Nat.le_of_ble_eq_true rfl) dX11_signAt_4 ⟨by decide, by decide⟩ (fun u_ h_ => by
      have hu_ := h_
      exact hu_)
set_option maxHeartbeats 4000000 in
set_option maxRecDepth 100000 in
theorem z151_L_signAt (l : Launch) (hlt : l.stackTraces = false) (S : cS) (dp : Nat) (o1 o2 o3 : Nat) (x1 x2 x3 x4 : Int32) (h1 : x1 < 0) (h2 : cr S 355 o1 = (some o3)) (h3 : cK S o1 = 11) (h4 : o1 ∈ cL S) (h5 : o3 ∈ cL S) (h6 : cK S o3 = 10) (h7 : ci S 370 o1 = (bI false)) : cMetW (cQi (fun r_ u_ => r_ = (nI 1) ∧ u_ = S)) l yL_signAt cL_signAt 7 (some .int) [(0, 14, 17, 28)] 10 1 6 175 [.ref o1, .int x1, .int x2, .int x3, .int x4, .ref o2] S dp := by
  intro D Y tp sz
  refine cg_bodyW (by decide +kernel) (Nat.le_of_ble_eq_true rfl) ?_
  intro p e s m args below meth c C htab
  generalize va_A (cWd Y S) sz = A at C ⊢
  have C : cC p s m args meth c cL_signAt 7 (some .int) A D Y tp dp RL := C
  refine cg_lv (lv' := [(0, .ref o1), (1, .int x1), (2, .int x2), (3, .int x3), (4, .int x4), (5, .ref o2)]) rfl ?_
  refine cg_aload C 5 rfl dL_signAt_0 ?_
  refine cg_iconst C (x := nI 0) rfl dL_signAt_2 ?_
  refine cg_aload_n C (i := 0) rfl 0 rfl dL_signAt_3 ?_
  refine cg_iload_n C (i := 1) rfl 1 rfl dL_signAt_4 ?_
  refine cg_iload_n C (i := 2) rfl 2 rfl dL_signAt_5 ?_
  refine cg_iload_n C (i := 3) rfl 3 rfl dL_signAt_6 ?_
  refine cg_iload C 4 rfl dL_signAt_7 ?_
  refine cg_callx_catch C htab (z150_X11_signAt l hlt S dp o1 o3 x1 x2 x3 x4 h1 h2 h3 h4 h5 h6 h7) cc_L_98 h4 h3 (by decide) rfl rfl ⟨by decide, by decide⟩ ⟨by decide, by decide⟩ rfl (Nat.le_of_ble_eq_true rfl) dL_signAt_9 (tableOf []) ⟨0, 14, 17, 28⟩ (tableOf []) rfl (fun z hz => nomatch hz) (by decide) (by decide) (name := "java/lang/IndexOutOfBoundsException") ce_L_28 (by decide) 17 rfl (fun x_9 u_9 h_9 => ?_)
  have hu_9 := h_9
  have hw_9 := hu_9.symm
  subst hw_9
  refine cg_astore (lv' := [(6, .ref x_9), (0, .ref o1), (1, .int x1), (2, .int x2), (3, .int x3), (4, .int x4), (5, .ref o2)]) C (Nat.le_of_ble_eq_true rfl) rfl dL_signAt_17 ?_
  refine cg_iconst C (x := nI 1) rfl dL_signAt_19 ?_
  exact cg_iret C ⟨rfl, rfl⟩ dL_signAt_20 (by decide) (by decide)
set_option maxHeartbeats 4000000 in
set_option maxRecDepth 100000 in
theorem z152_X11_signAt (l : Launch) (hlt : l.stackTraces = false) (S : cS) (dp : Nat) (o1 o2 o3 : Nat) (n1 : Nat) (x1 x2 x3 : Int32) (h1 : n1 ≤ 2147483647) (h2 : cr S 355 o1 = (some o2)) (h3 : cK S o1 = 11) (h4 : o1 ∈ cL S) (h5 : cr S 321 o2 = (some o3)) (h6 : cK S o2 = 10) (h7 : o2 ∈ cL S) (h8 : ci S 386 o3 = (nI 0)) (h9 : cK S o3 = 12) (h10 : o3 ∈ cL S) (h11 : ci S 370 o1 = (bI false)) : cMetX "java/lang/IndexOutOfBoundsException" (fun u_ => u_ = S) l yX11_signAt cX11_signAt 5 (some .char) 9 1 6 151 [.ref o1, .int (nI n1), .int x1, .int x2, .int x3] S dp := by
  intro D Y tp sz
  refine cg_bodyX (by decide +kernel) (Nat.le_of_ble_eq_true rfl) ?_
  intro p e s m args below meth c C hne
  generalize va_A (cWd Y S) sz = A at C ⊢
  have C : cC p s m args meth c cX11_signAt 5 (some .char) A D Y tp dp RX11 := C
  refine cg_lv (lv' := [(0, .ref o1), (1, .int (nI n1)), (2, .int x1), (3, .int x2), (4, .int x3)]) rfl ?_
  refine cg_aload_n C (i := 0) rfl 0 rfl dX11_signAt_0 ?_
  refine cg_iload_n C (i := 1) rfl 1 rfl dX11_signAt_1 ?_
  refine cg_iload_n C (i := 2) rfl 2 rfl dX11_signAt_2 ?_
  refine cg_iload_n C (i := 3) rfl 3 rfl dX11_signAt_3 ?_
  exact cg_callx C hne (z143_X11_postingsAt l hlt S dp o1 o2 o3 n1 x1 x2 (by omega) h2 h3 h4 h5 h6 h7 h8 h9 h10 h11) cc_X11_285 h4 h3 (by decide) rfl rfl ⟨by decide, by decide⟩ ⟨by decide, by decide⟩ rfl (Nat.le_of_ble_eq_true rfl) dX11_signAt_4 ⟨by decide, by decide⟩ (fun u_ h_ => by
      have hu_ := h_
      exact hu_)
set_option maxHeartbeats 4000000 in
set_option maxRecDepth 100000 in
theorem z153_L_signAt (l : Launch) (hlt : l.stackTraces = false) (S : cS) (dp : Nat) (o1 o2 o3 o4 : Nat) (n1 : Nat) (x1 x2 x3 : Int32) (h1 : n1 ≤ 2147483647) (h2 : cr S 355 o1 = (some o3)) (h3 : cK S o1 = 11) (h4 : o1 ∈ cL S) (h5 : cr S 321 o3 = (some o4)) (h6 : cK S o3 = 10) (h7 : o3 ∈ cL S) (h8 : ci S 386 o4 = (nI 0)) (h9 : cK S o4 = 12) (h10 : o4 ∈ cL S) (h11 : ci S 370 o1 = (bI false)) : cMetW (cQi (fun r_ u_ => r_ = (nI 1) ∧ u_ = S)) l yL_signAt cL_signAt 7 (some .int) [(0, 14, 17, 28)] 10 1 6 175 [.ref o1, .int (nI n1), .int x1, .int x2, .int x3, .ref o2] S dp := by
  intro D Y tp sz
  refine cg_bodyW (by decide +kernel) (Nat.le_of_ble_eq_true rfl) ?_
  intro p e s m args below meth c C htab
  generalize va_A (cWd Y S) sz = A at C ⊢
  have C : cC p s m args meth c cL_signAt 7 (some .int) A D Y tp dp RL := C
  refine cg_lv (lv' := [(0, .ref o1), (1, .int (nI n1)), (2, .int x1), (3, .int x2), (4, .int x3), (5, .ref o2)]) rfl ?_
  refine cg_aload C 5 rfl dL_signAt_0 ?_
  refine cg_iconst C (x := nI 0) rfl dL_signAt_2 ?_
  refine cg_aload_n C (i := 0) rfl 0 rfl dL_signAt_3 ?_
  refine cg_iload_n C (i := 1) rfl 1 rfl dL_signAt_4 ?_
  refine cg_iload_n C (i := 2) rfl 2 rfl dL_signAt_5 ?_
  refine cg_iload_n C (i := 3) rfl 3 rfl dL_signAt_6 ?_
  refine cg_iload C 4 rfl dL_signAt_7 ?_
  refine cg_callx_catch C htab (z152_X11_signAt l hlt S dp o1 o3 o4 n1 x1 x2 x3 (by omega) h2 h3 h4 h5 h6 h7 h8 h9 h10 h11) cc_L_98 h4 h3 (by decide) rfl rfl ⟨by decide, by decide⟩ ⟨by decide, by decide⟩ rfl (Nat.le_of_ble_eq_true rfl) dL_signAt_9 (tableOf []) ⟨0, 14, 17, 28⟩ (tableOf []) rfl (fun z hz => nomatch hz) (by decide) (by decide) (name := "java/lang/IndexOutOfBoundsException") ce_L_28 (by decide) 17 rfl (fun x_9 u_9 h_9 => ?_)
  have hu_9 := h_9
  have hw_9 := hu_9.symm
  subst hw_9
  refine cg_astore (lv' := [(6, .ref x_9), (0, .ref o1), (1, .int (nI n1)), (2, .int x1), (3, .int x2), (4, .int x3), (5, .ref o2)]) C (Nat.le_of_ble_eq_true rfl) rfl dL_signAt_17 ?_
  refine cg_iconst C (x := nI 1) rfl dL_signAt_19 ?_
  exact cg_iret C ⟨rfl, rfl⟩ dL_signAt_20 (by decide) (by decide)
set_option maxHeartbeats 4000000 in
set_option maxRecDepth 100000 in
theorem z154_X11_bytes (l : Launch) (hlt : l.stackTraces = false) (S : cS) (dp : Nat) (o1 o2 : Nat) (x1 x2 x3 : Int32) (h1 : x1 < 0) (h2 : cr S 355 o1 = (some o2)) (h3 : cK S o1 = 11) (h4 : o1 ∈ cL S) (h5 : o2 ∈ cL S) (h6 : cK S o2 = 10) (h7 : ci S 370 o1 = (bI false)) : cMetX "java/lang/IndexOutOfBoundsException" (fun u_ => u_ = S) l yX11_bytes cX11_bytes 4 (some .int) 9 1 6 151 [.ref o1, .int x1, .int x2, .int x3] S dp := by
  intro D Y tp sz
  refine cg_bodyX (by decide +kernel) (Nat.le_of_ble_eq_true rfl) ?_
  intro p e s m args below meth c C hne
  generalize va_A (cWd Y S) sz = A at C ⊢
  have C : cC p s m args meth c cX11_bytes 4 (some .int) A D Y tp dp RX11 := C
  refine cg_lv (lv' := [(0, .ref o1), (1, .int x1), (2, .int x2), (3, .int x3)]) rfl ?_
  refine cg_aload_n C (i := 0) rfl 0 rfl dX11_bytes_0 ?_
  refine cg_iload_n C (i := 1) rfl 1 rfl dX11_bytes_1 ?_
  refine cg_iload_n C (i := 2) rfl 2 rfl dX11_bytes_2 ?_
  refine cg_iload_n C (i := 3) rfl 3 rfl dX11_bytes_3 ?_
  exact cg_callx C hne (z140_X11_postingsAt l hlt S dp o1 o2 x1 x2 x3 h1 h2 h3 h4 h5 h6 h7) cc_X11_285 h4 h3 (by decide) rfl rfl ⟨by decide, by decide⟩ ⟨by decide, by decide⟩ rfl (Nat.le_of_ble_eq_true rfl) dX11_bytes_4 ⟨by decide, by decide⟩ (fun u_ h_ => by
      have hu_ := h_
      exact hu_)
set_option maxHeartbeats 4000000 in
set_option maxRecDepth 100000 in
theorem z155_L_bytes (l : Launch) (hlt : l.stackTraces = false) (S : cS) (dp : Nat) (o1 o2 o3 : Nat) (x1 x2 x3 : Int32) (h1 : x1 < 0) (h2 : cr S 355 o1 = (some o3)) (h3 : cK S o1 = 11) (h4 : o1 ∈ cL S) (h5 : o3 ∈ cL S) (h6 : cK S o3 = 10) (h7 : ci S 370 o1 = (bI false)) : cMetW (cQi (fun r_ u_ => r_ = (nI 1) ∧ u_ = S)) l yL_bytes cL_bytes 6 (some .int) [(0, 12, 15, 28)] 10 1 6 174 [.ref o1, .int x1, .int x2, .int x3, .ref o2] S dp := by
  intro D Y tp sz
  refine cg_bodyW (by decide +kernel) (Nat.le_of_ble_eq_true rfl) ?_
  intro p e s m args below meth c C htab
  generalize va_A (cWd Y S) sz = A at C ⊢
  have C : cC p s m args meth c cL_bytes 6 (some .int) A D Y tp dp RL := C
  refine cg_lv (lv' := [(0, .ref o1), (1, .int x1), (2, .int x2), (3, .int x3), (4, .ref o2)]) rfl ?_
  refine cg_aload C 4 rfl dL_bytes_0 ?_
  refine cg_iconst C (x := nI 0) rfl dL_bytes_2 ?_
  refine cg_aload_n C (i := 0) rfl 0 rfl dL_bytes_3 ?_
  refine cg_iload_n C (i := 1) rfl 1 rfl dL_bytes_4 ?_
  refine cg_iload_n C (i := 2) rfl 2 rfl dL_bytes_5 ?_
  refine cg_iload_n C (i := 3) rfl 3 rfl dL_bytes_6 ?_
  refine cg_callx_catch C htab (z154_X11_bytes l hlt S dp o1 o3 x1 x2 x3 h1 h2 h3 h4 h5 h6 h7) cc_L_102 h4 h3 (by decide) rfl rfl ⟨by decide, by decide⟩ ⟨by decide, by decide⟩ rfl (Nat.le_of_ble_eq_true rfl) dL_bytes_7 (tableOf []) ⟨0, 12, 15, 28⟩ (tableOf []) rfl (fun z hz => nomatch hz) (by decide) (by decide) (name := "java/lang/IndexOutOfBoundsException") ce_L_28 (by decide) 15 rfl (fun x_7 u_7 h_7 => ?_)
  have hu_7 := h_7
  have hw_7 := hu_7.symm
  subst hw_7
  refine cg_astore (lv' := [(5, .ref x_7), (0, .ref o1), (1, .int x1), (2, .int x2), (3, .int x3), (4, .ref o2)]) C (Nat.le_of_ble_eq_true rfl) rfl dL_bytes_15 ?_
  refine cg_iconst C (x := nI 1) rfl dL_bytes_17 ?_
  exact cg_iret C ⟨rfl, rfl⟩ dL_bytes_18 (by decide) (by decide)
set_option maxHeartbeats 4000000 in
set_option maxRecDepth 100000 in
theorem z156_X11_bytes (l : Launch) (hlt : l.stackTraces = false) (S : cS) (dp : Nat) (o1 o2 o3 : Nat) (n1 : Nat) (x1 x2 : Int32) (h1 : n1 ≤ 2147483647) (h2 : cr S 355 o1 = (some o2)) (h3 : cK S o1 = 11) (h4 : o1 ∈ cL S) (h5 : cr S 321 o2 = (some o3)) (h6 : cK S o2 = 10) (h7 : o2 ∈ cL S) (h8 : ci S 386 o3 = (nI 0)) (h9 : cK S o3 = 12) (h10 : o3 ∈ cL S) (h11 : ci S 370 o1 = (bI false)) : cMetX "java/lang/IndexOutOfBoundsException" (fun u_ => u_ = S) l yX11_bytes cX11_bytes 4 (some .int) 9 1 6 151 [.ref o1, .int (nI n1), .int x1, .int x2] S dp := by
  intro D Y tp sz
  refine cg_bodyX (by decide +kernel) (Nat.le_of_ble_eq_true rfl) ?_
  intro p e s m args below meth c C hne
  generalize va_A (cWd Y S) sz = A at C ⊢
  have C : cC p s m args meth c cX11_bytes 4 (some .int) A D Y tp dp RX11 := C
  refine cg_lv (lv' := [(0, .ref o1), (1, .int (nI n1)), (2, .int x1), (3, .int x2)]) rfl ?_
  refine cg_aload_n C (i := 0) rfl 0 rfl dX11_bytes_0 ?_
  refine cg_iload_n C (i := 1) rfl 1 rfl dX11_bytes_1 ?_
  refine cg_iload_n C (i := 2) rfl 2 rfl dX11_bytes_2 ?_
  refine cg_iload_n C (i := 3) rfl 3 rfl dX11_bytes_3 ?_
  exact cg_callx C hne (z143_X11_postingsAt l hlt S dp o1 o2 o3 n1 x1 x2 (by omega) h2 h3 h4 h5 h6 h7 h8 h9 h10 h11) cc_X11_285 h4 h3 (by decide) rfl rfl ⟨by decide, by decide⟩ ⟨by decide, by decide⟩ rfl (Nat.le_of_ble_eq_true rfl) dX11_bytes_4 ⟨by decide, by decide⟩ (fun u_ h_ => by
      have hu_ := h_
      exact hu_)
set_option maxHeartbeats 4000000 in
set_option maxRecDepth 100000 in
theorem z157_L_bytes (l : Launch) (hlt : l.stackTraces = false) (S : cS) (dp : Nat) (o1 o2 o3 o4 : Nat) (n1 : Nat) (x1 x2 : Int32) (h1 : n1 ≤ 2147483647) (h2 : cr S 355 o1 = (some o3)) (h3 : cK S o1 = 11) (h4 : o1 ∈ cL S) (h5 : cr S 321 o3 = (some o4)) (h6 : cK S o3 = 10) (h7 : o3 ∈ cL S) (h8 : ci S 386 o4 = (nI 0)) (h9 : cK S o4 = 12) (h10 : o4 ∈ cL S) (h11 : ci S 370 o1 = (bI false)) : cMetW (cQi (fun r_ u_ => r_ = (nI 1) ∧ u_ = S)) l yL_bytes cL_bytes 6 (some .int) [(0, 12, 15, 28)] 10 1 6 174 [.ref o1, .int (nI n1), .int x1, .int x2, .ref o2] S dp := by
  intro D Y tp sz
  refine cg_bodyW (by decide +kernel) (Nat.le_of_ble_eq_true rfl) ?_
  intro p e s m args below meth c C htab
  generalize va_A (cWd Y S) sz = A at C ⊢
  have C : cC p s m args meth c cL_bytes 6 (some .int) A D Y tp dp RL := C
  refine cg_lv (lv' := [(0, .ref o1), (1, .int (nI n1)), (2, .int x1), (3, .int x2), (4, .ref o2)]) rfl ?_
  refine cg_aload C 4 rfl dL_bytes_0 ?_
  refine cg_iconst C (x := nI 0) rfl dL_bytes_2 ?_
  refine cg_aload_n C (i := 0) rfl 0 rfl dL_bytes_3 ?_
  refine cg_iload_n C (i := 1) rfl 1 rfl dL_bytes_4 ?_
  refine cg_iload_n C (i := 2) rfl 2 rfl dL_bytes_5 ?_
  refine cg_iload_n C (i := 3) rfl 3 rfl dL_bytes_6 ?_
  refine cg_callx_catch C htab (z156_X11_bytes l hlt S dp o1 o3 o4 n1 x1 x2 (by omega) h2 h3 h4 h5 h6 h7 h8 h9 h10 h11) cc_L_102 h4 h3 (by decide) rfl rfl ⟨by decide, by decide⟩ ⟨by decide, by decide⟩ rfl (Nat.le_of_ble_eq_true rfl) dL_bytes_7 (tableOf []) ⟨0, 12, 15, 28⟩ (tableOf []) rfl (fun z hz => nomatch hz) (by decide) (by decide) (name := "java/lang/IndexOutOfBoundsException") ce_L_28 (by decide) 15 rfl (fun x_7 u_7 h_7 => ?_)
  have hu_7 := h_7
  have hw_7 := hu_7.symm
  subst hw_7
  refine cg_astore (lv' := [(5, .ref x_7), (0, .ref o1), (1, .int (nI n1)), (2, .int x1), (3, .int x2), (4, .ref o2)]) C (Nat.le_of_ble_eq_true rfl) rfl dL_bytes_15 ?_
  refine cg_iconst C (x := nI 1) rfl dL_bytes_17 ?_
  exact cg_iret C ⟨rfl, rfl⟩ dL_bytes_18 (by decide) (by decide)
set_option maxHeartbeats 4000000 in
set_option maxRecDepth 100000 in
theorem z158_X11_byteAt (l : Launch) (hlt : l.stackTraces = false) (S : cS) (dp : Nat) (o1 o2 : Nat) (x1 x2 x3 x4 : Int32) (h1 : x1 < 0) (h2 : cr S 355 o1 = (some o2)) (h3 : cK S o1 = 11) (h4 : o1 ∈ cL S) (h5 : o2 ∈ cL S) (h6 : cK S o2 = 10) (h7 : ci S 370 o1 = (bI false)) : cMetX "java/lang/IndexOutOfBoundsException" (fun u_ => u_ = S) l yX11_byteAt cX11_byteAt 6 (some .int) 9 1 6 151 [.ref o1, .int x1, .int x2, .int x3, .int x4] S dp := by
  intro D Y tp sz
  refine cg_bodyX (by decide +kernel) (Nat.le_of_ble_eq_true rfl) ?_
  intro p e s m args below meth c C hne
  generalize va_A (cWd Y S) sz = A at C ⊢
  have C : cC p s m args meth c cX11_byteAt 6 (some .int) A D Y tp dp RX11 := C
  refine cg_lv (lv' := [(0, .ref o1), (1, .int x1), (2, .int x2), (3, .int x3), (4, .int x4)]) rfl ?_
  refine cg_aload_n C (i := 0) rfl 0 rfl dX11_byteAt_0 ?_
  refine cg_iload_n C (i := 1) rfl 1 rfl dX11_byteAt_1 ?_
  refine cg_iload_n C (i := 2) rfl 2 rfl dX11_byteAt_2 ?_
  refine cg_iload_n C (i := 3) rfl 3 rfl dX11_byteAt_3 ?_
  exact cg_callx C hne (z140_X11_postingsAt l hlt S dp o1 o2 x1 x2 x3 h1 h2 h3 h4 h5 h6 h7) cc_X11_285 h4 h3 (by decide) rfl rfl ⟨by decide, by decide⟩ ⟨by decide, by decide⟩ rfl (Nat.le_of_ble_eq_true rfl) dX11_byteAt_4 ⟨by decide, by decide⟩ (fun u_ h_ => by
      have hu_ := h_
      exact hu_)
set_option maxHeartbeats 4000000 in
set_option maxRecDepth 100000 in
theorem z159_L_byteAt (l : Launch) (hlt : l.stackTraces = false) (S : cS) (dp : Nat) (o1 o2 o3 : Nat) (x1 x2 x3 x4 : Int32) (h1 : x1 < 0) (h2 : cr S 355 o1 = (some o3)) (h3 : cK S o1 = 11) (h4 : o1 ∈ cL S) (h5 : o3 ∈ cL S) (h6 : cK S o3 = 10) (h7 : ci S 370 o1 = (bI false)) : cMetW (cQi (fun r_ u_ => r_ = (nI 1) ∧ u_ = S)) l yL_byteAt cL_byteAt 7 (some .int) [(0, 14, 17, 28)] 10 1 6 176 [.ref o1, .int x1, .int x2, .int x3, .int x4, .ref o2] S dp := by
  intro D Y tp sz
  refine cg_bodyW (by decide +kernel) (Nat.le_of_ble_eq_true rfl) ?_
  intro p e s m args below meth c C htab
  generalize va_A (cWd Y S) sz = A at C ⊢
  have C : cC p s m args meth c cL_byteAt 7 (some .int) A D Y tp dp RL := C
  refine cg_lv (lv' := [(0, .ref o1), (1, .int x1), (2, .int x2), (3, .int x3), (4, .int x4), (5, .ref o2)]) rfl ?_
  refine cg_aload C 5 rfl dL_byteAt_0 ?_
  refine cg_iconst C (x := nI 0) rfl dL_byteAt_2 ?_
  refine cg_aload_n C (i := 0) rfl 0 rfl dL_byteAt_3 ?_
  refine cg_iload_n C (i := 1) rfl 1 rfl dL_byteAt_4 ?_
  refine cg_iload_n C (i := 2) rfl 2 rfl dL_byteAt_5 ?_
  refine cg_iload_n C (i := 3) rfl 3 rfl dL_byteAt_6 ?_
  refine cg_iload C 4 rfl dL_byteAt_7 ?_
  refine cg_callx_catch C htab (z158_X11_byteAt l hlt S dp o1 o3 x1 x2 x3 x4 h1 h2 h3 h4 h5 h6 h7) cc_L_105 h4 h3 (by decide) rfl rfl ⟨by decide, by decide⟩ ⟨by decide, by decide⟩ rfl (Nat.le_of_ble_eq_true rfl) dL_byteAt_9 (tableOf []) ⟨0, 14, 17, 28⟩ (tableOf []) rfl (fun z hz => nomatch hz) (by decide) (by decide) (name := "java/lang/IndexOutOfBoundsException") ce_L_28 (by decide) 17 rfl (fun x_9 u_9 h_9 => ?_)
  have hu_9 := h_9
  have hw_9 := hu_9.symm
  subst hw_9
  refine cg_astore (lv' := [(6, .ref x_9), (0, .ref o1), (1, .int x1), (2, .int x2), (3, .int x3), (4, .int x4), (5, .ref o2)]) C (Nat.le_of_ble_eq_true rfl) rfl dL_byteAt_17 ?_
  refine cg_iconst C (x := nI 1) rfl dL_byteAt_19 ?_
  exact cg_iret C ⟨rfl, rfl⟩ dL_byteAt_20 (by decide) (by decide)
set_option maxHeartbeats 4000000 in
set_option maxRecDepth 100000 in
theorem z160_X11_byteAt (l : Launch) (hlt : l.stackTraces = false) (S : cS) (dp : Nat) (o1 o2 o3 : Nat) (n1 : Nat) (x1 x2 x3 : Int32) (h1 : n1 ≤ 2147483647) (h2 : cr S 355 o1 = (some o2)) (h3 : cK S o1 = 11) (h4 : o1 ∈ cL S) (h5 : cr S 321 o2 = (some o3)) (h6 : cK S o2 = 10) (h7 : o2 ∈ cL S) (h8 : ci S 386 o3 = (nI 0)) (h9 : cK S o3 = 12) (h10 : o3 ∈ cL S) (h11 : ci S 370 o1 = (bI false)) : cMetX "java/lang/IndexOutOfBoundsException" (fun u_ => u_ = S) l yX11_byteAt cX11_byteAt 6 (some .int) 9 1 6 151 [.ref o1, .int (nI n1), .int x1, .int x2, .int x3] S dp := by
  intro D Y tp sz
  refine cg_bodyX (by decide +kernel) (Nat.le_of_ble_eq_true rfl) ?_
  intro p e s m args below meth c C hne
  generalize va_A (cWd Y S) sz = A at C ⊢
  have C : cC p s m args meth c cX11_byteAt 6 (some .int) A D Y tp dp RX11 := C
  refine cg_lv (lv' := [(0, .ref o1), (1, .int (nI n1)), (2, .int x1), (3, .int x2), (4, .int x3)]) rfl ?_
  refine cg_aload_n C (i := 0) rfl 0 rfl dX11_byteAt_0 ?_
  refine cg_iload_n C (i := 1) rfl 1 rfl dX11_byteAt_1 ?_
  refine cg_iload_n C (i := 2) rfl 2 rfl dX11_byteAt_2 ?_
  refine cg_iload_n C (i := 3) rfl 3 rfl dX11_byteAt_3 ?_
  exact cg_callx C hne (z143_X11_postingsAt l hlt S dp o1 o2 o3 n1 x1 x2 (by omega) h2 h3 h4 h5 h6 h7 h8 h9 h10 h11) cc_X11_285 h4 h3 (by decide) rfl rfl ⟨by decide, by decide⟩ ⟨by decide, by decide⟩ rfl (Nat.le_of_ble_eq_true rfl) dX11_byteAt_4 ⟨by decide, by decide⟩ (fun u_ h_ => by
      have hu_ := h_
      exact hu_)
set_option maxHeartbeats 4000000 in
set_option maxRecDepth 100000 in
theorem z161_L_byteAt (l : Launch) (hlt : l.stackTraces = false) (S : cS) (dp : Nat) (o1 o2 o3 o4 : Nat) (n1 : Nat) (x1 x2 x3 : Int32) (h1 : n1 ≤ 2147483647) (h2 : cr S 355 o1 = (some o3)) (h3 : cK S o1 = 11) (h4 : o1 ∈ cL S) (h5 : cr S 321 o3 = (some o4)) (h6 : cK S o3 = 10) (h7 : o3 ∈ cL S) (h8 : ci S 386 o4 = (nI 0)) (h9 : cK S o4 = 12) (h10 : o4 ∈ cL S) (h11 : ci S 370 o1 = (bI false)) : cMetW (cQi (fun r_ u_ => r_ = (nI 1) ∧ u_ = S)) l yL_byteAt cL_byteAt 7 (some .int) [(0, 14, 17, 28)] 10 1 6 176 [.ref o1, .int (nI n1), .int x1, .int x2, .int x3, .ref o2] S dp := by
  intro D Y tp sz
  refine cg_bodyW (by decide +kernel) (Nat.le_of_ble_eq_true rfl) ?_
  intro p e s m args below meth c C htab
  generalize va_A (cWd Y S) sz = A at C ⊢
  have C : cC p s m args meth c cL_byteAt 7 (some .int) A D Y tp dp RL := C
  refine cg_lv (lv' := [(0, .ref o1), (1, .int (nI n1)), (2, .int x1), (3, .int x2), (4, .int x3), (5, .ref o2)]) rfl ?_
  refine cg_aload C 5 rfl dL_byteAt_0 ?_
  refine cg_iconst C (x := nI 0) rfl dL_byteAt_2 ?_
  refine cg_aload_n C (i := 0) rfl 0 rfl dL_byteAt_3 ?_
  refine cg_iload_n C (i := 1) rfl 1 rfl dL_byteAt_4 ?_
  refine cg_iload_n C (i := 2) rfl 2 rfl dL_byteAt_5 ?_
  refine cg_iload_n C (i := 3) rfl 3 rfl dL_byteAt_6 ?_
  refine cg_iload C 4 rfl dL_byteAt_7 ?_
  refine cg_callx_catch C htab (z160_X11_byteAt l hlt S dp o1 o3 o4 n1 x1 x2 x3 (by omega) h2 h3 h4 h5 h6 h7 h8 h9 h10 h11) cc_L_105 h4 h3 (by decide) rfl rfl ⟨by decide, by decide⟩ ⟨by decide, by decide⟩ rfl (Nat.le_of_ble_eq_true rfl) dL_byteAt_9 (tableOf []) ⟨0, 14, 17, 28⟩ (tableOf []) rfl (fun z hz => nomatch hz) (by decide) (by decide) (name := "java/lang/IndexOutOfBoundsException") ce_L_28 (by decide) 17 rfl (fun x_9 u_9 h_9 => ?_)
  have hu_9 := h_9
  have hw_9 := hu_9.symm
  subst hw_9
  refine cg_astore (lv' := [(6, .ref x_9), (0, .ref o1), (1, .int (nI n1)), (2, .int x1), (3, .int x2), (4, .int x3), (5, .ref o2)]) C (Nat.le_of_ble_eq_true rfl) rfl dL_byteAt_17 ?_
  refine cg_iconst C (x := nI 1) rfl dL_byteAt_19 ?_
  exact cg_iret C ⟨rfl, rfl⟩ dL_byteAt_20 (by decide) (by decide)
set_option maxHeartbeats 4000000 in
set_option maxRecDepth 100000 in
theorem z162_Jx4a65c_add_72be8 (l : Launch) (hlt : l.stackTraces = false) (S : cS) (dp : Nat) (o1 o2 : Nat) (h1 : ci S 386 o1 = (nI 0)) (h2 : cK S o1 = 12) (h3 : o1 ∈ cL S) (h4 : cr S 385 o1 = (some dp)) (h5 : cK S o2 = 10) (h6 : o2 ∈ cL S) : cMet (cQv (fun u_ => ∃ (q1 : Nat) (S1 : cS), q1 ∉ cL S ∧ S1 = cNewA S q1 17 10 ∧ ∃ (S2 : cS), S2 = cSr S1 385 o1 (some q1) ∧ ∃ (S3 : cS), S3 = cSO S2 q1 0 (some o2) ∧ ∃ (S4 : cS), S4 = cSi S3 386 o1 (nI 1) ∧ u_ = S4)) l yJx4a65c_add_72be8 cJx4a65c_add_72be8 4 none 3 1 10 57 [.ref o1, .ref o2, .ref dp, .int (nI 0)] S dp := by
  intro D Y tp sz
  refine cg_body (by decide +kernel) (Nat.le_of_ble_eq_true rfl) ?_
  intro p e s m args below meth c C
  generalize va_A (cWd Y S) sz = A at C ⊢
  have C : cC p s m args meth c cJx4a65c_add_72be8 4 none A D Y tp dp RJx4a65c := C
  refine cg_lv (lv' := [(0, .ref o1), (1, .ref o2), (2, .ref dp), (3, .int (nI 0))]) rfl ?_
  refine cg_iload_n C (i := 3) rfl 3 rfl dJx4a65c_add_72be8_0 ?_
  refine cg_aload_n C (i := 2) rfl 2 rfl dJx4a65c_add_72be8_1 ?_
  refine cg_dlen C dJx4a65c_add_72be8_2 ?_
  refine cg_icmp_neN C (by omega) (by omega) 11 (by decide) dJx4a65c_add_72be8_3 (fun c_ => absurd c_ (by omega)) (fun c_3 => ?_)
  refine cg_aload_n C (i := 0) rfl 0 rfl dJx4a65c_add_72be8_6 ?_
  refine cg_callr C (z65_Jx4a65c_grow_d5877 l hlt S dp o1 h1 h2 h3 h4) cc_Jx4a65c_129 h3 h2 (by decide) rfl rfl ⟨by decide, by decide⟩ ⟨by decide, by decide⟩ rfl (Nat.le_of_ble_eq_true rfl) dJx4a65c_add_72be8_7 (fun r_7 u_7 h_7 => ?_)
  obtain ⟨q1, S1, hf_q1, hS1, S2, hS2, hr_7, hu_7⟩ := h_7
  have hw_7 := hu_7.symm
  subst hw_7
  have hx_7 := hr_7.symm
  subst hx_7
  refine cg_astore_n (lv' := [(2, .ref q1), (0, .ref o1), (1, .ref o2), (3, .int (nI 0))]) C (i := 2) rfl (Nat.le_of_ble_eq_true rfl) rfl dJx4a65c_add_72be8_10 ?_
  refine cg_aload_n C (i := 2) rfl 0 rfl dJx4a65c_add_72be8_11 ?_
  refine cg_iload_n C (i := 3) rfl 3 rfl dJx4a65c_add_72be8_12 ?_
  refine cg_aload_n C (i := 1) rfl 2 rfl dJx4a65c_add_72be8_13 ?_
  refine cg_aastore C 0 (hm_Sr hS2 (hm_Ao hS1)) (hk_Sr hS2 (hk_Ao hS1)) (by rw [show cn _ _ = 10 from (hn_Sr hS2 (hn_Ao hS1))]; omega) (by rw [show cn _ _ = 10 from (hn_Sr hS2 (hn_Ao hS1))]; omega) (hm_Sr hS2 (hm_A hS1 h6)) (hk_Sr hS2 (hk_A hS1 (cm_ne h6 hf_q1) h5)) (by decide) rfl (by decide) dJx4a65c_add_72be8_14 ?_
  refine cg_nm (fun S3 (hS3 : S3 = cSO S2 q1 0 (some o2)) => ?_)
  refine cg_aload_n C (i := 0) rfl 1 rfl dJx4a65c_add_72be8_15 ?_
  refine cg_iload_n C (i := 3) rfl 3 rfl dJx4a65c_add_72be8_16 ?_
  refine cg_iconst C (x := nI 1) rfl dJx4a65c_add_72be8_17 ?_
  refine cg_iadd C dJx4a65c_add_72be8_18 ?_
  refine cg_cast (.int (nI 1)) (congrArg Value.int (by decide)) ?_
  refine cg_puti C (k := 12) (j := 2) (ty := tyJx4a65c) (fty := .int) (hm_SO hS3 (hm_Sr hS2 (hm_A hS1 h3))) (hk_SO hS3 (hk_Sr hS2 (hk_A hS1 (cm_ne h3 hf_q1) h2))) (by decide) rfl (by decide) rfl (by decide) rfl cWs_wsJx4a65c0 tyJx4a65c_ok nmJx4a65c cl_Jx4a65c_48 rfl rfl rfl rfl rfl dJx4a65c_add_72be8_19 ?_
  refine cg_nm (fun S4 (hS4 : S4 = cSi S3 386 o1 (nI 1)) => ?_)
  exact cg_vret C ⟨q1, S1, hf_q1, hS1, S2, hS2, S3, hS3, S4, hS4, rfl⟩ dJx4a65c_add_72be8_22 (by decide) (by decide)
set_option maxHeartbeats 4000000 in
set_option maxRecDepth 100000 in
theorem z163_Jx4a65c_add_9ea2d (l : Launch) (hlt : l.stackTraces = false) (S : cS) (dp : Nat) (o1 o2 : Nat) (h1 : ci S 384 o1 = (nI 0)) (h2 : cK S o1 = 12) (h3 : o1 ∈ cL S) (h4 : cr S 385 o1 = (some dp)) (h5 : ci S 386 o1 = (nI 0)) (h6 : cK S o2 = 10) (h7 : o2 ∈ cL S) : cMet (cQi (fun r_ u_ => ∃ (S1 : cS), S1 = cSi S 384 o1 (nI 1) ∧ ∃ (q1 : Nat) (S2 : cS), q1 ∉ cL S1 ∧ S2 = cNewA S1 q1 17 10 ∧ ∃ (S3 : cS), S3 = cSr S2 385 o1 (some q1) ∧ ∃ (S4 : cS), S4 = cSO S3 q1 0 (some o2) ∧ ∃ (S5 : cS), S5 = cSi S4 386 o1 (nI 1) ∧ r_ = (bI true) ∧ u_ = S5)) l yJx4a65c_add_9ea2d cJx4a65c_add_9ea2d 2 (some .boolean) 4 1 10 80 [.ref o1, .ref o2] S dp := by
  intro D Y tp sz
  refine cg_body (by decide +kernel) (Nat.le_of_ble_eq_true rfl) ?_
  intro p e s m args below meth c C
  generalize va_A (cWd Y S) sz = A at C ⊢
  have C : cC p s m args meth c cJx4a65c_add_9ea2d 2 (some .boolean) A D Y tp dp RJx4a65c := C
  refine cg_lv (lv' := [(0, .ref o1), (1, .ref o2)]) rfl ?_
  refine cg_aload_n C (i := 0) rfl 0 rfl dJx4a65c_add_9ea2d_0 ?_
  refine cg_dup C rfl dJx4a65c_add_9ea2d_1 ?_
  refine cg_getS C (k := 12) (j := 0) (.int (nI 0)) h3 h2 (by decide) rfl (by decide) rfl (show cV _ 12 0 o1 = _ from congrArg Value.int h1) cWs_wsJx4a65c0 cl_mod12 (Or.inr csf_mod) dJx4a65c_add_9ea2d_2 ?_
  refine cg_iconst C (x := nI 1) rfl dJx4a65c_add_9ea2d_5 ?_
  refine cg_iadd C dJx4a65c_add_9ea2d_6 ?_
  refine cg_cast (.int (nI 1)) (congrArg Value.int (by decide)) ?_
  refine cg_putiS C (k := 12) (j := 0) (ty := tyJx4a65c) (fty := .int) h3 h2 (by decide) rfl (by decide) rfl (by decide) rfl cWs_wsJx4a65c0 tyJx4a65c_ok nmJx4a65c cl_mod12 (Or.inr csf_mod) rfl rfl rfl rfl dJx4a65c_add_9ea2d_7 ?_
  refine cg_nm (fun S1 (hS1 : S1 = cSi S 384 o1 (nI 1)) => ?_)
  refine cg_aload_n C (i := 0) rfl 0 rfl dJx4a65c_add_9ea2d_10 ?_
  refine cg_aload_n C (i := 1) rfl 1 rfl dJx4a65c_add_9ea2d_11 ?_
  refine cg_aload_n C (i := 0) rfl 0 rfl dJx4a65c_add_9ea2d_12 ?_
  refine cg_get C (k := 12) (j := 1) (.ref dp) (hm_Si hS1 h3) (hk_Si hS1 h2) (by decide) rfl (by decide) rfl (show cV _ 12 1 o1 = _ from congrArg va_rf (hr_Si hS1 h4)) cWs_wsJx4a65c0 cl_Jx4a65c_9 rfl dJx4a65c_add_9ea2d_13 ?_
  refine cg_aload_n C (i := 0) rfl 0 rfl dJx4a65c_add_9ea2d_16 ?_
  refine cg_get C (k := 12) (j := 2) (.int (nI 0)) (hm_Si hS1 h3) (hk_Si hS1 h2) (by decide) rfl (by decide) rfl (show cV _ 12 2 o1 = _ from congrArg Value.int (hi_Si_q hS1 (by decide) h5)) cWs_wsJx4a65c0 cl_Jx4a65c_48 rfl dJx4a65c_add_9ea2d_17 ?_
  refine cg_callv C (z162_Jx4a65c_add_72be8 l hlt S1 dp o1 o2 (hi_Si_q hS1 (by decide) h5) (hk_Si hS1 h2) (hm_Si hS1 h3) (hr_Si hS1 h4) (hk_Si hS1 h6) (hm_Si hS1 h7)) cc_Jx4a65c_131 (hm_Si hS1 h3) (hk_Si hS1 h2) (by decide) rfl rfl ⟨by decide, by decide⟩ ⟨by decide, by decide⟩ rfl (Nat.le_of_ble_eq_true rfl) dJx4a65c_add_9ea2d_20 (fun u_20 h_20 => ?_)
  obtain ⟨q1, S2, hf_q1, hS2, S3, hS3, S4, hS4, S5, hS5, hu_20⟩ := h_20
  have hw_20 := hu_20.symm
  subst hw_20
  refine cg_iconst C (x := nI 1) rfl dJx4a65c_add_9ea2d_23 ?_
  refine cg_cast (.int (bI true)) rfl ?_
  exact cg_zret C (bI_nar _) ⟨S1, hS1, q1, S2, hf_q1, hS2, S3, hS3, S4, hS4, S5, hS5, rfl, rfl⟩ dJx4a65c_add_9ea2d_24 (by decide) (by decide)
set_option maxHeartbeats 4000000 in
set_option maxRecDepth 100000 in
theorem z164_X11_look (l : Launch) (hlt : l.stackTraces = false) (S : cS) (dp : Nat) (o1 o2 o3 o4 : Nat) (h1 : ci S 370 o1 = (bI false)) (h2 : cK S o1 = 11) (h3 : o1 ∈ cL S) (h4 : cr S 360 o1 = (some o2)) (h5 : ci S 386 o2 = (nI 0)) (h6 : cK S o2 = 12) (h7 : o2 ∈ cL S) (h8 : cr S 355 o1 = (some o3)) (h9 : cr S 321 o3 = (some o4)) (h10 : cK S o3 = 10) (h11 : o3 ∈ cL S) (h12 : ci S 386 o4 = (nI 0)) (h13 : cK S o4 = 12) (h14 : o4 ∈ cL S) (h15 : ci S 361 o1 = (nI 0)) (h16 : ci S 384 o2 = (nI 0)) (h17 : cr S 385 o2 = (some dp)) : cMet (cQi (fun r_ u_ => ∃ (q1 : Nat) (S1 : cS), q1 ∉ cL S ∧ S1 = cNew S q1 10 ∧ ∃ (q2 : Nat) (S2 : cS), q2 ∉ cL S1 ∧ S2 = cNew S1 q2 12 ∧ ∃ (S3 : cS), S3 = cSi S2 384 q2 (nI 0) ∧ ∃ (S4 : cS), S4 = cSr S3 385 q2 (some dp) ∧ ∃ (S5 : cS), S5 = cSr S4 321 q1 (some q2) ∧ ∃ (S6 : cS), S6 = cSi S5 320 q1 ((-1)) ∧ ∃ (S7 : cS), S7 = cSi S6 320 q1 (nI 0) ∧ ∃ (S8 : cS), S8 = cSi S7 384 o2 (nI 1) ∧ ∃ (q3 : Nat) (S9 : cS), q3 ∉ cL S8 ∧ S9 = cNewA S8 q3 17 10 ∧ ∃ (S10 : cS), S10 = cSr S9 385 o2 (some q3) ∧ ∃ (S11 : cS), S11 = cSO S10 q3 0 (some q1) ∧ ∃ (S12 : cS), S12 = cSi S11 386 o2 (nI 1) ∧ ∃ (S13 : cS), S13 = cSi S12 361 o1 (nI 1) ∧ r_ = (nI 0) ∧ u_ = S13)) l yX11_look cX11_look 3 (some .int) 6 3 15 137 [.ref o1, .int (nI 1)] S dp := by
  intro D Y tp sz
  refine cg_body (by decide +kernel) (Nat.le_of_ble_eq_true rfl) ?_
  intro p e s m args below meth c C
  generalize va_A (cWd Y S) sz = A at C ⊢
  have C : cC p s m args meth c cX11_look 3 (some .int) A D Y tp dp RX11 := C
  refine cg_lv (lv' := [(0, .ref o1), (1, .int (nI 1))]) rfl ?_
  refine cg_aload_n C (i := 0) rfl 0 rfl dX11_look_0 ?_
  refine cg_callv C (z57_X11_checkUp l hlt S dp o1 h1 h2 h3) cc_X11_177 h3 h2 (by decide) rfl rfl ⟨by decide, by decide⟩ ⟨by decide, by decide⟩ rfl (Nat.le_of_ble_eq_true rfl) dX11_look_1 (fun u_1 h_1 => ?_)
  have hu_1 := h_1
  have hw_1 := hu_1.symm
  subst hw_1
  refine cg_aload_n C (i := 0) rfl 0 rfl dX11_look_4 ?_
  refine cg_get C (k := 11) (j := 8) (.ref o2) h3 h2 (by decide) rfl (by decide) rfl (show cV _ 11 8 o1 = _ from congrArg va_rf h4) cWs_wsX110 cl_X11_52 rfl dX11_look_5 ?_
  refine cg_calli C (z58_Jx4a65c_size_8abf5 l hlt S dp o2 h5 h6 h7) cc_X11_180 h7 h6 (by decide) rfl rfl ⟨by decide, by decide⟩ ⟨by decide, by decide⟩ rfl (Nat.le_of_ble_eq_true rfl) dX11_look_8 (fun r_8 u_8 h_8 => ?_)
  obtain ⟨hr_8, hu_8⟩ := h_8
  have hw_8 := hu_8.symm
  subst hw_8
  have hx_8 := hr_8.symm
  subst hx_8
  refine cg_iconst C (x := nI 5) rfl dX11_look_11 ?_
  refine cg_icmp_ltN C (by omega) (by omega) 26 (by decide) dX11_look_12 (fun c_12 => ?_) (fun c_ => absurd c_ (by omega))
  refine cg_iload_n C (i := 1) rfl 1 rfl dX11_look_26 ?_
  refine cg_if_eqN C (by omega) 48 (by decide) dX11_look_27 (fun c_ => absurd c_ (by omega)) (fun c_27 => ?_)
  refine cg_aload_n C (i := 0) rfl 0 rfl dX11_look_30 ?_
  refine cg_get C (k := 11) (j := 3) (.ref o3) h3 h2 (by decide) rfl (by decide) rfl (show cV _ 11 3 o1 = _ from congrArg va_rf h8) cWs_wsX110 cl_X11_35 rfl dX11_look_31 ?_
  refine cg_iconst C (x := nI 0) rfl dX11_look_34 ?_
  refine cg_aload_n C (i := 0) rfl 0 rfl dX11_look_35 ?_
  refine cg_get C (k := 11) (j := 3) (.ref o3) h3 h2 (by decide) rfl (by decide) rfl (show cV _ 11 3 o1 = _ from congrArg va_rf h8) cWs_wsX110 cl_X11_35 rfl dX11_look_36 ?_
  refine cg_calli C (z94_X10_size l hlt S dp o3 o4 h9 h10 h11 h12 h13 h14) cc_X11_240 h11 h10 (by decide) rfl rfl ⟨by decide, by decide⟩ ⟨by decide, by decide⟩ rfl (Nat.le_of_ble_eq_true rfl) dX11_look_39 (fun r_39 u_39 h_39 => ?_)
  obtain ⟨hr_39, hu_39⟩ := h_39
  have hw_39 := hu_39.symm
  subst hw_39
  have hx_39 := hr_39.symm
  subst hx_39
  refine cg_callr C (z95_X10_copyOf l hlt S dp o3) cc_X11_218 h11 h10 (by decide) rfl rfl ⟨by decide, by decide⟩ ⟨by decide, by decide⟩ rfl (Nat.le_of_ble_eq_true rfl) dX11_look_42 (fun r_42 u_42 h_42 => ?_)
  obtain ⟨q1, S1, hf_q1, hS1, q2, S2, hf_q2, hS2, S3, hS3, S4, hS4, S5, hS5, S6, hS6, hr_42, hu_42⟩ := h_42
  have hw_42 := hu_42.symm
  subst hw_42
  have hx_42 := hr_42.symm
  subst hx_42
  refine cg_goto C 52 (by decide) dX11_look_45 ?_
  refine cg_astore_n (lv' := [(2, .ref q1), (0, .ref o1), (1, .int (nI 1))]) C (i := 2) rfl (Nat.le_of_ble_eq_true rfl) rfl dX11_look_52 ?_
  refine cg_aload_n C (i := 2) rfl 0 rfl dX11_look_53 ?_
  refine cg_aload_n C (i := 0) rfl 1 rfl dX11_look_54 ?_
  have f_1 : ci S3 361 o1 = (nI 0) := (hi_Si_q hS3 (by decide) (hi_N hS2 (cm_ne (hm_N hS1 h3) hf_q2) (hi_N hS1 (cm_ne h3 hf_q1) h15)))
  have f_2 : cK S3 o1 = 11 := (hk_Si hS3 (hk_N hS2 (cm_ne (hm_N hS1 h3) hf_q2) (hk_N hS1 (cm_ne h3 hf_q1) h2)))
  have f_3 : o1 ∈ cL S6 := (hm_Si hS6 (hm_Sr hS5 (hm_Sr hS4 (hm_Si hS3 (hm_N hS2 (hm_N hS1 h3))))))
  refine cg_get C (k := 11) (j := 9) (.int (nI 0)) f_3 (hk_Si hS6 (hk_Sr hS5 (hk_Sr hS4 f_2))) (by decide) rfl (by decide) rfl (show cV _ 11 9 o1 = _ from congrArg Value.int (hi_Si_q hS6 (by decide) (hi_Sr hS5 (hi_Sr hS4 f_1)))) cWs_wsX110 cl_X11_55 rfl dX11_look_55 ?_
  have f_4 : cK S4 q1 = 10 := (hk_Sr hS4 (hk_Si hS3 (hk_N hS2 (cm_ne (hm_No hS1) hf_q2) (hk_No hS1))))
  refine cg_puti C (k := 10) (j := 0) (ty := tyX10) (fty := .int) (hm_Si hS6 (hm_Sr hS5 (hm_Sr hS4 (hm_Si hS3 (hm_N hS2 (hm_No hS1)))))) (hk_Si hS6 (hk_Sr hS5 f_4)) (by decide) rfl (by decide) rfl (by decide) rfl cWs_wsX100 tyX10_ok nmX10 cl_X11_316 rfl rfl rfl rfl rfl dX11_look_58 ?_
  refine cg_nm (fun S7 (hS7 : S7 = cSi S6 320 q1 (nI 0)) => ?_)
  refine cg_aload_n C (i := 0) rfl 1 rfl dX11_look_61 ?_
  have f_5 : cr S3 360 o1 = (some o2) := (hr_Si hS3 (hr_N hS2 (cm_ne (hm_N hS1 h3) hf_q2) (hr_N hS1 (cm_ne h3 hf_q1) h4)))
  have f_6 : cr S7 360 o1 = (some o2) := (hr_Si hS7 (hr_Si hS6 (hr_Sr_q hS5 (by decide) (hr_Sr_q hS4 (by decide) f_5))))
  refine cg_get C (k := 11) (j := 8) (.ref o2) (hm_Si hS7 f_3) (hk_Si hS7 (hk_Si hS6 (hk_Sr hS5 (hk_Sr hS4 f_2)))) (by decide) rfl (by decide) rfl (show cV _ 11 8 o1 = _ from congrArg va_rf f_6) cWs_wsX110 cl_X11_52 rfl dX11_look_62 ?_
  refine cg_aload_n C (i := 2) rfl 0 rfl dX11_look_65 ?_
  have f_7 : ci S3 384 o2 = (nI 0) := (hi_Si_n hS3 (cm_ne (hm_N hS1 h7) hf_q2) (hi_N hS2 (cm_ne (hm_N hS1 h7) hf_q2) (hi_N hS1 (cm_ne h7 hf_q1) h16)))
  have f_8 : ci S7 384 o2 = (nI 0) := (hi_Si_q hS7 (by decide) (hi_Si_q hS6 (by decide) (hi_Sr hS5 (hi_Sr hS4 f_7))))
  have f_9 : cK S3 o2 = 12 := (hk_Si hS3 (hk_N hS2 (cm_ne (hm_N hS1 h7) hf_q2) (hk_N hS1 (cm_ne h7 hf_q1) h6)))
  have f_10 : o2 ∈ cL S6 := (hm_Si hS6 (hm_Sr hS5 (hm_Sr hS4 (hm_Si hS3 (hm_N hS2 (hm_N hS1 h7))))))
  have f_11 : cr S3 385 o2 = (some dp) := (hr_Si hS3 (hr_N hS2 (cm_ne (hm_N hS1 h7) hf_q2) (hr_N hS1 (cm_ne h7 hf_q1) h17)))
  have f_12 : cr S5 385 o2 = (some dp) := (hr_Sr_q hS5 (by decide) (hr_Sr_n hS4 (cm_ne (hm_N hS1 h7) hf_q2) f_11))
  have f_13 : ci S3 386 o2 = (nI 0) := (hi_Si_q hS3 (by decide) (hi_N hS2 (cm_ne (hm_N hS1 h7) hf_q2) (hi_N hS1 (cm_ne h7 hf_q1) h5)))
  have f_14 : ci S7 386 o2 = (nI 0) := (hi_Si_q hS7 (by decide) (hi_Si_q hS6 (by decide) (hi_Sr hS5 (hi_Sr hS4 f_13))))
  have f_15 : q1 ∈ cL S7 := (hm_Si hS7 (hm_Si hS6 (hm_Sr hS5 (hm_Sr hS4 (hm_Si hS3 (hm_N hS2 (hm_No hS1)))))))
  refine cg_calli C (z163_Jx4a65c_add_9ea2d l hlt S7 dp o2 q1 f_8 (hk_Si hS7 (hk_Si hS6 (hk_Sr hS5 (hk_Sr hS4 f_9)))) (hm_Si hS7 f_10) (hr_Si hS7 (hr_Si hS6 f_12)) f_14 (hk_Si hS7 (hk_Si hS6 (hk_Sr hS5 f_4))) f_15) cc_X11_200 (hm_Si hS7 f_10) (hk_Si hS7 (hk_Si hS6 (hk_Sr hS5 (hk_Sr hS4 f_9)))) (by decide) rfl rfl ⟨by decide, by decide⟩ ⟨by decide, by decide⟩ rfl (Nat.le_of_ble_eq_true rfl) dX11_look_66 (fun r_66 u_66 h_66 => ?_)
  obtain ⟨S8, hS8, q3, S9, hf_q3, hS9, S10, hS10, S11, hS11, S12, hS12, hr_66, hu_66⟩ := h_66
  have hw_66 := hu_66.symm
  subst hw_66
  have hx_66 := hr_66.symm
  subst hx_66
  refine cg_pop C rfl dX11_look_69 ?_
  refine cg_aload_n C (i := 0) rfl 1 rfl dX11_look_70 ?_
  refine cg_dup C rfl dX11_look_71 ?_
  have f_16 : ci S7 361 o1 = (nI 0) := (hi_Si_q hS7 (by decide) (hi_Si_q hS6 (by decide) (hi_Sr hS5 (hi_Sr hS4 f_1))))
  have f_17 : ci S12 361 o1 = (nI 0) := (hi_Si_q hS12 (by decide) (hi_SO hS11 (hi_Sr hS10 (hi_A hS9 (hi_Si_q hS8 (by decide) f_16)))))
  have f_18 : cK S9 o1 = 11 := (hk_A hS9 (cm_ne (hm_Si hS8 (hm_Si hS7 f_3)) hf_q3) (hk_Si hS8 (hk_Si hS7 (hk_Si hS6 (hk_Sr hS5 (hk_Sr hS4 f_2))))))
  have f_19 : o1 ∈ cL S12 := (hm_Si hS12 (hm_SO hS11 (hm_Sr hS10 (hm_A hS9 (hm_Si hS8 (hm_Si hS7 f_3))))))
  refine cg_get C (k := 11) (j := 9) (.int (nI 0)) f_19 (hk_Si hS12 (hk_SO hS11 (hk_Sr hS10 f_18))) (by decide) rfl (by decide) rfl (show cV _ 11 9 o1 = _ from congrArg Value.int f_17) cWs_wsX110 cl_X11_55 rfl dX11_look_72 ?_
  refine cg_iconst C (x := nI 1) rfl dX11_look_75 ?_
  refine cg_iadd C dX11_look_76 ?_
  refine cg_cast (.int (nI 1)) (congrArg Value.int (by decide)) ?_
  refine cg_puti C (k := 11) (j := 9) (ty := tyX11) (fty := .int) f_19 (hk_Si hS12 (hk_SO hS11 (hk_Sr hS10 f_18))) (by decide) rfl (by decide) rfl (by decide) rfl cWs_wsX110 tyX11_ok nmX11 cl_X11_55 rfl rfl rfl rfl rfl dX11_look_77 ?_
  refine cg_nm (fun S13 (hS13 : S13 = cSi S12 361 o1 (nI 1)) => ?_)
  refine cg_aload_n C (i := 2) rfl 0 rfl dX11_look_80 ?_
  have f_20 : ci S11 320 q1 = (nI 0) := (hi_SO hS11 (hi_Sr hS10 (hi_A hS9 (hi_Si_q hS8 (by decide) (hi_Si_s hS7)))))
  have f_21 : cK S9 q1 = 10 := (hk_A hS9 (cm_ne (hm_Si hS8 f_15) hf_q3) (hk_Si hS8 (hk_Si hS7 (hk_Si hS6 (hk_Sr hS5 f_4)))))
  have f_22 : q1 ∈ cL S13 := (hm_Si hS13 (hm_Si hS12 (hm_SO hS11 (hm_Sr hS10 (hm_A hS9 (hm_Si hS8 f_15))))))
  refine cg_get C (k := 10) (j := 0) (.int (nI 0)) f_22 (hk_Si hS13 (hk_Si hS12 (hk_SO hS11 (hk_Sr hS10 f_21)))) (by decide) rfl (by decide) rfl (show cV _ 10 0 q1 = _ from congrArg Value.int (hi_Si_q hS13 (by decide) (hi_Si_q hS12 (by decide) f_20))) cWs_wsX100 cl_X11_316 rfl dX11_look_81 ?_
  exact cg_iret C ⟨q1, S1, hf_q1, hS1, q2, S2, hf_q2, hS2, S3, hS3, S4, hS4, S5, hS5, S6, hS6, S7, hS7, S8, hS8, q3, S9, hf_q3, hS9, S10, hS10, S11, hS11, S12, hS12, S13, hS13, rfl, rfl⟩ dX11_look_84 (by decide) (by decide)
set_option maxHeartbeats 4000000 in
set_option maxRecDepth 100000 in
theorem z165_L_look (l : Launch) (hlt : l.stackTraces = false) (S : cS) (dp : Nat) (o1 o2 o3 o4 o5 : Nat) (h1 : ci S 370 o1 = (bI false)) (h2 : cK S o1 = 11) (h3 : o1 ∈ cL S) (h4 : cr S 360 o1 = (some o3)) (h5 : ci S 386 o3 = (nI 0)) (h6 : cK S o3 = 12) (h7 : o3 ∈ cL S) (h8 : cr S 355 o1 = (some o4)) (h9 : cr S 321 o4 = (some o5)) (h10 : cK S o4 = 10) (h11 : o4 ∈ cL S) (h12 : ci S 386 o5 = (nI 0)) (h13 : cK S o5 = 12) (h14 : o5 ∈ cL S) (h15 : ci S 361 o1 = (nI 0)) (h16 : ci S 384 o3 = (nI 0)) (h17 : cr S 385 o3 = (some dp)) (h18 : cK S o2 = 15) (h19 : o2 ∈ cL S) (h20 : cn S o2 = 1) : cMetW (cQi (fun r_ u_ => ∃ (q1 : Nat) (S1 : cS), q1 ∉ cL S ∧ S1 = cNew S q1 10 ∧ ∃ (q2 : Nat) (S2 : cS), q2 ∉ cL S1 ∧ S2 = cNew S1 q2 12 ∧ ∃ (S3 : cS), S3 = cSi S2 384 q2 (nI 0) ∧ ∃ (S4 : cS), S4 = cSr S3 385 q2 (some dp) ∧ ∃ (S5 : cS), S5 = cSr S4 321 q1 (some q2) ∧ ∃ (S6 : cS), S6 = cSi S5 320 q1 ((-1)) ∧ ∃ (S7 : cS), S7 = cSi S6 320 q1 (nI 0) ∧ ∃ (S8 : cS), S8 = cSi S7 384 o3 (nI 1) ∧ ∃ (q3 : Nat) (S9 : cS), q3 ∉ cL S8 ∧ S9 = cNewA S8 q3 17 10 ∧ ∃ (S10 : cS), S10 = cSr S9 385 o3 (some q3) ∧ ∃ (S11 : cS), S11 = cSO S10 q3 0 (some q1) ∧ ∃ (S12 : cS), S12 = cSi S11 386 o3 (nI 1) ∧ ∃ (S13 : cS), S13 = cSi S12 361 o1 (nI 1) ∧ ∃ (S14 : cS), S14 = cSJ S13 o2 0 (((nI 0)).toInt64) ∧ r_ = (nI 0) ∧ u_ = S14)) l yL_look cL_look 4 (some .int) [(0, 9, 12, 15)] 7 3 15 159 [.ref o1, .int (nI 1), .ref o2] S dp := by
  intro D Y tp sz
  refine cg_bodyW (by decide +kernel) (Nat.le_of_ble_eq_true rfl) ?_
  intro p e s m args below meth c C htab
  generalize va_A (cWd Y S) sz = A at C ⊢
  have C : cC p s m args meth c cL_look 4 (some .int) A D Y tp dp RL := C
  refine cg_lv (lv' := [(0, .ref o1), (1, .int (nI 1)), (2, .ref o2)]) rfl ?_
  refine cg_aload_n C (i := 2) rfl 2 rfl dL_look_0 ?_
  refine cg_iconst C (x := nI 0) rfl dL_look_1 ?_
  refine cg_aload_n C (i := 0) rfl 0 rfl dL_look_2 ?_
  refine cg_iload_n C (i := 1) rfl 1 rfl dL_look_3 ?_
  refine cg_calli C (z164_X11_look l hlt S dp o1 o3 o4 o5 h1 h2 h3 h4 h5 h6 h7 h8 h9 h10 h11 h12 h13 h14 h15 h16 h17) cc_L_109 h3 h2 (by decide) rfl rfl ⟨by decide, by decide⟩ ⟨by decide, by decide⟩ rfl (Nat.le_of_ble_eq_true rfl) dL_look_4 (fun r_4 u_4 h_4 => ?_)
  obtain ⟨q1, S1, hf_q1, hS1, q2, S2, hf_q2, hS2, S3, hS3, S4, hS4, S5, hS5, S6, hS6, S7, hS7, S8, hS8, q3, S9, hf_q3, hS9, S10, hS10, S11, hS11, S12, hS12, S13, hS13, hr_4, hu_4⟩ := h_4
  have hw_4 := hu_4.symm
  subst hw_4
  have hx_4 := hr_4.symm
  subst hx_4
  refine cg_i2l C dL_look_7 ?_
  have f_1 : cK S2 o2 = 15 := (hk_N hS2 (cm_ne (hm_N hS1 h19) hf_q2) (hk_N hS1 (cm_ne h19 hf_q1) h18))
  have f_2 : cK S8 o2 = 15 := (hk_Si hS8 (hk_Si hS7 (hk_Si hS6 (hk_Sr hS5 (hk_Sr hS4 (hk_Si hS3 f_1))))))
  have f_3 : o2 ∈ cL S6 := (hm_Si hS6 (hm_Sr hS5 (hm_Sr hS4 (hm_Si hS3 (hm_N hS2 (hm_N hS1 h19))))))
  have f_4 : cK S11 o2 = 15 := (hk_SO hS11 (hk_Sr hS10 (hk_A hS9 (cm_ne (hm_Si hS8 (hm_Si hS7 f_3)) hf_q3) f_2)))
  have f_5 : cn S6 o2 = 1 := (hn_Si hS6 (hn_Sr hS5 (hn_Sr hS4 (hn_Si hS3 (hn_N hS2 (hn_N hS1 h20))))))
  have f_6 : cn S9 o2 = 1 := (hn_A hS9 (cm_ne (hm_Si hS8 (hm_Si hS7 f_3)) hf_q3) (hn_Si hS8 (hn_Si hS7 f_5)))
  have f_7 : o2 ∈ cL S12 := (hm_Si hS12 (hm_SO hS11 (hm_Sr hS10 (hm_A hS9 (hm_Si hS8 (hm_Si hS7 f_3))))))
  refine cg_lastore C 0 (hm_Si hS13 f_7) (hk_Si hS13 (hk_Si hS12 f_4)) (by rw [show cn _ _ = 1 from (hn_Si hS13 (hn_Si hS12 (hn_SO hS11 (hn_Sr hS10 f_6))))]; omega) (by rw [show cn _ _ = 1 from (hn_Si hS13 (hn_Si hS12 (hn_SO hS11 (hn_Sr hS10 f_6))))]; omega) dL_look_8 ?_
  refine cg_nm (fun S14 (hS14 : S14 = cSJ S13 o2 0 (((nI 0)).toInt64)) => ?_)
  refine cg_goto C 15 (by decide) dL_look_9 ?_
  refine cg_iconst C (x := nI 0) rfl dL_look_15 ?_
  exact cg_iret C ⟨q1, S1, hf_q1, hS1, q2, S2, hf_q2, hS2, S3, hS3, S4, hS4, S5, hS5, S6, hS6, S7, hS7, S8, hS8, q3, S9, hf_q3, hS9, S10, hS10, S11, hS11, S12, hS12, S13, hS13, S14, hS14, rfl, rfl⟩ dL_look_16 (by decide) (by decide)
set_option maxHeartbeats 4000000 in
set_option maxRecDepth 100000 in
theorem z166_X11_committed (l : Launch) (hlt : l.stackTraces = false) (S : cS) (dp : Nat) (o1 : Nat) (h1 : cr S 358 o1 = none) (h2 : cK S o1 = 11) (h3 : o1 ∈ cL S) : cMet (cQr (fun r_ u_ => ∃ (q1 : Nat) (S1 : cS), q1 ∉ cL S ∧ S1 = cNew S q1 10 ∧ ∃ (q2 : Nat) (S2 : cS), q2 ∉ cL S1 ∧ S2 = cNew S1 q2 12 ∧ ∃ (S3 : cS), S3 = cSi S2 384 q2 (nI 0) ∧ ∃ (S4 : cS), S4 = cSr S3 385 q2 (some dp) ∧ ∃ (S5 : cS), S5 = cSr S4 321 q1 (some q2) ∧ ∃ (S6 : cS), S6 = cSi S5 320 q1 ((-1)) ∧ r_ = q1 ∧ u_ = S6)) l yX11_committed cX11_committed 2 (some (.object "SearchMill$View")) 5 2 5 113 [.ref o1] S dp := by
  intro D Y tp sz
  refine cg_body (by decide +kernel) (Nat.le_of_ble_eq_true rfl) ?_
  intro p e s m args below meth c C
  generalize va_A (cWd Y S) sz = A at C ⊢
  have C : cC p s m args meth c cX11_committed 2 (some (.object "SearchMill$View")) A D Y tp dp RX11 := C
  refine cg_lv (lv' := [(0, .ref o1)]) rfl ?_
  refine cg_aload_n C (i := 0) rfl 0 rfl dX11_committed_0 ?_
  refine cg_get C (k := 11) (j := 6) (.null) h3 h2 (by decide) rfl (by decide) rfl (show cV _ 11 6 o1 = _ from congrArg va_rf h1) cWs_wsX110 cl_X11_46 rfl dX11_committed_1 ?_
  refine cg_astoreN_n (lv' := [(1, .null), (0, .ref o1)]) C (i := 1) rfl (Nat.le_of_ble_eq_true rfl) rfl dX11_committed_4 ?_
  refine cg_aloadN_n C (i := 1) rfl 0 rfl dX11_committed_5 ?_
  refine cg_ifnonnullN C dX11_committed_6 ?_
  refine cg_new C (k := 10) (N := 2) (fs := [.int 0, .null]) (by decide) rfl cWs_wsX100 tyX10_ok cn_X11_30 ci_X10 ct_X10 (fun j_ hj_ => by rcases (show j_ = 0 ∨ j_ = 1 by omega) with rfl | rfl <;> rfl) rfl (by decide) (by decide) dX11_committed_9 (fun q1 hf_q1 => ?_)
  refine cg_nm (fun S1 (hS1 : S1 = cNew S q1 10) => ?_)
  refine cg_dup C rfl dX11_committed_12 ?_
  refine cg_iconst C (x := (-1)) rfl dX11_committed_13 ?_
  refine cg_callI C (z7_X10_init l hlt S1 dp q1 (hk_No hS1) (hm_No hS1)) cz_X11_32 rfl ⟨by decide, by decide⟩ ⟨by decide, by decide⟩ rfl (Nat.le_of_ble_eq_true rfl) dX11_committed_14 (fun u_14 h_14 => ?_)
  obtain ⟨q2, S2, hf_q2, hS2, S3, hS3, S4, hS4, S5, hS5, S6, hS6, hu_14⟩ := h_14
  have hw_14 := hu_14.symm
  subst hw_14
  refine cg_goto C 29 (by decide) dX11_committed_17 ?_
  exact cg_aret C rfl (by first | exact Or.inl ⟨_, rfl⟩ | exact Or.inr ⟨_, rfl⟩) ⟨q1, S1, hf_q1, hS1, q2, S2, hf_q2, hS2, S3, hS3, S4, hS4, S5, hS5, S6, hS6, rfl, rfl⟩ dX11_committed_29 (by decide) (by decide)
set_option maxHeartbeats 4000000 in
set_option maxRecDepth 100000 in
theorem z167_X11_look (l : Launch) (hlt : l.stackTraces = false) (S : cS) (dp : Nat) (o1 o2 : Nat) (h1 : ci S 370 o1 = (bI false)) (h2 : cK S o1 = 11) (h3 : o1 ∈ cL S) (h4 : cr S 360 o1 = (some o2)) (h5 : ci S 386 o2 = (nI 0)) (h6 : cK S o2 = 12) (h7 : o2 ∈ cL S) (h8 : cr S 358 o1 = none) (h9 : ci S 361 o1 = (nI 0)) (h10 : ci S 384 o2 = (nI 0)) (h11 : cr S 385 o2 = (some dp)) : cMet (cQi (fun r_ u_ => ∃ (q1 : Nat) (S1 : cS), q1 ∉ cL S ∧ S1 = cNew S q1 10 ∧ ∃ (q2 : Nat) (S2 : cS), q2 ∉ cL S1 ∧ S2 = cNew S1 q2 12 ∧ ∃ (S3 : cS), S3 = cSi S2 384 q2 (nI 0) ∧ ∃ (S4 : cS), S4 = cSr S3 385 q2 (some dp) ∧ ∃ (S5 : cS), S5 = cSr S4 321 q1 (some q2) ∧ ∃ (S6 : cS), S6 = cSi S5 320 q1 ((-1)) ∧ ∃ (S7 : cS), S7 = cSi S6 320 q1 (nI 0) ∧ ∃ (S8 : cS), S8 = cSi S7 384 o2 (nI 1) ∧ ∃ (q3 : Nat) (S9 : cS), q3 ∉ cL S8 ∧ S9 = cNewA S8 q3 17 10 ∧ ∃ (S10 : cS), S10 = cSr S9 385 o2 (some q3) ∧ ∃ (S11 : cS), S11 = cSO S10 q3 0 (some q1) ∧ ∃ (S12 : cS), S12 = cSi S11 386 o2 (nI 1) ∧ ∃ (S13 : cS), S13 = cSi S12 361 o1 (nI 1) ∧ r_ = (nI 0) ∧ u_ = S13)) l yX11_look cX11_look 3 (some .int) 6 3 15 134 [.ref o1, .int (nI 0)] S dp := by
  intro D Y tp sz
  refine cg_body (by decide +kernel) (Nat.le_of_ble_eq_true rfl) ?_
  intro p e s m args below meth c C
  generalize va_A (cWd Y S) sz = A at C ⊢
  have C : cC p s m args meth c cX11_look 3 (some .int) A D Y tp dp RX11 := C
  refine cg_lv (lv' := [(0, .ref o1), (1, .int (nI 0))]) rfl ?_
  refine cg_aload_n C (i := 0) rfl 0 rfl dX11_look_0 ?_
  refine cg_callv C (z57_X11_checkUp l hlt S dp o1 h1 h2 h3) cc_X11_177 h3 h2 (by decide) rfl rfl ⟨by decide, by decide⟩ ⟨by decide, by decide⟩ rfl (Nat.le_of_ble_eq_true rfl) dX11_look_1 (fun u_1 h_1 => ?_)
  have hu_1 := h_1
  have hw_1 := hu_1.symm
  subst hw_1
  refine cg_aload_n C (i := 0) rfl 0 rfl dX11_look_4 ?_
  refine cg_get C (k := 11) (j := 8) (.ref o2) h3 h2 (by decide) rfl (by decide) rfl (show cV _ 11 8 o1 = _ from congrArg va_rf h4) cWs_wsX110 cl_X11_52 rfl dX11_look_5 ?_
  refine cg_calli C (z58_Jx4a65c_size_8abf5 l hlt S dp o2 h5 h6 h7) cc_X11_180 h7 h6 (by decide) rfl rfl ⟨by decide, by decide⟩ ⟨by decide, by decide⟩ rfl (Nat.le_of_ble_eq_true rfl) dX11_look_8 (fun r_8 u_8 h_8 => ?_)
  obtain ⟨hr_8, hu_8⟩ := h_8
  have hw_8 := hu_8.symm
  subst hw_8
  have hx_8 := hr_8.symm
  subst hx_8
  refine cg_iconst C (x := nI 5) rfl dX11_look_11 ?_
  refine cg_icmp_ltN C (by omega) (by omega) 26 (by decide) dX11_look_12 (fun c_12 => ?_) (fun c_ => absurd c_ (by omega))
  refine cg_iload_n C (i := 1) rfl 1 rfl dX11_look_26 ?_
  refine cg_if_eqN C (by omega) 48 (by decide) dX11_look_27 (fun c_27 => ?_) (fun c_ => absurd c_ (by omega))
  refine cg_aload_n C (i := 0) rfl 0 rfl dX11_look_48 ?_
  refine cg_callr C (z166_X11_committed l hlt S dp o1 h8 h2 h3) cc_X11_247 h3 h2 (by decide) rfl rfl ⟨by decide, by decide⟩ ⟨by decide, by decide⟩ rfl (Nat.le_of_ble_eq_true rfl) dX11_look_49 (fun r_49 u_49 h_49 => ?_)
  obtain ⟨q1, S1, hf_q1, hS1, q2, S2, hf_q2, hS2, S3, hS3, S4, hS4, S5, hS5, S6, hS6, hr_49, hu_49⟩ := h_49
  have hw_49 := hu_49.symm
  subst hw_49
  have hx_49 := hr_49.symm
  subst hx_49
  refine cg_astore_n (lv' := [(2, .ref q1), (0, .ref o1), (1, .int (nI 0))]) C (i := 2) rfl (Nat.le_of_ble_eq_true rfl) rfl dX11_look_52 ?_
  refine cg_aload_n C (i := 2) rfl 0 rfl dX11_look_53 ?_
  refine cg_aload_n C (i := 0) rfl 1 rfl dX11_look_54 ?_
  have f_1 : ci S3 361 o1 = (nI 0) := (hi_Si_q hS3 (by decide) (hi_N hS2 (cm_ne (hm_N hS1 h3) hf_q2) (hi_N hS1 (cm_ne h3 hf_q1) h9)))
  have f_2 : cK S3 o1 = 11 := (hk_Si hS3 (hk_N hS2 (cm_ne (hm_N hS1 h3) hf_q2) (hk_N hS1 (cm_ne h3 hf_q1) h2)))
  have f_3 : o1 ∈ cL S6 := (hm_Si hS6 (hm_Sr hS5 (hm_Sr hS4 (hm_Si hS3 (hm_N hS2 (hm_N hS1 h3))))))
  refine cg_get C (k := 11) (j := 9) (.int (nI 0)) f_3 (hk_Si hS6 (hk_Sr hS5 (hk_Sr hS4 f_2))) (by decide) rfl (by decide) rfl (show cV _ 11 9 o1 = _ from congrArg Value.int (hi_Si_q hS6 (by decide) (hi_Sr hS5 (hi_Sr hS4 f_1)))) cWs_wsX110 cl_X11_55 rfl dX11_look_55 ?_
  have f_4 : cK S4 q1 = 10 := (hk_Sr hS4 (hk_Si hS3 (hk_N hS2 (cm_ne (hm_No hS1) hf_q2) (hk_No hS1))))
  refine cg_puti C (k := 10) (j := 0) (ty := tyX10) (fty := .int) (hm_Si hS6 (hm_Sr hS5 (hm_Sr hS4 (hm_Si hS3 (hm_N hS2 (hm_No hS1)))))) (hk_Si hS6 (hk_Sr hS5 f_4)) (by decide) rfl (by decide) rfl (by decide) rfl cWs_wsX100 tyX10_ok nmX10 cl_X11_316 rfl rfl rfl rfl rfl dX11_look_58 ?_
  refine cg_nm (fun S7 (hS7 : S7 = cSi S6 320 q1 (nI 0)) => ?_)
  refine cg_aload_n C (i := 0) rfl 1 rfl dX11_look_61 ?_
  have f_5 : cr S3 360 o1 = (some o2) := (hr_Si hS3 (hr_N hS2 (cm_ne (hm_N hS1 h3) hf_q2) (hr_N hS1 (cm_ne h3 hf_q1) h4)))
  have f_6 : cr S7 360 o1 = (some o2) := (hr_Si hS7 (hr_Si hS6 (hr_Sr_q hS5 (by decide) (hr_Sr_q hS4 (by decide) f_5))))
  refine cg_get C (k := 11) (j := 8) (.ref o2) (hm_Si hS7 f_3) (hk_Si hS7 (hk_Si hS6 (hk_Sr hS5 (hk_Sr hS4 f_2)))) (by decide) rfl (by decide) rfl (show cV _ 11 8 o1 = _ from congrArg va_rf f_6) cWs_wsX110 cl_X11_52 rfl dX11_look_62 ?_
  refine cg_aload_n C (i := 2) rfl 0 rfl dX11_look_65 ?_
  have f_7 : ci S3 384 o2 = (nI 0) := (hi_Si_n hS3 (cm_ne (hm_N hS1 h7) hf_q2) (hi_N hS2 (cm_ne (hm_N hS1 h7) hf_q2) (hi_N hS1 (cm_ne h7 hf_q1) h10)))
  have f_8 : ci S7 384 o2 = (nI 0) := (hi_Si_q hS7 (by decide) (hi_Si_q hS6 (by decide) (hi_Sr hS5 (hi_Sr hS4 f_7))))
  have f_9 : cK S3 o2 = 12 := (hk_Si hS3 (hk_N hS2 (cm_ne (hm_N hS1 h7) hf_q2) (hk_N hS1 (cm_ne h7 hf_q1) h6)))
  have f_10 : o2 ∈ cL S6 := (hm_Si hS6 (hm_Sr hS5 (hm_Sr hS4 (hm_Si hS3 (hm_N hS2 (hm_N hS1 h7))))))
  have f_11 : cr S3 385 o2 = (some dp) := (hr_Si hS3 (hr_N hS2 (cm_ne (hm_N hS1 h7) hf_q2) (hr_N hS1 (cm_ne h7 hf_q1) h11)))
  have f_12 : cr S5 385 o2 = (some dp) := (hr_Sr_q hS5 (by decide) (hr_Sr_n hS4 (cm_ne (hm_N hS1 h7) hf_q2) f_11))
  have f_13 : ci S3 386 o2 = (nI 0) := (hi_Si_q hS3 (by decide) (hi_N hS2 (cm_ne (hm_N hS1 h7) hf_q2) (hi_N hS1 (cm_ne h7 hf_q1) h5)))
  have f_14 : ci S7 386 o2 = (nI 0) := (hi_Si_q hS7 (by decide) (hi_Si_q hS6 (by decide) (hi_Sr hS5 (hi_Sr hS4 f_13))))
  have f_15 : q1 ∈ cL S7 := (hm_Si hS7 (hm_Si hS6 (hm_Sr hS5 (hm_Sr hS4 (hm_Si hS3 (hm_N hS2 (hm_No hS1)))))))
  refine cg_calli C (z163_Jx4a65c_add_9ea2d l hlt S7 dp o2 q1 f_8 (hk_Si hS7 (hk_Si hS6 (hk_Sr hS5 (hk_Sr hS4 f_9)))) (hm_Si hS7 f_10) (hr_Si hS7 (hr_Si hS6 f_12)) f_14 (hk_Si hS7 (hk_Si hS6 (hk_Sr hS5 f_4))) f_15) cc_X11_200 (hm_Si hS7 f_10) (hk_Si hS7 (hk_Si hS6 (hk_Sr hS5 (hk_Sr hS4 f_9)))) (by decide) rfl rfl ⟨by decide, by decide⟩ ⟨by decide, by decide⟩ rfl (Nat.le_of_ble_eq_true rfl) dX11_look_66 (fun r_66 u_66 h_66 => ?_)
  obtain ⟨S8, hS8, q3, S9, hf_q3, hS9, S10, hS10, S11, hS11, S12, hS12, hr_66, hu_66⟩ := h_66
  have hw_66 := hu_66.symm
  subst hw_66
  have hx_66 := hr_66.symm
  subst hx_66
  refine cg_pop C rfl dX11_look_69 ?_
  refine cg_aload_n C (i := 0) rfl 1 rfl dX11_look_70 ?_
  refine cg_dup C rfl dX11_look_71 ?_
  have f_16 : ci S7 361 o1 = (nI 0) := (hi_Si_q hS7 (by decide) (hi_Si_q hS6 (by decide) (hi_Sr hS5 (hi_Sr hS4 f_1))))
  have f_17 : ci S12 361 o1 = (nI 0) := (hi_Si_q hS12 (by decide) (hi_SO hS11 (hi_Sr hS10 (hi_A hS9 (hi_Si_q hS8 (by decide) f_16)))))
  have f_18 : cK S9 o1 = 11 := (hk_A hS9 (cm_ne (hm_Si hS8 (hm_Si hS7 f_3)) hf_q3) (hk_Si hS8 (hk_Si hS7 (hk_Si hS6 (hk_Sr hS5 (hk_Sr hS4 f_2))))))
  have f_19 : o1 ∈ cL S12 := (hm_Si hS12 (hm_SO hS11 (hm_Sr hS10 (hm_A hS9 (hm_Si hS8 (hm_Si hS7 f_3))))))
  refine cg_get C (k := 11) (j := 9) (.int (nI 0)) f_19 (hk_Si hS12 (hk_SO hS11 (hk_Sr hS10 f_18))) (by decide) rfl (by decide) rfl (show cV _ 11 9 o1 = _ from congrArg Value.int f_17) cWs_wsX110 cl_X11_55 rfl dX11_look_72 ?_
  refine cg_iconst C (x := nI 1) rfl dX11_look_75 ?_
  refine cg_iadd C dX11_look_76 ?_
  refine cg_cast (.int (nI 1)) (congrArg Value.int (by decide)) ?_
  refine cg_puti C (k := 11) (j := 9) (ty := tyX11) (fty := .int) f_19 (hk_Si hS12 (hk_SO hS11 (hk_Sr hS10 f_18))) (by decide) rfl (by decide) rfl (by decide) rfl cWs_wsX110 tyX11_ok nmX11 cl_X11_55 rfl rfl rfl rfl rfl dX11_look_77 ?_
  refine cg_nm (fun S13 (hS13 : S13 = cSi S12 361 o1 (nI 1)) => ?_)
  refine cg_aload_n C (i := 2) rfl 0 rfl dX11_look_80 ?_
  have f_20 : ci S11 320 q1 = (nI 0) := (hi_SO hS11 (hi_Sr hS10 (hi_A hS9 (hi_Si_q hS8 (by decide) (hi_Si_s hS7)))))
  have f_21 : cK S9 q1 = 10 := (hk_A hS9 (cm_ne (hm_Si hS8 f_15) hf_q3) (hk_Si hS8 (hk_Si hS7 (hk_Si hS6 (hk_Sr hS5 f_4)))))
  have f_22 : q1 ∈ cL S13 := (hm_Si hS13 (hm_Si hS12 (hm_SO hS11 (hm_Sr hS10 (hm_A hS9 (hm_Si hS8 f_15))))))
  refine cg_get C (k := 10) (j := 0) (.int (nI 0)) f_22 (hk_Si hS13 (hk_Si hS12 (hk_SO hS11 (hk_Sr hS10 f_21)))) (by decide) rfl (by decide) rfl (show cV _ 10 0 q1 = _ from congrArg Value.int (hi_Si_q hS13 (by decide) (hi_Si_q hS12 (by decide) f_20))) cWs_wsX100 cl_X11_316 rfl dX11_look_81 ?_
  exact cg_iret C ⟨q1, S1, hf_q1, hS1, q2, S2, hf_q2, hS2, S3, hS3, S4, hS4, S5, hS5, S6, hS6, S7, hS7, S8, hS8, q3, S9, hf_q3, hS9, S10, hS10, S11, hS11, S12, hS12, S13, hS13, rfl, rfl⟩ dX11_look_84 (by decide) (by decide)
set_option maxHeartbeats 4000000 in
set_option maxRecDepth 100000 in
theorem z168_L_look (l : Launch) (hlt : l.stackTraces = false) (S : cS) (dp : Nat) (o1 o2 o3 : Nat) (h1 : ci S 370 o1 = (bI false)) (h2 : cK S o1 = 11) (h3 : o1 ∈ cL S) (h4 : cr S 360 o1 = (some o3)) (h5 : ci S 386 o3 = (nI 0)) (h6 : cK S o3 = 12) (h7 : o3 ∈ cL S) (h8 : cr S 358 o1 = none) (h9 : ci S 361 o1 = (nI 0)) (h10 : ci S 384 o3 = (nI 0)) (h11 : cr S 385 o3 = (some dp)) (h12 : cK S o2 = 15) (h13 : o2 ∈ cL S) (h14 : cn S o2 = 1) : cMetW (cQi (fun r_ u_ => ∃ (q1 : Nat) (S1 : cS), q1 ∉ cL S ∧ S1 = cNew S q1 10 ∧ ∃ (q2 : Nat) (S2 : cS), q2 ∉ cL S1 ∧ S2 = cNew S1 q2 12 ∧ ∃ (S3 : cS), S3 = cSi S2 384 q2 (nI 0) ∧ ∃ (S4 : cS), S4 = cSr S3 385 q2 (some dp) ∧ ∃ (S5 : cS), S5 = cSr S4 321 q1 (some q2) ∧ ∃ (S6 : cS), S6 = cSi S5 320 q1 ((-1)) ∧ ∃ (S7 : cS), S7 = cSi S6 320 q1 (nI 0) ∧ ∃ (S8 : cS), S8 = cSi S7 384 o3 (nI 1) ∧ ∃ (q3 : Nat) (S9 : cS), q3 ∉ cL S8 ∧ S9 = cNewA S8 q3 17 10 ∧ ∃ (S10 : cS), S10 = cSr S9 385 o3 (some q3) ∧ ∃ (S11 : cS), S11 = cSO S10 q3 0 (some q1) ∧ ∃ (S12 : cS), S12 = cSi S11 386 o3 (nI 1) ∧ ∃ (S13 : cS), S13 = cSi S12 361 o1 (nI 1) ∧ ∃ (S14 : cS), S14 = cSJ S13 o2 0 (((nI 0)).toInt64) ∧ r_ = (nI 0) ∧ u_ = S14)) l yL_look cL_look 4 (some .int) [(0, 9, 12, 15)] 7 3 15 156 [.ref o1, .int (nI 0), .ref o2] S dp := by
  intro D Y tp sz
  refine cg_bodyW (by decide +kernel) (Nat.le_of_ble_eq_true rfl) ?_
  intro p e s m args below meth c C htab
  generalize va_A (cWd Y S) sz = A at C ⊢
  have C : cC p s m args meth c cL_look 4 (some .int) A D Y tp dp RL := C
  refine cg_lv (lv' := [(0, .ref o1), (1, .int (nI 0)), (2, .ref o2)]) rfl ?_
  refine cg_aload_n C (i := 2) rfl 2 rfl dL_look_0 ?_
  refine cg_iconst C (x := nI 0) rfl dL_look_1 ?_
  refine cg_aload_n C (i := 0) rfl 0 rfl dL_look_2 ?_
  refine cg_iload_n C (i := 1) rfl 1 rfl dL_look_3 ?_
  refine cg_calli C (z167_X11_look l hlt S dp o1 o3 h1 h2 h3 h4 h5 h6 h7 h8 h9 h10 h11) cc_L_109 h3 h2 (by decide) rfl rfl ⟨by decide, by decide⟩ ⟨by decide, by decide⟩ rfl (Nat.le_of_ble_eq_true rfl) dL_look_4 (fun r_4 u_4 h_4 => ?_)
  obtain ⟨q1, S1, hf_q1, hS1, q2, S2, hf_q2, hS2, S3, hS3, S4, hS4, S5, hS5, S6, hS6, S7, hS7, S8, hS8, q3, S9, hf_q3, hS9, S10, hS10, S11, hS11, S12, hS12, S13, hS13, hr_4, hu_4⟩ := h_4
  have hw_4 := hu_4.symm
  subst hw_4
  have hx_4 := hr_4.symm
  subst hx_4
  refine cg_i2l C dL_look_7 ?_
  have f_1 : cK S2 o2 = 15 := (hk_N hS2 (cm_ne (hm_N hS1 h13) hf_q2) (hk_N hS1 (cm_ne h13 hf_q1) h12))
  have f_2 : cK S8 o2 = 15 := (hk_Si hS8 (hk_Si hS7 (hk_Si hS6 (hk_Sr hS5 (hk_Sr hS4 (hk_Si hS3 f_1))))))
  have f_3 : o2 ∈ cL S6 := (hm_Si hS6 (hm_Sr hS5 (hm_Sr hS4 (hm_Si hS3 (hm_N hS2 (hm_N hS1 h13))))))
  have f_4 : cK S11 o2 = 15 := (hk_SO hS11 (hk_Sr hS10 (hk_A hS9 (cm_ne (hm_Si hS8 (hm_Si hS7 f_3)) hf_q3) f_2)))
  have f_5 : cn S6 o2 = 1 := (hn_Si hS6 (hn_Sr hS5 (hn_Sr hS4 (hn_Si hS3 (hn_N hS2 (hn_N hS1 h14))))))
  have f_6 : cn S9 o2 = 1 := (hn_A hS9 (cm_ne (hm_Si hS8 (hm_Si hS7 f_3)) hf_q3) (hn_Si hS8 (hn_Si hS7 f_5)))
  have f_7 : o2 ∈ cL S12 := (hm_Si hS12 (hm_SO hS11 (hm_Sr hS10 (hm_A hS9 (hm_Si hS8 (hm_Si hS7 f_3))))))
  refine cg_lastore C 0 (hm_Si hS13 f_7) (hk_Si hS13 (hk_Si hS12 f_4)) (by rw [show cn _ _ = 1 from (hn_Si hS13 (hn_Si hS12 (hn_SO hS11 (hn_Sr hS10 f_6))))]; omega) (by rw [show cn _ _ = 1 from (hn_Si hS13 (hn_Si hS12 (hn_SO hS11 (hn_Sr hS10 f_6))))]; omega) dL_look_8 ?_
  refine cg_nm (fun S14 (hS14 : S14 = cSJ S13 o2 0 (((nI 0)).toInt64)) => ?_)
  refine cg_goto C 15 (by decide) dL_look_9 ?_
  refine cg_iconst C (x := nI 0) rfl dL_look_15 ?_
  exact cg_iret C ⟨q1, S1, hf_q1, hS1, q2, S2, hf_q2, hS2, S3, hS3, S4, hS4, S5, hS5, S6, hS6, S7, hS7, S8, hS8, q3, S9, hf_q3, hS9, S10, hS10, S11, hS11, S12, hS12, S13, hS13, S14, hS14, rfl, rfl⟩ dL_look_16 (by decide) (by decide)
set_option maxHeartbeats 4000000 in
set_option maxRecDepth 100000 in
theorem z169_X11_snapshotOf (l : Launch) (hlt : l.stackTraces = false) (S : cS) (dp : Nat) (o1 o2 : Nat) (x1 : Int32) (h1 : cr S 360 o1 = (some o2)) (h2 : cK S o1 = 11) (h3 : o1 ∈ cL S) (h4 : ci S 386 o2 = (nI 0)) (h5 : cK S o2 = 12) (h6 : o2 ∈ cL S) : cMetX "java/lang/IndexOutOfBoundsException" (fun u_ => u_ = S) l yX11_snapshotOf cX11_snapshotOf 3 (some (.object "SearchMill$View")) 6 1 6 82 [.ref o1, .int x1] S dp := by
  intro D Y tp sz
  refine cg_bodyX (by decide +kernel) (Nat.le_of_ble_eq_true rfl) ?_
  intro p e s m args below meth c C hne
  generalize va_A (cWd Y S) sz = A at C ⊢
  have C : cC p s m args meth c cX11_snapshotOf 3 (some (.object "SearchMill$View")) A D Y tp dp RX11 := C
  refine cg_lv (lv' := [(0, .ref o1), (1, .int x1)]) rfl ?_
  refine cg_iconst C (x := nI 0) rfl dX11_snapshotOf_0 ?_
  refine cg_istore_n C (i := 2) (lv' := [(2, .int (nI 0)), (0, .ref o1), (1, .int x1)]) rfl (Nat.le_of_ble_eq_true rfl) rfl dX11_snapshotOf_1 ?_
  refine cg_iload_n C (i := 2) rfl 0 rfl dX11_snapshotOf_2 ?_
  refine cg_aload_n C (i := 0) rfl 1 rfl dX11_snapshotOf_3 ?_
  refine cg_get C (k := 11) (j := 8) (.ref o2) h3 h2 (by decide) rfl (by decide) rfl (show cV _ 11 8 o1 = _ from congrArg va_rf h1) cWs_wsX110 cl_X11_52 rfl dX11_snapshotOf_4 ?_
  refine cg_calli C (z58_Jx4a65c_size_8abf5 l hlt S dp o2 h4 h5 h6) cc_X11_180 h6 h5 (by decide) rfl rfl ⟨by decide, by decide⟩ ⟨by decide, by decide⟩ rfl (Nat.le_of_ble_eq_true rfl) dX11_snapshotOf_7 (fun r_7 u_7 h_7 => ?_)
  obtain ⟨hr_7, hu_7⟩ := h_7
  have hw_7 := hu_7.symm
  subst hw_7
  have hx_7 := hr_7.symm
  subst hx_7
  refine cg_icmp_geN C (by omega) (by omega) 49 (by decide) dX11_snapshotOf_10 (fun c_10 => ?_) (fun c_ => absurd c_ (by omega))
  exact cg_throw3W C hlt hne "there is no such snapshot" ce_X11_269 cei_3 (by decide) dX11_snapshotOf_49 dX11_snapshotOf_52 dX11_snapshotOf_53 dX11_snapshotOf_56 dX11_snapshotOf_59 (by decide) (by decide) ⟨by decide, by decide⟩ ⟨by decide, by decide⟩ rfl
set_option maxHeartbeats 4000000 in
set_option maxRecDepth 100000 in
theorem z170_X11_shut (l : Launch) (hlt : l.stackTraces = false) (S : cS) (dp : Nat) (o1 o2 : Nat) (x1 : Int32) (h1 : cr S 360 o1 = (some o2)) (h2 : cK S o1 = 11) (h3 : o1 ∈ cL S) (h4 : ci S 386 o2 = (nI 0)) (h5 : cK S o2 = 12) (h6 : o2 ∈ cL S) : cMetX "java/lang/IndexOutOfBoundsException" (fun u_ => u_ = S) l yX11_shut cX11_shut 4 (some .int) 7 1 6 104 [.ref o1, .int x1] S dp := by
  intro D Y tp sz
  refine cg_bodyX (by decide +kernel) (Nat.le_of_ble_eq_true rfl) ?_
  intro p e s m args below meth c C hne
  generalize va_A (cWd Y S) sz = A at C ⊢
  have C : cC p s m args meth c cX11_shut 4 (some .int) A D Y tp dp RX11 := C
  refine cg_lv (lv' := [(0, .ref o1), (1, .int x1)]) rfl ?_
  refine cg_aload_n C (i := 0) rfl 0 rfl dX11_shut_0 ?_
  refine cg_iload_n C (i := 1) rfl 1 rfl dX11_shut_1 ?_
  exact cg_callx C hne (z169_X11_snapshotOf l hlt S dp o1 o2 x1 h1 h2 h3 h4 h5 h6) cc_X11_317 h3 h2 (by decide) rfl rfl ⟨by decide, by decide⟩ ⟨by decide, by decide⟩ rfl (Nat.le_of_ble_eq_true rfl) dX11_shut_2 ⟨by decide, by decide⟩ (fun u_ h_ => by
      have hu_ := h_
      exact hu_)
set_option maxHeartbeats 4000000 in
set_option maxRecDepth 100000 in
theorem z171_L_shut (l : Launch) (hlt : l.stackTraces = false) (S : cS) (dp : Nat) (o1 o2 o3 : Nat) (x1 : Int32) (h1 : cr S 360 o1 = (some o3)) (h2 : cK S o1 = 11) (h3 : o1 ∈ cL S) (h4 : ci S 386 o3 = (nI 0)) (h5 : cK S o3 = 12) (h6 : o3 ∈ cL S) : cMetW (cQi (fun r_ u_ => r_ = (nI 1) ∧ u_ = S)) l yL_shut cL_shut 4 (some .int) [(0, 9, 12, 28)] 8 1 6 127 [.ref o1, .int x1, .ref o2] S dp := by
  intro D Y tp sz
  refine cg_bodyW (by decide +kernel) (Nat.le_of_ble_eq_true rfl) ?_
  intro p e s m args below meth c C htab
  generalize va_A (cWd Y S) sz = A at C ⊢
  have C : cC p s m args meth c cL_shut 4 (some .int) A D Y tp dp RL := C
  refine cg_lv (lv' := [(0, .ref o1), (1, .int x1), (2, .ref o2)]) rfl ?_
  refine cg_aload_n C (i := 2) rfl 2 rfl dL_shut_0 ?_
  refine cg_iconst C (x := nI 0) rfl dL_shut_1 ?_
  refine cg_aload_n C (i := 0) rfl 0 rfl dL_shut_2 ?_
  refine cg_iload_n C (i := 1) rfl 1 rfl dL_shut_3 ?_
  refine cg_callx_catch C htab (z170_X11_shut l hlt S dp o1 o3 x1 h1 h2 h3 h4 h5 h6) cc_L_113 h3 h2 (by decide) rfl rfl ⟨by decide, by decide⟩ ⟨by decide, by decide⟩ rfl (Nat.le_of_ble_eq_true rfl) dL_shut_4 (tableOf []) ⟨0, 9, 12, 28⟩ (tableOf []) rfl (fun z hz => nomatch hz) (by decide) (by decide) (name := "java/lang/IndexOutOfBoundsException") ce_L_28 (by decide) 12 rfl (fun x_4 u_4 h_4 => ?_)
  have hu_4 := h_4
  have hw_4 := hu_4.symm
  subst hw_4
  refine cg_astore_n (lv' := [(3, .ref x_4), (0, .ref o1), (1, .int x1), (2, .ref o2)]) C (i := 3) rfl (Nat.le_of_ble_eq_true rfl) rfl dL_shut_12 ?_
  refine cg_iconst C (x := nI 1) rfl dL_shut_13 ?_
  exact cg_iret C ⟨rfl, rfl⟩ dL_shut_14 (by decide) (by decide)
set_option maxHeartbeats 4000000 in
set_option maxRecDepth 100000 in
theorem z172_X11_snapshotOf (l : Launch) (hlt : l.stackTraces = false) (S : cS) (dp : Nat) (o1 o2 : Nat) (x1 : Int32) (h1 : x1 < 0) (h2 : cr S 360 o1 = (some o2)) (h3 : cK S o1 = 11) (h4 : o1 ∈ cL S) (h5 : ci S 386 o2 = (nI 0)) (h6 : cK S o2 = 12) (h7 : o2 ∈ cL S) : cMetX "java/lang/IndexOutOfBoundsException" (fun u_ => u_ = S) l yX11_snapshotOf cX11_snapshotOf 3 (some (.object "SearchMill$View")) 6 1 6 82 [.ref o1, .int x1] S dp := by
  intro D Y tp sz
  refine cg_bodyX (by decide +kernel) (Nat.le_of_ble_eq_true rfl) ?_
  intro p e s m args below meth c C hne
  generalize va_A (cWd Y S) sz = A at C ⊢
  have C : cC p s m args meth c cX11_snapshotOf 3 (some (.object "SearchMill$View")) A D Y tp dp RX11 := C
  refine cg_lv (lv' := [(0, .ref o1), (1, .int x1)]) rfl ?_
  refine cg_iconst C (x := nI 0) rfl dX11_snapshotOf_0 ?_
  refine cg_istore_n C (i := 2) (lv' := [(2, .int (nI 0)), (0, .ref o1), (1, .int x1)]) rfl (Nat.le_of_ble_eq_true rfl) rfl dX11_snapshotOf_1 ?_
  refine cg_iload_n C (i := 2) rfl 0 rfl dX11_snapshotOf_2 ?_
  refine cg_aload_n C (i := 0) rfl 1 rfl dX11_snapshotOf_3 ?_
  refine cg_get C (k := 11) (j := 8) (.ref o2) h4 h3 (by decide) rfl (by decide) rfl (show cV _ 11 8 o1 = _ from congrArg va_rf h2) cWs_wsX110 cl_X11_52 rfl dX11_snapshotOf_4 ?_
  refine cg_calli C (z58_Jx4a65c_size_8abf5 l hlt S dp o2 h5 h6 h7) cc_X11_180 h7 h6 (by decide) rfl rfl ⟨by decide, by decide⟩ ⟨by decide, by decide⟩ rfl (Nat.le_of_ble_eq_true rfl) dX11_snapshotOf_7 (fun r_7 u_7 h_7 => ?_)
  obtain ⟨hr_7, hu_7⟩ := h_7
  have hw_7 := hu_7.symm
  subst hw_7
  have hx_7 := hr_7.symm
  subst hx_7
  refine cg_icmp_geN C (by omega) (by omega) 49 (by decide) dX11_snapshotOf_10 (fun c_10 => ?_) (fun c_ => absurd c_ (by omega))
  exact cg_throw3W C hlt hne "there is no such snapshot" ce_X11_269 cei_3 (by decide) dX11_snapshotOf_49 dX11_snapshotOf_52 dX11_snapshotOf_53 dX11_snapshotOf_56 dX11_snapshotOf_59 (by decide) (by decide) ⟨by decide, by decide⟩ ⟨by decide, by decide⟩ rfl
set_option maxHeartbeats 4000000 in
set_option maxRecDepth 100000 in
theorem z173_X11_shut (l : Launch) (hlt : l.stackTraces = false) (S : cS) (dp : Nat) (o1 o2 : Nat) (x1 : Int32) (h1 : x1 < 0) (h2 : cr S 360 o1 = (some o2)) (h3 : cK S o1 = 11) (h4 : o1 ∈ cL S) (h5 : ci S 386 o2 = (nI 0)) (h6 : cK S o2 = 12) (h7 : o2 ∈ cL S) : cMetX "java/lang/IndexOutOfBoundsException" (fun u_ => u_ = S) l yX11_shut cX11_shut 4 (some .int) 7 1 6 104 [.ref o1, .int x1] S dp := by
  intro D Y tp sz
  refine cg_bodyX (by decide +kernel) (Nat.le_of_ble_eq_true rfl) ?_
  intro p e s m args below meth c C hne
  generalize va_A (cWd Y S) sz = A at C ⊢
  have C : cC p s m args meth c cX11_shut 4 (some .int) A D Y tp dp RX11 := C
  refine cg_lv (lv' := [(0, .ref o1), (1, .int x1)]) rfl ?_
  refine cg_aload_n C (i := 0) rfl 0 rfl dX11_shut_0 ?_
  refine cg_iload_n C (i := 1) rfl 1 rfl dX11_shut_1 ?_
  exact cg_callx C hne (z172_X11_snapshotOf l hlt S dp o1 o2 x1 h1 h2 h3 h4 h5 h6 h7) cc_X11_317 h4 h3 (by decide) rfl rfl ⟨by decide, by decide⟩ ⟨by decide, by decide⟩ rfl (Nat.le_of_ble_eq_true rfl) dX11_shut_2 ⟨by decide, by decide⟩ (fun u_ h_ => by
      have hu_ := h_
      exact hu_)
set_option maxHeartbeats 4000000 in
set_option maxRecDepth 100000 in
theorem z174_L_shut (l : Launch) (hlt : l.stackTraces = false) (S : cS) (dp : Nat) (o1 o2 o3 : Nat) (x1 : Int32) (h1 : x1 < 0) (h2 : cr S 360 o1 = (some o3)) (h3 : cK S o1 = 11) (h4 : o1 ∈ cL S) (h5 : ci S 386 o3 = (nI 0)) (h6 : cK S o3 = 12) (h7 : o3 ∈ cL S) : cMetW (cQi (fun r_ u_ => r_ = (nI 1) ∧ u_ = S)) l yL_shut cL_shut 4 (some .int) [(0, 9, 12, 28)] 8 1 6 127 [.ref o1, .int x1, .ref o2] S dp := by
  intro D Y tp sz
  refine cg_bodyW (by decide +kernel) (Nat.le_of_ble_eq_true rfl) ?_
  intro p e s m args below meth c C htab
  generalize va_A (cWd Y S) sz = A at C ⊢
  have C : cC p s m args meth c cL_shut 4 (some .int) A D Y tp dp RL := C
  refine cg_lv (lv' := [(0, .ref o1), (1, .int x1), (2, .ref o2)]) rfl ?_
  refine cg_aload_n C (i := 2) rfl 2 rfl dL_shut_0 ?_
  refine cg_iconst C (x := nI 0) rfl dL_shut_1 ?_
  refine cg_aload_n C (i := 0) rfl 0 rfl dL_shut_2 ?_
  refine cg_iload_n C (i := 1) rfl 1 rfl dL_shut_3 ?_
  refine cg_callx_catch C htab (z173_X11_shut l hlt S dp o1 o3 x1 h1 h2 h3 h4 h5 h6 h7) cc_L_113 h4 h3 (by decide) rfl rfl ⟨by decide, by decide⟩ ⟨by decide, by decide⟩ rfl (Nat.le_of_ble_eq_true rfl) dL_shut_4 (tableOf []) ⟨0, 9, 12, 28⟩ (tableOf []) rfl (fun z hz => nomatch hz) (by decide) (by decide) (name := "java/lang/IndexOutOfBoundsException") ce_L_28 (by decide) 12 rfl (fun x_4 u_4 h_4 => ?_)
  have hu_4 := h_4
  have hw_4 := hu_4.symm
  subst hw_4
  refine cg_astore_n (lv' := [(3, .ref x_4), (0, .ref o1), (1, .int x1), (2, .ref o2)]) C (i := 3) rfl (Nat.le_of_ble_eq_true rfl) rfl dL_shut_12 ?_
  refine cg_iconst C (x := nI 1) rfl dL_shut_13 ?_
  exact cg_iret C ⟨rfl, rfl⟩ dL_shut_14 (by decide) (by decide)
set_option maxHeartbeats 4000000 in
set_option maxRecDepth 100000 in
theorem z175_X11_snapshotOf (l : Launch) (hlt : l.stackTraces = false) (S : cS) (dp : Nat) (o1 o2 : Nat) (n1 : Nat) (h1 : n1 ≤ 2147483647) (h2 : cr S 360 o1 = (some o2)) (h3 : cK S o1 = 11) (h4 : o1 ∈ cL S) (h5 : ci S 386 o2 = (nI 0)) (h6 : cK S o2 = 12) (h7 : o2 ∈ cL S) : cMetX "java/lang/IndexOutOfBoundsException" (fun u_ => u_ = S) l yX11_snapshotOf cX11_snapshotOf 3 (some (.object "SearchMill$View")) 6 1 6 82 [.ref o1, .int (nI n1)] S dp := by
  intro D Y tp sz
  refine cg_bodyX (by decide +kernel) (Nat.le_of_ble_eq_true rfl) ?_
  intro p e s m args below meth c C hne
  generalize va_A (cWd Y S) sz = A at C ⊢
  have C : cC p s m args meth c cX11_snapshotOf 3 (some (.object "SearchMill$View")) A D Y tp dp RX11 := C
  refine cg_lv (lv' := [(0, .ref o1), (1, .int (nI n1))]) rfl ?_
  refine cg_iconst C (x := nI 0) rfl dX11_snapshotOf_0 ?_
  refine cg_istore_n C (i := 2) (lv' := [(2, .int (nI 0)), (0, .ref o1), (1, .int (nI n1))]) rfl (Nat.le_of_ble_eq_true rfl) rfl dX11_snapshotOf_1 ?_
  refine cg_iload_n C (i := 2) rfl 0 rfl dX11_snapshotOf_2 ?_
  refine cg_aload_n C (i := 0) rfl 1 rfl dX11_snapshotOf_3 ?_
  refine cg_get C (k := 11) (j := 8) (.ref o2) h4 h3 (by decide) rfl (by decide) rfl (show cV _ 11 8 o1 = _ from congrArg va_rf h2) cWs_wsX110 cl_X11_52 rfl dX11_snapshotOf_4 ?_
  refine cg_calli C (z58_Jx4a65c_size_8abf5 l hlt S dp o2 h5 h6 h7) cc_X11_180 h7 h6 (by decide) rfl rfl ⟨by decide, by decide⟩ ⟨by decide, by decide⟩ rfl (Nat.le_of_ble_eq_true rfl) dX11_snapshotOf_7 (fun r_7 u_7 h_7 => ?_)
  obtain ⟨hr_7, hu_7⟩ := h_7
  have hw_7 := hu_7.symm
  subst hw_7
  have hx_7 := hr_7.symm
  subst hx_7
  refine cg_icmp_geN C (by omega) (by omega) 49 (by decide) dX11_snapshotOf_10 (fun c_10 => ?_) (fun c_ => absurd c_ (by omega))
  exact cg_throw3W C hlt hne "there is no such snapshot" ce_X11_269 cei_3 (by decide) dX11_snapshotOf_49 dX11_snapshotOf_52 dX11_snapshotOf_53 dX11_snapshotOf_56 dX11_snapshotOf_59 (by decide) (by decide) ⟨by decide, by decide⟩ ⟨by decide, by decide⟩ rfl
set_option maxHeartbeats 4000000 in
set_option maxRecDepth 100000 in
theorem z176_X11_shut (l : Launch) (hlt : l.stackTraces = false) (S : cS) (dp : Nat) (o1 o2 : Nat) (n1 : Nat) (h1 : n1 ≤ 2147483647) (h2 : cr S 360 o1 = (some o2)) (h3 : cK S o1 = 11) (h4 : o1 ∈ cL S) (h5 : ci S 386 o2 = (nI 0)) (h6 : cK S o2 = 12) (h7 : o2 ∈ cL S) : cMetX "java/lang/IndexOutOfBoundsException" (fun u_ => u_ = S) l yX11_shut cX11_shut 4 (some .int) 7 1 6 104 [.ref o1, .int (nI n1)] S dp := by
  intro D Y tp sz
  refine cg_bodyX (by decide +kernel) (Nat.le_of_ble_eq_true rfl) ?_
  intro p e s m args below meth c C hne
  generalize va_A (cWd Y S) sz = A at C ⊢
  have C : cC p s m args meth c cX11_shut 4 (some .int) A D Y tp dp RX11 := C
  refine cg_lv (lv' := [(0, .ref o1), (1, .int (nI n1))]) rfl ?_
  refine cg_aload_n C (i := 0) rfl 0 rfl dX11_shut_0 ?_
  refine cg_iload_n C (i := 1) rfl 1 rfl dX11_shut_1 ?_
  exact cg_callx C hne (z175_X11_snapshotOf l hlt S dp o1 o2 n1 (by omega) h2 h3 h4 h5 h6 h7) cc_X11_317 h4 h3 (by decide) rfl rfl ⟨by decide, by decide⟩ ⟨by decide, by decide⟩ rfl (Nat.le_of_ble_eq_true rfl) dX11_shut_2 ⟨by decide, by decide⟩ (fun u_ h_ => by
      have hu_ := h_
      exact hu_)
set_option maxHeartbeats 4000000 in
set_option maxRecDepth 100000 in
theorem z177_L_shut (l : Launch) (hlt : l.stackTraces = false) (S : cS) (dp : Nat) (o1 o2 o3 : Nat) (n1 : Nat) (h1 : n1 ≤ 2147483647) (h2 : cr S 360 o1 = (some o3)) (h3 : cK S o1 = 11) (h4 : o1 ∈ cL S) (h5 : ci S 386 o3 = (nI 0)) (h6 : cK S o3 = 12) (h7 : o3 ∈ cL S) : cMetW (cQi (fun r_ u_ => r_ = (nI 1) ∧ u_ = S)) l yL_shut cL_shut 4 (some .int) [(0, 9, 12, 28)] 8 1 6 127 [.ref o1, .int (nI n1), .ref o2] S dp := by
  intro D Y tp sz
  refine cg_bodyW (by decide +kernel) (Nat.le_of_ble_eq_true rfl) ?_
  intro p e s m args below meth c C htab
  generalize va_A (cWd Y S) sz = A at C ⊢
  have C : cC p s m args meth c cL_shut 4 (some .int) A D Y tp dp RL := C
  refine cg_lv (lv' := [(0, .ref o1), (1, .int (nI n1)), (2, .ref o2)]) rfl ?_
  refine cg_aload_n C (i := 2) rfl 2 rfl dL_shut_0 ?_
  refine cg_iconst C (x := nI 0) rfl dL_shut_1 ?_
  refine cg_aload_n C (i := 0) rfl 0 rfl dL_shut_2 ?_
  refine cg_iload_n C (i := 1) rfl 1 rfl dL_shut_3 ?_
  refine cg_callx_catch C htab (z176_X11_shut l hlt S dp o1 o3 n1 (by omega) h2 h3 h4 h5 h6 h7) cc_L_113 h4 h3 (by decide) rfl rfl ⟨by decide, by decide⟩ ⟨by decide, by decide⟩ rfl (Nat.le_of_ble_eq_true rfl) dL_shut_4 (tableOf []) ⟨0, 9, 12, 28⟩ (tableOf []) rfl (fun z hz => nomatch hz) (by decide) (by decide) (name := "java/lang/IndexOutOfBoundsException") ce_L_28 (by decide) 12 rfl (fun x_4 u_4 h_4 => ?_)
  have hu_4 := h_4
  have hw_4 := hu_4.symm
  subst hw_4
  refine cg_astore_n (lv' := [(3, .ref x_4), (0, .ref o1), (1, .int (nI n1)), (2, .ref o2)]) C (i := 3) rfl (Nat.le_of_ble_eq_true rfl) rfl dL_shut_12 ?_
  refine cg_iconst C (x := nI 1) rfl dL_shut_13 ?_
  exact cg_iret C ⟨rfl, rfl⟩ dL_shut_14 (by decide) (by decide)
set_option maxHeartbeats 4000000 in
set_option maxRecDepth 100000 in
theorem z178_X11_documents (l : Launch) (hlt : l.stackTraces = false) (S : cS) (dp : Nat) (o1 o2 : Nat) (x1 : Int32) (h1 : cr S 360 o1 = (some o2)) (h2 : cK S o1 = 11) (h3 : o1 ∈ cL S) (h4 : ci S 386 o2 = (nI 0)) (h5 : cK S o2 = 12) (h6 : o2 ∈ cL S) : cMetX "java/lang/IndexOutOfBoundsException" (fun u_ => u_ = S) l yX11_documents cX11_documents 2 (some .int) 7 1 6 104 [.ref o1, .int x1] S dp := by
  intro D Y tp sz
  refine cg_bodyX (by decide +kernel) (Nat.le_of_ble_eq_true rfl) ?_
  intro p e s m args below meth c C hne
  generalize va_A (cWd Y S) sz = A at C ⊢
  have C : cC p s m args meth c cX11_documents 2 (some .int) A D Y tp dp RX11 := C
  refine cg_lv (lv' := [(0, .ref o1), (1, .int x1)]) rfl ?_
  refine cg_aload_n C (i := 0) rfl 0 rfl dX11_documents_0 ?_
  refine cg_iload_n C (i := 1) rfl 1 rfl dX11_documents_1 ?_
  exact cg_callx C hne (z169_X11_snapshotOf l hlt S dp o1 o2 x1 h1 h2 h3 h4 h5 h6) cc_X11_317 h3 h2 (by decide) rfl rfl ⟨by decide, by decide⟩ ⟨by decide, by decide⟩ rfl (Nat.le_of_ble_eq_true rfl) dX11_documents_2 ⟨by decide, by decide⟩ (fun u_ h_ => by
      have hu_ := h_
      exact hu_)
set_option maxHeartbeats 4000000 in
set_option maxRecDepth 100000 in
theorem z179_L_documents (l : Launch) (hlt : l.stackTraces = false) (S : cS) (dp : Nat) (o1 o2 o3 : Nat) (x1 : Int32) (h1 : cr S 360 o1 = (some o3)) (h2 : cK S o1 = 11) (h3 : o1 ∈ cL S) (h4 : ci S 386 o3 = (nI 0)) (h5 : cK S o3 = 12) (h6 : o3 ∈ cL S) : cMetW (cQi (fun r_ u_ => r_ = (nI 1) ∧ u_ = S)) l yL_documents cL_documents 4 (some .int) [(0, 9, 12, 28)] 8 1 6 125 [.ref o1, .int x1, .ref o2] S dp := by
  intro D Y tp sz
  refine cg_bodyW (by decide +kernel) (Nat.le_of_ble_eq_true rfl) ?_
  intro p e s m args below meth c C htab
  generalize va_A (cWd Y S) sz = A at C ⊢
  have C : cC p s m args meth c cL_documents 4 (some .int) A D Y tp dp RL := C
  refine cg_lv (lv' := [(0, .ref o1), (1, .int x1), (2, .ref o2)]) rfl ?_
  refine cg_aload_n C (i := 2) rfl 2 rfl dL_documents_0 ?_
  refine cg_iconst C (x := nI 0) rfl dL_documents_1 ?_
  refine cg_aload_n C (i := 0) rfl 0 rfl dL_documents_2 ?_
  refine cg_iload_n C (i := 1) rfl 1 rfl dL_documents_3 ?_
  refine cg_callx_catch C htab (z178_X11_documents l hlt S dp o1 o3 x1 h1 h2 h3 h4 h5 h6) cc_L_116 h3 h2 (by decide) rfl rfl ⟨by decide, by decide⟩ ⟨by decide, by decide⟩ rfl (Nat.le_of_ble_eq_true rfl) dL_documents_4 (tableOf []) ⟨0, 9, 12, 28⟩ (tableOf []) rfl (fun z hz => nomatch hz) (by decide) (by decide) (name := "java/lang/IndexOutOfBoundsException") ce_L_28 (by decide) 12 rfl (fun x_4 u_4 h_4 => ?_)
  have hu_4 := h_4
  have hw_4 := hu_4.symm
  subst hw_4
  refine cg_astore_n (lv' := [(3, .ref x_4), (0, .ref o1), (1, .int x1), (2, .ref o2)]) C (i := 3) rfl (Nat.le_of_ble_eq_true rfl) rfl dL_documents_12 ?_
  refine cg_iconst C (x := nI 1) rfl dL_documents_13 ?_
  exact cg_iret C ⟨rfl, rfl⟩ dL_documents_14 (by decide) (by decide)
set_option maxHeartbeats 4000000 in
set_option maxRecDepth 100000 in
theorem z180_X11_documents (l : Launch) (hlt : l.stackTraces = false) (S : cS) (dp : Nat) (o1 o2 : Nat) (x1 : Int32) (h1 : x1 < 0) (h2 : cr S 360 o1 = (some o2)) (h3 : cK S o1 = 11) (h4 : o1 ∈ cL S) (h5 : ci S 386 o2 = (nI 0)) (h6 : cK S o2 = 12) (h7 : o2 ∈ cL S) : cMetX "java/lang/IndexOutOfBoundsException" (fun u_ => u_ = S) l yX11_documents cX11_documents 2 (some .int) 7 1 6 104 [.ref o1, .int x1] S dp := by
  intro D Y tp sz
  refine cg_bodyX (by decide +kernel) (Nat.le_of_ble_eq_true rfl) ?_
  intro p e s m args below meth c C hne
  generalize va_A (cWd Y S) sz = A at C ⊢
  have C : cC p s m args meth c cX11_documents 2 (some .int) A D Y tp dp RX11 := C
  refine cg_lv (lv' := [(0, .ref o1), (1, .int x1)]) rfl ?_
  refine cg_aload_n C (i := 0) rfl 0 rfl dX11_documents_0 ?_
  refine cg_iload_n C (i := 1) rfl 1 rfl dX11_documents_1 ?_
  exact cg_callx C hne (z172_X11_snapshotOf l hlt S dp o1 o2 x1 h1 h2 h3 h4 h5 h6 h7) cc_X11_317 h4 h3 (by decide) rfl rfl ⟨by decide, by decide⟩ ⟨by decide, by decide⟩ rfl (Nat.le_of_ble_eq_true rfl) dX11_documents_2 ⟨by decide, by decide⟩ (fun u_ h_ => by
      have hu_ := h_
      exact hu_)
set_option maxHeartbeats 4000000 in
set_option maxRecDepth 100000 in
theorem z181_L_documents (l : Launch) (hlt : l.stackTraces = false) (S : cS) (dp : Nat) (o1 o2 o3 : Nat) (x1 : Int32) (h1 : x1 < 0) (h2 : cr S 360 o1 = (some o3)) (h3 : cK S o1 = 11) (h4 : o1 ∈ cL S) (h5 : ci S 386 o3 = (nI 0)) (h6 : cK S o3 = 12) (h7 : o3 ∈ cL S) : cMetW (cQi (fun r_ u_ => r_ = (nI 1) ∧ u_ = S)) l yL_documents cL_documents 4 (some .int) [(0, 9, 12, 28)] 8 1 6 125 [.ref o1, .int x1, .ref o2] S dp := by
  intro D Y tp sz
  refine cg_bodyW (by decide +kernel) (Nat.le_of_ble_eq_true rfl) ?_
  intro p e s m args below meth c C htab
  generalize va_A (cWd Y S) sz = A at C ⊢
  have C : cC p s m args meth c cL_documents 4 (some .int) A D Y tp dp RL := C
  refine cg_lv (lv' := [(0, .ref o1), (1, .int x1), (2, .ref o2)]) rfl ?_
  refine cg_aload_n C (i := 2) rfl 2 rfl dL_documents_0 ?_
  refine cg_iconst C (x := nI 0) rfl dL_documents_1 ?_
  refine cg_aload_n C (i := 0) rfl 0 rfl dL_documents_2 ?_
  refine cg_iload_n C (i := 1) rfl 1 rfl dL_documents_3 ?_
  refine cg_callx_catch C htab (z180_X11_documents l hlt S dp o1 o3 x1 h1 h2 h3 h4 h5 h6 h7) cc_L_116 h4 h3 (by decide) rfl rfl ⟨by decide, by decide⟩ ⟨by decide, by decide⟩ rfl (Nat.le_of_ble_eq_true rfl) dL_documents_4 (tableOf []) ⟨0, 9, 12, 28⟩ (tableOf []) rfl (fun z hz => nomatch hz) (by decide) (by decide) (name := "java/lang/IndexOutOfBoundsException") ce_L_28 (by decide) 12 rfl (fun x_4 u_4 h_4 => ?_)
  have hu_4 := h_4
  have hw_4 := hu_4.symm
  subst hw_4
  refine cg_astore_n (lv' := [(3, .ref x_4), (0, .ref o1), (1, .int x1), (2, .ref o2)]) C (i := 3) rfl (Nat.le_of_ble_eq_true rfl) rfl dL_documents_12 ?_
  refine cg_iconst C (x := nI 1) rfl dL_documents_13 ?_
  exact cg_iret C ⟨rfl, rfl⟩ dL_documents_14 (by decide) (by decide)
set_option maxHeartbeats 4000000 in
set_option maxRecDepth 100000 in
theorem z182_X11_documents (l : Launch) (hlt : l.stackTraces = false) (S : cS) (dp : Nat) (o1 o2 : Nat) (n1 : Nat) (h1 : n1 ≤ 2147483647) (h2 : cr S 360 o1 = (some o2)) (h3 : cK S o1 = 11) (h4 : o1 ∈ cL S) (h5 : ci S 386 o2 = (nI 0)) (h6 : cK S o2 = 12) (h7 : o2 ∈ cL S) : cMetX "java/lang/IndexOutOfBoundsException" (fun u_ => u_ = S) l yX11_documents cX11_documents 2 (some .int) 7 1 6 104 [.ref o1, .int (nI n1)] S dp := by
  intro D Y tp sz
  refine cg_bodyX (by decide +kernel) (Nat.le_of_ble_eq_true rfl) ?_
  intro p e s m args below meth c C hne
  generalize va_A (cWd Y S) sz = A at C ⊢
  have C : cC p s m args meth c cX11_documents 2 (some .int) A D Y tp dp RX11 := C
  refine cg_lv (lv' := [(0, .ref o1), (1, .int (nI n1))]) rfl ?_
  refine cg_aload_n C (i := 0) rfl 0 rfl dX11_documents_0 ?_
  refine cg_iload_n C (i := 1) rfl 1 rfl dX11_documents_1 ?_
  exact cg_callx C hne (z175_X11_snapshotOf l hlt S dp o1 o2 n1 (by omega) h2 h3 h4 h5 h6 h7) cc_X11_317 h4 h3 (by decide) rfl rfl ⟨by decide, by decide⟩ ⟨by decide, by decide⟩ rfl (Nat.le_of_ble_eq_true rfl) dX11_documents_2 ⟨by decide, by decide⟩ (fun u_ h_ => by
      have hu_ := h_
      exact hu_)
set_option maxHeartbeats 4000000 in
set_option maxRecDepth 100000 in
theorem z183_L_documents (l : Launch) (hlt : l.stackTraces = false) (S : cS) (dp : Nat) (o1 o2 o3 : Nat) (n1 : Nat) (h1 : n1 ≤ 2147483647) (h2 : cr S 360 o1 = (some o3)) (h3 : cK S o1 = 11) (h4 : o1 ∈ cL S) (h5 : ci S 386 o3 = (nI 0)) (h6 : cK S o3 = 12) (h7 : o3 ∈ cL S) : cMetW (cQi (fun r_ u_ => r_ = (nI 1) ∧ u_ = S)) l yL_documents cL_documents 4 (some .int) [(0, 9, 12, 28)] 8 1 6 125 [.ref o1, .int (nI n1), .ref o2] S dp := by
  intro D Y tp sz
  refine cg_bodyW (by decide +kernel) (Nat.le_of_ble_eq_true rfl) ?_
  intro p e s m args below meth c C htab
  generalize va_A (cWd Y S) sz = A at C ⊢
  have C : cC p s m args meth c cL_documents 4 (some .int) A D Y tp dp RL := C
  refine cg_lv (lv' := [(0, .ref o1), (1, .int (nI n1)), (2, .ref o2)]) rfl ?_
  refine cg_aload_n C (i := 2) rfl 2 rfl dL_documents_0 ?_
  refine cg_iconst C (x := nI 0) rfl dL_documents_1 ?_
  refine cg_aload_n C (i := 0) rfl 0 rfl dL_documents_2 ?_
  refine cg_iload_n C (i := 1) rfl 1 rfl dL_documents_3 ?_
  refine cg_callx_catch C htab (z182_X11_documents l hlt S dp o1 o3 n1 (by omega) h2 h3 h4 h5 h6 h7) cc_L_116 h4 h3 (by decide) rfl rfl ⟨by decide, by decide⟩ ⟨by decide, by decide⟩ rfl (Nat.le_of_ble_eq_true rfl) dL_documents_4 (tableOf []) ⟨0, 9, 12, 28⟩ (tableOf []) rfl (fun z hz => nomatch hz) (by decide) (by decide) (name := "java/lang/IndexOutOfBoundsException") ce_L_28 (by decide) 12 rfl (fun x_4 u_4 h_4 => ?_)
  have hu_4 := h_4
  have hw_4 := hu_4.symm
  subst hw_4
  refine cg_astore_n (lv' := [(3, .ref x_4), (0, .ref o1), (1, .int (nI n1)), (2, .ref o2)]) C (i := 3) rfl (Nat.le_of_ble_eq_true rfl) rfl dL_documents_12 ?_
  refine cg_iconst C (x := nI 1) rfl dL_documents_13 ?_
  exact cg_iret C ⟨rfl, rfl⟩ dL_documents_14 (by decide) (by decide)
set_option maxHeartbeats 4000000 in
set_option maxRecDepth 100000 in
theorem z184_X11_term (l : Launch) (hlt : l.stackTraces = false) (S : cS) (dp : Nat) (o1 : Nat) (x1 : Int32) (h1 : x1 < 0) : cMetX "java/lang/IndexOutOfBoundsException" (fun u_ => u_ = S) l yX11_term cX11_term 2 (some .int) 7 1 6 102 [.ref o1, .int x1] S dp := by
  intro D Y tp sz
  refine cg_bodyX (by decide +kernel) (Nat.le_of_ble_eq_true rfl) ?_
  intro p e s m args below meth c C hne
  generalize va_A (cWd Y S) sz = A at C ⊢
  have C : cC p s m args meth c cX11_term 2 (some .int) A D Y tp dp RX11 := C
  refine cg_lv (lv' := [(0, .ref o1), (1, .int x1)]) rfl ?_
  refine cg_iload_n C (i := 1) rfl 1 rfl dX11_term_0 ?_
  exact cg_callsx C hne (z27_X11_checkField l hlt S dp x1 h1) cc_X11_152 rfl ⟨by decide, by decide⟩ ⟨by decide, by decide⟩ rfl (Nat.le_of_ble_eq_true rfl) dX11_term_1 ⟨by decide, by decide⟩ (fun u_ h_ => by
      have hu_ := h_
      exact hu_)
set_option maxHeartbeats 4000000 in
set_option maxRecDepth 100000 in
theorem z185_L_term (l : Launch) (hlt : l.stackTraces = false) (S : cS) (dp : Nat) (o1 o2 : Nat) (x1 : Int32) (h1 : x1 < 0) (h2 : o1 ∈ cL S) (h3 : cK S o1 = 11) : cMetW (cQi (fun r_ u_ => r_ = (nI 1) ∧ u_ = S)) l yL_term cL_term 4 (some .int) [(0, 9, 12, 28), (0, 9, 15, 15)] 8 1 6 123 [.ref o1, .int x1, .ref o2] S dp := by
  intro D Y tp sz
  refine cg_bodyW (by decide +kernel) (Nat.le_of_ble_eq_true rfl) ?_
  intro p e s m args below meth c C htab
  generalize va_A (cWd Y S) sz = A at C ⊢
  have C : cC p s m args meth c cL_term 4 (some .int) A D Y tp dp RL := C
  refine cg_lv (lv' := [(0, .ref o1), (1, .int x1), (2, .ref o2)]) rfl ?_
  refine cg_aload_n C (i := 2) rfl 2 rfl dL_term_0 ?_
  refine cg_iconst C (x := nI 0) rfl dL_term_1 ?_
  refine cg_aload_n C (i := 0) rfl 0 rfl dL_term_2 ?_
  refine cg_iload_n C (i := 1) rfl 1 rfl dL_term_3 ?_
  refine cg_callx_catch C htab (z184_X11_term l hlt S dp o1 x1 h1) cc_L_119 h2 h3 (by decide) rfl rfl ⟨by decide, by decide⟩ ⟨by decide, by decide⟩ rfl (Nat.le_of_ble_eq_true rfl) dL_term_4 (tableOf []) ⟨0, 9, 12, 28⟩ (tableOf [(0, 9, 15, 15)]) rfl (fun z hz => nomatch hz) (by decide) (by decide) (name := "java/lang/IndexOutOfBoundsException") ce_L_28 (by decide) 12 rfl (fun x_4 u_4 h_4 => ?_)
  have hu_4 := h_4
  have hw_4 := hu_4.symm
  subst hw_4
  refine cg_astore_n (lv' := [(3, .ref x_4), (0, .ref o1), (1, .int x1), (2, .ref o2)]) C (i := 3) rfl (Nat.le_of_ble_eq_true rfl) rfl dL_term_12 ?_
  refine cg_iconst C (x := nI 1) rfl dL_term_13 ?_
  exact cg_iret C ⟨rfl, rfl⟩ dL_term_14 (by decide) (by decide)
set_option maxHeartbeats 4000000 in
set_option maxRecDepth 100000 in
theorem z186_X3_tokenise (l : Launch) (hlt : l.stackTraces = false) (S : cS) (dp : Nat) (o1 o2 : Nat) (h1 : cK S o1 = 3) (h2 : o1 ∈ cL S) (h3 : ci S 289 o2 = (nI 0)) (h4 : cK S o2 = 9) (h5 : o2 ∈ cL S) : cMet (cQv (fun u_ => ∃ (S1 : cS), S1 = cSi S 98 o1 (nI 0) ∧ ∃ (S2 : cS), S2 = cSi S1 292 o2 (nI 0) ∧ u_ = S2)) l yX3_tokenise cX3_tokenise 6 none 1 0 0 24 [.ref o1, .ref o2, .int (nI 0)] S dp := by
  intro D Y tp sz
  refine cg_body (by decide +kernel) (Nat.le_of_ble_eq_true rfl) ?_
  intro p e s m args below meth c C
  generalize va_A (cWd Y S) sz = A at C ⊢
  have C : cC p s m args meth c cX3_tokenise 6 none A D Y tp dp RX3 := C
  refine cg_lv (lv' := [(0, .ref o1), (1, .ref o2), (2, .int (nI 0))]) rfl ?_
  refine cg_aload_n C (i := 0) rfl 0 rfl dX3_tokenise_0 ?_
  refine cg_aload_n C (i := 1) rfl 1 rfl dX3_tokenise_1 ?_
  refine cg_callv C (z21_X3_readWordsOf l hlt S dp o1 o2 h1 h2 h3 h4 h5) cc_X3_45 h2 h1 (by decide) rfl rfl ⟨by decide, by decide⟩ ⟨by decide, by decide⟩ rfl (Nat.le_of_ble_eq_true rfl) dX3_tokenise_2 (fun u_2 h_2 => ?_)
  obtain ⟨S1, hS1, hu_2⟩ := h_2
  have hw_2 := hu_2.symm
  subst hw_2
  refine cg_aload_n C (i := 1) rfl 1 rfl dX3_tokenise_5 ?_
  refine cg_iconst C (x := nI 0) rfl dX3_tokenise_6 ?_
  refine cg_puti C (k := 9) (j := 4) (ty := tyX9) (fty := .int) (hm_Si hS1 h5) (hk_Si hS1 h4) (by decide) rfl (by decide) rfl (by decide) rfl cWs_wsX90 tyX9_ok nmX9 cl_X3_53 rfl rfl rfl rfl rfl dX3_tokenise_7 ?_
  refine cg_nm (fun S2 (hS2 : S2 = cSi S1 292 o2 (nI 0)) => ?_)
  refine cg_iconst C (x := nI 0) rfl dX3_tokenise_10 ?_
  refine cg_istore_n C (i := 3) (lv' := [(3, .int (nI 0)), (0, .ref o1), (1, .ref o2), (2, .int (nI 0))]) rfl (Nat.le_of_ble_eq_true rfl) rfl dX3_tokenise_11 ?_
  refine cg_iload_n C (i := 3) rfl 0 rfl dX3_tokenise_12 ?_
  refine cg_aload_n C (i := 0) rfl 1 rfl dX3_tokenise_13 ?_
  refine cg_get C (k := 3) (j := 2) (.int (nI 0)) (hm_Si hS2 (hm_Si hS1 h2)) (hk_Si hS2 (hk_Si hS1 h1)) (by decide) rfl (by decide) rfl (show cV _ 3 2 o1 = _ from congrArg Value.int (hi_Si_q hS2 (by decide) (hi_Si_s hS1))) cWs_wsX30 cl_X3_22 rfl dX3_tokenise_14 ?_
  refine cg_icmp_geN C (by omega) (by omega) 64 (by decide) dX3_tokenise_17 (fun c_17 => ?_) (fun c_ => absurd c_ (by omega))
  exact cg_vret C ⟨S1, hS1, S2, hS2, rfl⟩ dX3_tokenise_64 (by decide) (by decide)
set_option maxHeartbeats 4000000 in
set_option maxRecDepth 100000 in
theorem z187_X3_readPadTokens (l : Launch) (hlt : l.stackTraces = false) (S : cS) (dp : Nat) (o1 o2 : Nat) (h1 : cr S 96 o1 = (some o2)) (h2 : cK S o1 = 3) (h3 : o1 ∈ cL S) (h4 : ci S 289 o2 = (nI 0)) (h5 : cK S o2 = 9) (h6 : o2 ∈ cL S) : cMet (cQi (fun r_ u_ => ∃ (S1 : cS), S1 = cSi S 98 o1 (nI 0) ∧ ∃ (S2 : cS), S2 = cSi S1 292 o2 (nI 0) ∧ r_ = (nI 0) ∧ u_ = S2)) l yX3_readPadTokens cX3_readPadTokens 1 (some .int) 2 0 0 49 [.ref o1] S dp := by
  intro D Y tp sz
  refine cg_body (by decide +kernel) (Nat.le_of_ble_eq_true rfl) ?_
  intro p e s m args below meth c C
  generalize va_A (cWd Y S) sz = A at C ⊢
  have C : cC p s m args meth c cX3_readPadTokens 1 (some .int) A D Y tp dp RX3 := C
  refine cg_lv (lv' := [(0, .ref o1)]) rfl ?_
  refine cg_aload_n C (i := 0) rfl 0 rfl dX3_readPadTokens_0 ?_
  refine cg_aload_n C (i := 0) rfl 0 rfl dX3_readPadTokens_1 ?_
  refine cg_get C (k := 3) (j := 0) (.ref o2) h3 h2 (by decide) rfl (by decide) rfl (show cV _ 3 0 o1 = _ from congrArg va_rf h1) cWs_wsX30 cl_X3_12 rfl dX3_readPadTokens_2 ?_
  refine cg_iconst C (x := nI 0) rfl dX3_readPadTokens_5 ?_
  refine cg_callv C (z186_X3_tokenise l hlt S dp o1 o2 h2 h3 h4 h5 h6) cc_X3_49 h3 h2 (by decide) rfl rfl ⟨by decide, by decide⟩ ⟨by decide, by decide⟩ rfl (Nat.le_of_ble_eq_true rfl) dX3_readPadTokens_6 (fun u_6 h_6 => ?_)
  obtain ⟨S1, hS1, S2, hS2, hu_6⟩ := h_6
  have hw_6 := hu_6.symm
  subst hw_6
  refine cg_aload_n C (i := 0) rfl 0 rfl dX3_readPadTokens_9 ?_
  refine cg_get C (k := 3) (j := 0) (.ref o2) (hm_Si hS2 (hm_Si hS1 h3)) (hk_Si hS2 (hk_Si hS1 h2)) (by decide) rfl (by decide) rfl (show cV _ 3 0 o1 = _ from congrArg va_rf (hr_Si hS2 (hr_Si hS1 h1))) cWs_wsX30 cl_X3_12 rfl dX3_readPadTokens_10 ?_
  refine cg_get C (k := 9) (j := 4) (.int (nI 0)) (hm_Si hS2 (hm_Si hS1 h6)) (hk_Si hS2 (hk_Si hS1 h5)) (by decide) rfl (by decide) rfl (show cV _ 9 4 o2 = _ from congrArg Value.int (hi_Si_s hS2)) cWs_wsX90 cl_X3_53 rfl dX3_readPadTokens_13 ?_
  exact cg_iret C ⟨S1, hS1, S2, hS2, rfl, rfl⟩ dX3_readPadTokens_16 (by decide) (by decide)
set_option maxHeartbeats 4000000 in
set_option maxRecDepth 100000 in
theorem z188_X11_checkLeaf (l : Launch) (hlt : l.stackTraces = false) (S : cS) (dp : Nat) (o1 : Nat) : cMetX "java/lang/IllegalStateException" (fun u_ => u_ = S) l yX11_checkLeaf cX11_checkLeaf 2 none 6 1 6 82 [.ref o1, .int (nI 0)] S dp := by
  intro D Y tp sz
  refine cg_bodyX (by decide +kernel) (Nat.le_of_ble_eq_true rfl) ?_
  intro p e s m args below meth c C hne
  generalize va_A (cWd Y S) sz = A at C ⊢
  have C : cC p s m args meth c cX11_checkLeaf 2 none A D Y tp dp RX11 := C
  refine cg_lv (lv' := [(0, .ref o1), (1, .int (nI 0))]) rfl ?_
  refine cg_iload_n C (i := 1) rfl 1 rfl dX11_checkLeaf_0 ?_
  refine cg_if_eqN C (by omega) 31 (by decide) dX11_checkLeaf_1 (fun c_1 => ?_) (fun c_ => absurd c_ (by omega))
  exact cg_throw2W C hlt hne "no such leaf can be put now" ce_X11_116 cei_2 (by decide) dX11_checkLeaf_31 dX11_checkLeaf_34 dX11_checkLeaf_35 dX11_checkLeaf_38 dX11_checkLeaf_41 (by decide) (by decide) ⟨by decide, by decide⟩ ⟨by decide, by decide⟩ rfl
set_option maxHeartbeats 4000000 in
set_option maxRecDepth 100000 in
theorem z189_X11_term (l : Launch) (hlt : l.stackTraces = false) (S : cS) (dp : Nat) (o1 o2 o3 : Nat) (n1 : Nat) (h1 : n1 ≤ 1) (h2 : cr S 352 o1 = (some o2)) (h3 : cK S o1 = 11) (h4 : o1 ∈ cL S) (h5 : cr S 96 o2 = (some o3)) (h6 : cK S o2 = 3) (h7 : o2 ∈ cL S) (h8 : ci S 289 o3 = (nI 0)) (h9 : cK S o3 = 9) (h10 : o3 ∈ cL S) : cMetX "java/lang/IllegalStateException" (fun u_ => ∃ (S1 : cS), S1 = cSi S 98 o2 (nI 0) ∧ ∃ (S2 : cS), S2 = cSi S1 292 o3 (nI 0) ∧ u_ = S2) l yX11_term cX11_term 2 (some .int) 7 1 6 103 [.ref o1, .int (nI n1)] S dp := by
  intro D Y tp sz
  refine cg_bodyX (by decide +kernel) (Nat.le_of_ble_eq_true rfl) ?_
  intro p e s m args below meth c C hne
  generalize va_A (cWd Y S) sz = A at C ⊢
  have C : cC p s m args meth c cX11_term 2 (some .int) A D Y tp dp RX11 := C
  refine cg_lv (lv' := [(0, .ref o1), (1, .int (nI n1))]) rfl ?_
  refine cg_iload_n C (i := 1) rfl 1 rfl dX11_term_0 ?_
  refine cg_callsv C (z30_X11_checkField l hlt S dp n1 (by omega)) cc_X11_152 rfl ⟨by decide, by decide⟩ ⟨by decide, by decide⟩ rfl (Nat.le_of_ble_eq_true rfl) dX11_term_1 (fun u_1 h_1 => ?_)
  have hu_1 := h_1
  have hw_1 := hu_1.symm
  subst hw_1
  refine cg_aload_n C (i := 0) rfl 0 rfl dX11_term_4 ?_
  refine cg_aload_n C (i := 0) rfl 0 rfl dX11_term_5 ?_
  refine cg_get C (k := 11) (j := 0) (.ref o2) h4 h3 (by decide) rfl (by decide) rfl (show cV _ 11 0 o1 = _ from congrArg va_rf h2) cWs_wsX110 cl_X11_10 rfl dX11_term_6 ?_
  refine cg_calli C (z187_X3_readPadTokens l hlt S dp o2 o3 h5 h6 h7 h8 h9 h10) cc_X11_324 h7 h6 (by decide) rfl rfl ⟨by decide, by decide⟩ ⟨by decide, by decide⟩ rfl (Nat.le_of_ble_eq_true rfl) dX11_term_9 (fun r_9 u_9 h_9 => ?_)
  obtain ⟨S1, hS1, S2, hS2, hr_9, hu_9⟩ := h_9
  have hw_9 := hu_9.symm
  subst hw_9
  have hx_9 := hr_9.symm
  subst hx_9
  refine cg_iconst C (x := nI 1) rfl dX11_term_12 ?_
  refine cg_icmp_neN C (by omega) (by omega) 20 (by decide) dX11_term_13 (fun c_13 => ?_) (fun c_ => absurd c_ (by omega))
  refine cg_iconst C (x := nI 0) rfl dX11_term_20 ?_
  exact cg_callx C hne (z188_X11_checkLeaf l hlt S2 dp o1) cc_X11_327 (hm_Si hS2 (hm_Si hS1 h4)) (hk_Si hS2 (hk_Si hS1 h3)) (by decide) rfl rfl ⟨by decide, by decide⟩ ⟨by decide, by decide⟩ rfl (Nat.le_of_ble_eq_true rfl) dX11_term_21 ⟨by decide, by decide⟩ (fun u_ h_ => by
      have hu_ := h_
      exact ⟨S1, hS1, S2, hS2, hu_⟩)
set_option maxHeartbeats 4000000 in
set_option maxRecDepth 100000 in
theorem z190_L_term (l : Launch) (hlt : l.stackTraces = false) (S : cS) (dp : Nat) (o1 o2 o3 o4 : Nat) (n1 : Nat) (h1 : n1 ≤ 1) (h2 : cr S 352 o1 = (some o3)) (h3 : cK S o1 = 11) (h4 : o1 ∈ cL S) (h5 : cr S 96 o3 = (some o4)) (h6 : cK S o3 = 3) (h7 : o3 ∈ cL S) (h8 : ci S 289 o4 = (nI 0)) (h9 : cK S o4 = 9) (h10 : o4 ∈ cL S) : cMetW (cQi (fun r_ u_ => ∃ (S1 : cS), S1 = cSi S 98 o3 (nI 0) ∧ ∃ (S2 : cS), S2 = cSi S1 292 o4 (nI 0) ∧ r_ = (nI 2) ∧ u_ = S2)) l yL_term cL_term 4 (some .int) [(0, 9, 12, 28), (0, 9, 15, 15)] 8 1 6 124 [.ref o1, .int (nI n1), .ref o2] S dp := by
  intro D Y tp sz
  refine cg_bodyW (by decide +kernel) (Nat.le_of_ble_eq_true rfl) ?_
  intro p e s m args below meth c C htab
  generalize va_A (cWd Y S) sz = A at C ⊢
  have C : cC p s m args meth c cL_term 4 (some .int) A D Y tp dp RL := C
  refine cg_lv (lv' := [(0, .ref o1), (1, .int (nI n1)), (2, .ref o2)]) rfl ?_
  refine cg_aload_n C (i := 2) rfl 2 rfl dL_term_0 ?_
  refine cg_iconst C (x := nI 0) rfl dL_term_1 ?_
  refine cg_aload_n C (i := 0) rfl 0 rfl dL_term_2 ?_
  refine cg_iload_n C (i := 1) rfl 1 rfl dL_term_3 ?_
  refine cg_callx_catch C htab (z189_X11_term l hlt S dp o1 o3 o4 n1 (by omega) h2 h3 h4 h5 h6 h7 h8 h9 h10) cc_L_119 h4 h3 (by decide) rfl rfl ⟨by decide, by decide⟩ ⟨by decide, by decide⟩ rfl (Nat.le_of_ble_eq_true rfl) dL_term_4 (tableOf [(0, 9, 12, 28)]) ⟨0, 9, 15, 15⟩ (tableOf []) rfl (fun z hz => by
        rcases List.mem_cons.mp hz with rfl | hz
        · exact ⟨by decide, "java/lang/IndexOutOfBoundsException", ce_L_28, by decide⟩
        exact nomatch hz) (by decide) (by decide) (name := "java/lang/IllegalStateException") ce_L_15 (by decide) 15 rfl (fun x_4 u_4 h_4 => ?_)
  obtain ⟨S1, hS1, S2, hS2, hu_4⟩ := h_4
  have hw_4 := hu_4.symm
  subst hw_4
  refine cg_astore_n (lv' := [(3, .ref x_4), (0, .ref o1), (1, .int (nI n1)), (2, .ref o2)]) C (i := 3) rfl (Nat.le_of_ble_eq_true rfl) rfl dL_term_15 ?_
  refine cg_iconst C (x := nI 2) rfl dL_term_16 ?_
  exact cg_iret C ⟨S1, hS1, S2, hS2, rfl, rfl⟩ dL_term_17 (by decide) (by decide)
set_option maxHeartbeats 4000000 in
set_option maxRecDepth 100000 in
theorem z191_X11_term (l : Launch) (hlt : l.stackTraces = false) (S : cS) (dp : Nat) (o1 : Nat) (n1 : Nat) (h1 : 2 ≤ n1) (h2 : n1 ≤ 2147483647) : cMetX "java/lang/IndexOutOfBoundsException" (fun u_ => u_ = S) l yX11_term cX11_term 2 (some .int) 7 1 6 102 [.ref o1, .int (nI n1)] S dp := by
  intro D Y tp sz
  refine cg_bodyX (by decide +kernel) (Nat.le_of_ble_eq_true rfl) ?_
  intro p e s m args below meth c C hne
  generalize va_A (cWd Y S) sz = A at C ⊢
  have C : cC p s m args meth c cX11_term 2 (some .int) A D Y tp dp RX11 := C
  refine cg_lv (lv' := [(0, .ref o1), (1, .int (nI n1))]) rfl ?_
  refine cg_iload_n C (i := 1) rfl 1 rfl dX11_term_0 ?_
  exact cg_callsx C hne (z40_X11_checkField l hlt S dp n1 (by omega) (by omega)) cc_X11_152 rfl ⟨by decide, by decide⟩ ⟨by decide, by decide⟩ rfl (Nat.le_of_ble_eq_true rfl) dX11_term_1 ⟨by decide, by decide⟩ (fun u_ h_ => by
      have hu_ := h_
      exact hu_)
set_option maxHeartbeats 4000000 in
set_option maxRecDepth 100000 in
theorem z192_L_term (l : Launch) (hlt : l.stackTraces = false) (S : cS) (dp : Nat) (o1 o2 : Nat) (n1 : Nat) (h1 : 2 ≤ n1) (h2 : n1 ≤ 2147483647) (h3 : o1 ∈ cL S) (h4 : cK S o1 = 11) : cMetW (cQi (fun r_ u_ => r_ = (nI 1) ∧ u_ = S)) l yL_term cL_term 4 (some .int) [(0, 9, 12, 28), (0, 9, 15, 15)] 8 1 6 123 [.ref o1, .int (nI n1), .ref o2] S dp := by
  intro D Y tp sz
  refine cg_bodyW (by decide +kernel) (Nat.le_of_ble_eq_true rfl) ?_
  intro p e s m args below meth c C htab
  generalize va_A (cWd Y S) sz = A at C ⊢
  have C : cC p s m args meth c cL_term 4 (some .int) A D Y tp dp RL := C
  refine cg_lv (lv' := [(0, .ref o1), (1, .int (nI n1)), (2, .ref o2)]) rfl ?_
  refine cg_aload_n C (i := 2) rfl 2 rfl dL_term_0 ?_
  refine cg_iconst C (x := nI 0) rfl dL_term_1 ?_
  refine cg_aload_n C (i := 0) rfl 0 rfl dL_term_2 ?_
  refine cg_iload_n C (i := 1) rfl 1 rfl dL_term_3 ?_
  refine cg_callx_catch C htab (z191_X11_term l hlt S dp o1 n1 (by omega) (by omega)) cc_L_119 h3 h4 (by decide) rfl rfl ⟨by decide, by decide⟩ ⟨by decide, by decide⟩ rfl (Nat.le_of_ble_eq_true rfl) dL_term_4 (tableOf []) ⟨0, 9, 12, 28⟩ (tableOf [(0, 9, 15, 15)]) rfl (fun z hz => nomatch hz) (by decide) (by decide) (name := "java/lang/IndexOutOfBoundsException") ce_L_28 (by decide) 12 rfl (fun x_4 u_4 h_4 => ?_)
  have hu_4 := h_4
  have hw_4 := hu_4.symm
  subst hw_4
  refine cg_astore_n (lv' := [(3, .ref x_4), (0, .ref o1), (1, .int (nI n1)), (2, .ref o2)]) C (i := 3) rfl (Nat.le_of_ble_eq_true rfl) rfl dL_term_12 ?_
  refine cg_iconst C (x := nI 1) rfl dL_term_13 ?_
  exact cg_iret C ⟨rfl, rfl⟩ dL_term_14 (by decide) (by decide)
set_option maxHeartbeats 4000000 in
set_option maxRecDepth 100000 in
theorem z193_X11_phrase (l : Launch) (hlt : l.stackTraces = false) (S : cS) (dp : Nat) (o1 : Nat) (x1 x2 : Int32) (h1 : x1 < 0) : cMetX "java/lang/IndexOutOfBoundsException" (fun u_ => u_ = S) l yX11_phrase cX11_phrase 4 (some .int) 7 1 6 102 [.ref o1, .int x1, .int x2] S dp := by
  intro D Y tp sz
  refine cg_bodyX (by decide +kernel) (Nat.le_of_ble_eq_true rfl) ?_
  intro p e s m args below meth c C hne
  generalize va_A (cWd Y S) sz = A at C ⊢
  have C : cC p s m args meth c cX11_phrase 4 (some .int) A D Y tp dp RX11 := C
  refine cg_lv (lv' := [(0, .ref o1), (1, .int x1), (2, .int x2)]) rfl ?_
  refine cg_iload_n C (i := 1) rfl 1 rfl dX11_phrase_0 ?_
  exact cg_callsx C hne (z27_X11_checkField l hlt S dp x1 h1) cc_X11_152 rfl ⟨by decide, by decide⟩ ⟨by decide, by decide⟩ rfl (Nat.le_of_ble_eq_true rfl) dX11_phrase_1 ⟨by decide, by decide⟩ (fun u_ h_ => by
      have hu_ := h_
      exact hu_)
set_option maxHeartbeats 4000000 in
set_option maxRecDepth 100000 in
theorem z194_L_phrase (l : Launch) (hlt : l.stackTraces = false) (S : cS) (dp : Nat) (o1 o2 : Nat) (x1 x2 : Int32) (h1 : x1 < 0) (h2 : o1 ∈ cL S) (h3 : cK S o1 = 11) : cMetW (cQi (fun r_ u_ => r_ = (nI 1) ∧ u_ = S)) l yL_phrase cL_phrase 5 (some .int) [(0, 10, 13, 28), (0, 10, 17, 13), (0, 10, 21, 15)] 8 1 6 125 [.ref o1, .int x1, .int x2, .ref o2] S dp := by
  intro D Y tp sz
  refine cg_bodyW (by decide +kernel) (Nat.le_of_ble_eq_true rfl) ?_
  intro p e s m args below meth c C htab
  generalize va_A (cWd Y S) sz = A at C ⊢
  have C : cC p s m args meth c cL_phrase 5 (some .int) A D Y tp dp RL := C
  refine cg_lv (lv' := [(0, .ref o1), (1, .int x1), (2, .int x2), (3, .ref o2)]) rfl ?_
  refine cg_aload_n C (i := 3) rfl 3 rfl dL_phrase_0 ?_
  refine cg_iconst C (x := nI 0) rfl dL_phrase_1 ?_
  refine cg_aload_n C (i := 0) rfl 0 rfl dL_phrase_2 ?_
  refine cg_iload_n C (i := 1) rfl 1 rfl dL_phrase_3 ?_
  refine cg_iload_n C (i := 2) rfl 2 rfl dL_phrase_4 ?_
  refine cg_callx_catch C htab (z193_X11_phrase l hlt S dp o1 x1 x2 h1) cc_L_122 h2 h3 (by decide) rfl rfl ⟨by decide, by decide⟩ ⟨by decide, by decide⟩ rfl (Nat.le_of_ble_eq_true rfl) dL_phrase_5 (tableOf []) ⟨0, 10, 13, 28⟩ (tableOf [(0, 10, 17, 13), (0, 10, 21, 15)]) rfl (fun z hz => nomatch hz) (by decide) (by decide) (name := "java/lang/IndexOutOfBoundsException") ce_L_28 (by decide) 13 rfl (fun x_5 u_5 h_5 => ?_)
  have hu_5 := h_5
  have hw_5 := hu_5.symm
  subst hw_5
  refine cg_astore (lv' := [(4, .ref x_5), (0, .ref o1), (1, .int x1), (2, .int x2), (3, .ref o2)]) C (Nat.le_of_ble_eq_true rfl) rfl dL_phrase_13 ?_
  refine cg_iconst C (x := nI 1) rfl dL_phrase_15 ?_
  exact cg_iret C ⟨rfl, rfl⟩ dL_phrase_16 (by decide) (by decide)
set_option maxHeartbeats 4000000 in
set_option maxRecDepth 100000 in
theorem z195_X11_phrase (l : Launch) (hlt : l.stackTraces = false) (S : cS) (dp : Nat) (o1 : Nat) (x1 x2 : Int32) (h1 : x1 < 0) (h2 : x2 < 0) : cMetX "java/lang/IndexOutOfBoundsException" (fun u_ => u_ = S) l yX11_phrase cX11_phrase 4 (some .int) 7 1 6 102 [.ref o1, .int x1, .int x2] S dp := by
  intro D Y tp sz
  refine cg_bodyX (by decide +kernel) (Nat.le_of_ble_eq_true rfl) ?_
  intro p e s m args below meth c C hne
  generalize va_A (cWd Y S) sz = A at C ⊢
  have C : cC p s m args meth c cX11_phrase 4 (some .int) A D Y tp dp RX11 := C
  refine cg_lv (lv' := [(0, .ref o1), (1, .int x1), (2, .int x2)]) rfl ?_
  refine cg_iload_n C (i := 1) rfl 1 rfl dX11_phrase_0 ?_
  exact cg_callsx C hne (z27_X11_checkField l hlt S dp x1 h1) cc_X11_152 rfl ⟨by decide, by decide⟩ ⟨by decide, by decide⟩ rfl (Nat.le_of_ble_eq_true rfl) dX11_phrase_1 ⟨by decide, by decide⟩ (fun u_ h_ => by
      have hu_ := h_
      exact hu_)
set_option maxHeartbeats 4000000 in
set_option maxRecDepth 100000 in
theorem z196_L_phrase (l : Launch) (hlt : l.stackTraces = false) (S : cS) (dp : Nat) (o1 o2 : Nat) (x1 x2 : Int32) (h1 : x1 < 0) (h2 : x2 < 0) (h3 : o1 ∈ cL S) (h4 : cK S o1 = 11) : cMetW (cQi (fun r_ u_ => r_ = (nI 1) ∧ u_ = S)) l yL_phrase cL_phrase 5 (some .int) [(0, 10, 13, 28), (0, 10, 17, 13), (0, 10, 21, 15)] 8 1 6 125 [.ref o1, .int x1, .int x2, .ref o2] S dp := by
  intro D Y tp sz
  refine cg_bodyW (by decide +kernel) (Nat.le_of_ble_eq_true rfl) ?_
  intro p e s m args below meth c C htab
  generalize va_A (cWd Y S) sz = A at C ⊢
  have C : cC p s m args meth c cL_phrase 5 (some .int) A D Y tp dp RL := C
  refine cg_lv (lv' := [(0, .ref o1), (1, .int x1), (2, .int x2), (3, .ref o2)]) rfl ?_
  refine cg_aload_n C (i := 3) rfl 3 rfl dL_phrase_0 ?_
  refine cg_iconst C (x := nI 0) rfl dL_phrase_1 ?_
  refine cg_aload_n C (i := 0) rfl 0 rfl dL_phrase_2 ?_
  refine cg_iload_n C (i := 1) rfl 1 rfl dL_phrase_3 ?_
  refine cg_iload_n C (i := 2) rfl 2 rfl dL_phrase_4 ?_
  refine cg_callx_catch C htab (z195_X11_phrase l hlt S dp o1 x1 x2 h1 h2) cc_L_122 h3 h4 (by decide) rfl rfl ⟨by decide, by decide⟩ ⟨by decide, by decide⟩ rfl (Nat.le_of_ble_eq_true rfl) dL_phrase_5 (tableOf []) ⟨0, 10, 13, 28⟩ (tableOf [(0, 10, 17, 13), (0, 10, 21, 15)]) rfl (fun z hz => nomatch hz) (by decide) (by decide) (name := "java/lang/IndexOutOfBoundsException") ce_L_28 (by decide) 13 rfl (fun x_5 u_5 h_5 => ?_)
  have hu_5 := h_5
  have hw_5 := hu_5.symm
  subst hw_5
  refine cg_astore (lv' := [(4, .ref x_5), (0, .ref o1), (1, .int x1), (2, .int x2), (3, .ref o2)]) C (Nat.le_of_ble_eq_true rfl) rfl dL_phrase_13 ?_
  refine cg_iconst C (x := nI 1) rfl dL_phrase_15 ?_
  exact cg_iret C ⟨rfl, rfl⟩ dL_phrase_16 (by decide) (by decide)
set_option maxHeartbeats 4000000 in
set_option maxRecDepth 100000 in
theorem z197_X11_phrase (l : Launch) (hlt : l.stackTraces = false) (S : cS) (dp : Nat) (o1 : Nat) (n1 : Nat) (x1 : Int32) (h1 : x1 < 0) (h2 : n1 ≤ 2147483647) : cMetX "java/lang/IndexOutOfBoundsException" (fun u_ => u_ = S) l yX11_phrase cX11_phrase 4 (some .int) 7 1 6 102 [.ref o1, .int x1, .int (nI n1)] S dp := by
  intro D Y tp sz
  refine cg_bodyX (by decide +kernel) (Nat.le_of_ble_eq_true rfl) ?_
  intro p e s m args below meth c C hne
  generalize va_A (cWd Y S) sz = A at C ⊢
  have C : cC p s m args meth c cX11_phrase 4 (some .int) A D Y tp dp RX11 := C
  refine cg_lv (lv' := [(0, .ref o1), (1, .int x1), (2, .int (nI n1))]) rfl ?_
  refine cg_iload_n C (i := 1) rfl 1 rfl dX11_phrase_0 ?_
  exact cg_callsx C hne (z27_X11_checkField l hlt S dp x1 h1) cc_X11_152 rfl ⟨by decide, by decide⟩ ⟨by decide, by decide⟩ rfl (Nat.le_of_ble_eq_true rfl) dX11_phrase_1 ⟨by decide, by decide⟩ (fun u_ h_ => by
      have hu_ := h_
      exact hu_)
set_option maxHeartbeats 4000000 in
set_option maxRecDepth 100000 in
theorem z198_L_phrase (l : Launch) (hlt : l.stackTraces = false) (S : cS) (dp : Nat) (o1 o2 : Nat) (n1 : Nat) (x1 : Int32) (h1 : x1 < 0) (h2 : n1 ≤ 2147483647) (h3 : o1 ∈ cL S) (h4 : cK S o1 = 11) : cMetW (cQi (fun r_ u_ => r_ = (nI 1) ∧ u_ = S)) l yL_phrase cL_phrase 5 (some .int) [(0, 10, 13, 28), (0, 10, 17, 13), (0, 10, 21, 15)] 8 1 6 125 [.ref o1, .int x1, .int (nI n1), .ref o2] S dp := by
  intro D Y tp sz
  refine cg_bodyW (by decide +kernel) (Nat.le_of_ble_eq_true rfl) ?_
  intro p e s m args below meth c C htab
  generalize va_A (cWd Y S) sz = A at C ⊢
  have C : cC p s m args meth c cL_phrase 5 (some .int) A D Y tp dp RL := C
  refine cg_lv (lv' := [(0, .ref o1), (1, .int x1), (2, .int (nI n1)), (3, .ref o2)]) rfl ?_
  refine cg_aload_n C (i := 3) rfl 3 rfl dL_phrase_0 ?_
  refine cg_iconst C (x := nI 0) rfl dL_phrase_1 ?_
  refine cg_aload_n C (i := 0) rfl 0 rfl dL_phrase_2 ?_
  refine cg_iload_n C (i := 1) rfl 1 rfl dL_phrase_3 ?_
  refine cg_iload_n C (i := 2) rfl 2 rfl dL_phrase_4 ?_
  refine cg_callx_catch C htab (z197_X11_phrase l hlt S dp o1 n1 x1 h1 (by omega)) cc_L_122 h3 h4 (by decide) rfl rfl ⟨by decide, by decide⟩ ⟨by decide, by decide⟩ rfl (Nat.le_of_ble_eq_true rfl) dL_phrase_5 (tableOf []) ⟨0, 10, 13, 28⟩ (tableOf [(0, 10, 17, 13), (0, 10, 21, 15)]) rfl (fun z hz => nomatch hz) (by decide) (by decide) (name := "java/lang/IndexOutOfBoundsException") ce_L_28 (by decide) 13 rfl (fun x_5 u_5 h_5 => ?_)
  have hu_5 := h_5
  have hw_5 := hu_5.symm
  subst hw_5
  refine cg_astore (lv' := [(4, .ref x_5), (0, .ref o1), (1, .int x1), (2, .int (nI n1)), (3, .ref o2)]) C (Nat.le_of_ble_eq_true rfl) rfl dL_phrase_13 ?_
  refine cg_iconst C (x := nI 1) rfl dL_phrase_15 ?_
  exact cg_iret C ⟨rfl, rfl⟩ dL_phrase_16 (by decide) (by decide)
set_option maxHeartbeats 4000000 in
set_option maxRecDepth 100000 in
theorem z199_X11_phrase (l : Launch) (hlt : l.stackTraces = false) (S : cS) (dp : Nat) (o1 : Nat) (n1 : Nat) (x1 : Int32) (h1 : x1 < 0) (h2 : n1 ≤ 20) : cMetX "java/lang/IndexOutOfBoundsException" (fun u_ => u_ = S) l yX11_phrase cX11_phrase 4 (some .int) 7 1 6 102 [.ref o1, .int x1, .int (nI n1)] S dp := by
  intro D Y tp sz
  refine cg_bodyX (by decide +kernel) (Nat.le_of_ble_eq_true rfl) ?_
  intro p e s m args below meth c C hne
  generalize va_A (cWd Y S) sz = A at C ⊢
  have C : cC p s m args meth c cX11_phrase 4 (some .int) A D Y tp dp RX11 := C
  refine cg_lv (lv' := [(0, .ref o1), (1, .int x1), (2, .int (nI n1))]) rfl ?_
  refine cg_iload_n C (i := 1) rfl 1 rfl dX11_phrase_0 ?_
  exact cg_callsx C hne (z27_X11_checkField l hlt S dp x1 h1) cc_X11_152 rfl ⟨by decide, by decide⟩ ⟨by decide, by decide⟩ rfl (Nat.le_of_ble_eq_true rfl) dX11_phrase_1 ⟨by decide, by decide⟩ (fun u_ h_ => by
      have hu_ := h_
      exact hu_)
set_option maxHeartbeats 4000000 in
set_option maxRecDepth 100000 in
theorem z200_L_phrase (l : Launch) (hlt : l.stackTraces = false) (S : cS) (dp : Nat) (o1 o2 : Nat) (n1 : Nat) (x1 : Int32) (h1 : x1 < 0) (h2 : n1 ≤ 20) (h3 : o1 ∈ cL S) (h4 : cK S o1 = 11) : cMetW (cQi (fun r_ u_ => r_ = (nI 1) ∧ u_ = S)) l yL_phrase cL_phrase 5 (some .int) [(0, 10, 13, 28), (0, 10, 17, 13), (0, 10, 21, 15)] 8 1 6 125 [.ref o1, .int x1, .int (nI n1), .ref o2] S dp := by
  intro D Y tp sz
  refine cg_bodyW (by decide +kernel) (Nat.le_of_ble_eq_true rfl) ?_
  intro p e s m args below meth c C htab
  generalize va_A (cWd Y S) sz = A at C ⊢
  have C : cC p s m args meth c cL_phrase 5 (some .int) A D Y tp dp RL := C
  refine cg_lv (lv' := [(0, .ref o1), (1, .int x1), (2, .int (nI n1)), (3, .ref o2)]) rfl ?_
  refine cg_aload_n C (i := 3) rfl 3 rfl dL_phrase_0 ?_
  refine cg_iconst C (x := nI 0) rfl dL_phrase_1 ?_
  refine cg_aload_n C (i := 0) rfl 0 rfl dL_phrase_2 ?_
  refine cg_iload_n C (i := 1) rfl 1 rfl dL_phrase_3 ?_
  refine cg_iload_n C (i := 2) rfl 2 rfl dL_phrase_4 ?_
  refine cg_callx_catch C htab (z199_X11_phrase l hlt S dp o1 n1 x1 h1 (by omega)) cc_L_122 h3 h4 (by decide) rfl rfl ⟨by decide, by decide⟩ ⟨by decide, by decide⟩ rfl (Nat.le_of_ble_eq_true rfl) dL_phrase_5 (tableOf []) ⟨0, 10, 13, 28⟩ (tableOf [(0, 10, 17, 13), (0, 10, 21, 15)]) rfl (fun z hz => nomatch hz) (by decide) (by decide) (name := "java/lang/IndexOutOfBoundsException") ce_L_28 (by decide) 13 rfl (fun x_5 u_5 h_5 => ?_)
  have hu_5 := h_5
  have hw_5 := hu_5.symm
  subst hw_5
  refine cg_astore (lv' := [(4, .ref x_5), (0, .ref o1), (1, .int x1), (2, .int (nI n1)), (3, .ref o2)]) C (Nat.le_of_ble_eq_true rfl) rfl dL_phrase_13 ?_
  refine cg_iconst C (x := nI 1) rfl dL_phrase_15 ?_
  exact cg_iret C ⟨rfl, rfl⟩ dL_phrase_16 (by decide) (by decide)
set_option maxHeartbeats 4000000 in
set_option maxRecDepth 100000 in
theorem z201_X11_phrase (l : Launch) (hlt : l.stackTraces = false) (S : cS) (dp : Nat) (o1 : Nat) (n1 : Nat) (x1 : Int32) (h1 : x1 < 0) (h2 : 21 ≤ n1) (h3 : n1 ≤ 2147483647) : cMetX "java/lang/IndexOutOfBoundsException" (fun u_ => u_ = S) l yX11_phrase cX11_phrase 4 (some .int) 7 1 6 102 [.ref o1, .int x1, .int (nI n1)] S dp := by
  intro D Y tp sz
  refine cg_bodyX (by decide +kernel) (Nat.le_of_ble_eq_true rfl) ?_
  intro p e s m args below meth c C hne
  generalize va_A (cWd Y S) sz = A at C ⊢
  have C : cC p s m args meth c cX11_phrase 4 (some .int) A D Y tp dp RX11 := C
  refine cg_lv (lv' := [(0, .ref o1), (1, .int x1), (2, .int (nI n1))]) rfl ?_
  refine cg_iload_n C (i := 1) rfl 1 rfl dX11_phrase_0 ?_
  exact cg_callsx C hne (z27_X11_checkField l hlt S dp x1 h1) cc_X11_152 rfl ⟨by decide, by decide⟩ ⟨by decide, by decide⟩ rfl (Nat.le_of_ble_eq_true rfl) dX11_phrase_1 ⟨by decide, by decide⟩ (fun u_ h_ => by
      have hu_ := h_
      exact hu_)
set_option maxHeartbeats 4000000 in
set_option maxRecDepth 100000 in
theorem z202_L_phrase (l : Launch) (hlt : l.stackTraces = false) (S : cS) (dp : Nat) (o1 o2 : Nat) (n1 : Nat) (x1 : Int32) (h1 : x1 < 0) (h2 : 21 ≤ n1) (h3 : n1 ≤ 2147483647) (h4 : o1 ∈ cL S) (h5 : cK S o1 = 11) : cMetW (cQi (fun r_ u_ => r_ = (nI 1) ∧ u_ = S)) l yL_phrase cL_phrase 5 (some .int) [(0, 10, 13, 28), (0, 10, 17, 13), (0, 10, 21, 15)] 8 1 6 125 [.ref o1, .int x1, .int (nI n1), .ref o2] S dp := by
  intro D Y tp sz
  refine cg_bodyW (by decide +kernel) (Nat.le_of_ble_eq_true rfl) ?_
  intro p e s m args below meth c C htab
  generalize va_A (cWd Y S) sz = A at C ⊢
  have C : cC p s m args meth c cL_phrase 5 (some .int) A D Y tp dp RL := C
  refine cg_lv (lv' := [(0, .ref o1), (1, .int x1), (2, .int (nI n1)), (3, .ref o2)]) rfl ?_
  refine cg_aload_n C (i := 3) rfl 3 rfl dL_phrase_0 ?_
  refine cg_iconst C (x := nI 0) rfl dL_phrase_1 ?_
  refine cg_aload_n C (i := 0) rfl 0 rfl dL_phrase_2 ?_
  refine cg_iload_n C (i := 1) rfl 1 rfl dL_phrase_3 ?_
  refine cg_iload_n C (i := 2) rfl 2 rfl dL_phrase_4 ?_
  refine cg_callx_catch C htab (z201_X11_phrase l hlt S dp o1 n1 x1 h1 (by omega) (by omega)) cc_L_122 h4 h5 (by decide) rfl rfl ⟨by decide, by decide⟩ ⟨by decide, by decide⟩ rfl (Nat.le_of_ble_eq_true rfl) dL_phrase_5 (tableOf []) ⟨0, 10, 13, 28⟩ (tableOf [(0, 10, 17, 13), (0, 10, 21, 15)]) rfl (fun z hz => nomatch hz) (by decide) (by decide) (name := "java/lang/IndexOutOfBoundsException") ce_L_28 (by decide) 13 rfl (fun x_5 u_5 h_5 => ?_)
  have hu_5 := h_5
  have hw_5 := hu_5.symm
  subst hw_5
  refine cg_astore (lv' := [(4, .ref x_5), (0, .ref o1), (1, .int x1), (2, .int (nI n1)), (3, .ref o2)]) C (Nat.le_of_ble_eq_true rfl) rfl dL_phrase_13 ?_
  refine cg_iconst C (x := nI 1) rfl dL_phrase_15 ?_
  exact cg_iret C ⟨rfl, rfl⟩ dL_phrase_16 (by decide) (by decide)
set_option maxHeartbeats 4000000 in
set_option maxRecDepth 100000 in
theorem z203_X11_phrase (l : Launch) (hlt : l.stackTraces = false) (S : cS) (dp : Nat) (o1 : Nat) (n1 : Nat) (x1 : Int32) (h1 : n1 ≤ 1) (h2 : x1 < 0) : cMetX "java/lang/IllegalArgumentException" (fun u_ => u_ = S) l yX11_phrase cX11_phrase 4 (some .int) 6 1 6 82 [.ref o1, .int (nI n1), .int x1] S dp := by
  intro D Y tp sz
  refine cg_bodyX (by decide +kernel) (Nat.le_of_ble_eq_true rfl) ?_
  intro p e s m args below meth c C hne
  generalize va_A (cWd Y S) sz = A at C ⊢
  have C : cC p s m args meth c cX11_phrase 4 (some .int) A D Y tp dp RX11 := C
  refine cg_lv (lv' := [(0, .ref o1), (1, .int (nI n1)), (2, .int x1)]) rfl ?_
  refine cg_iload_n C (i := 1) rfl 1 rfl dX11_phrase_0 ?_
  refine cg_callsv C (z30_X11_checkField l hlt S dp n1 (by omega)) cc_X11_152 rfl ⟨by decide, by decide⟩ ⟨by decide, by decide⟩ rfl (Nat.le_of_ble_eq_true rfl) dX11_phrase_1 (fun u_1 h_1 => ?_)
  have hu_1 := h_1
  have hw_1 := hu_1.symm
  subst hw_1
  refine cg_iload_n C (i := 2) rfl 2 rfl dX11_phrase_4 ?_
  refine cg_if_lt C 14 (by decide) dX11_phrase_5 (fun c_5 => ?_) (fun c_ => absurd (cneg0_lt h2) c_)
  exact cg_throw1W C hlt hne "the slop is out of range" ce_X11_100 cei_1 (by decide) dX11_phrase_14 dX11_phrase_17 dX11_phrase_18 dX11_phrase_21 dX11_phrase_24 (by decide) (by decide) ⟨by decide, by decide⟩ ⟨by decide, by decide⟩ rfl
set_option maxHeartbeats 4000000 in
set_option maxRecDepth 100000 in
theorem z204_L_phrase (l : Launch) (hlt : l.stackTraces = false) (S : cS) (dp : Nat) (o1 o2 : Nat) (n1 : Nat) (x1 : Int32) (h1 : n1 ≤ 1) (h2 : x1 < 0) (h3 : o1 ∈ cL S) (h4 : cK S o1 = 11) : cMetW (cQi (fun r_ u_ => r_ = (nI 2) ∧ u_ = S)) l yL_phrase cL_phrase 5 (some .int) [(0, 10, 13, 28), (0, 10, 17, 13), (0, 10, 21, 15)] 7 1 6 105 [.ref o1, .int (nI n1), .int x1, .ref o2] S dp := by
  intro D Y tp sz
  refine cg_bodyW (by decide +kernel) (Nat.le_of_ble_eq_true rfl) ?_
  intro p e s m args below meth c C htab
  generalize va_A (cWd Y S) sz = A at C ⊢
  have C : cC p s m args meth c cL_phrase 5 (some .int) A D Y tp dp RL := C
  refine cg_lv (lv' := [(0, .ref o1), (1, .int (nI n1)), (2, .int x1), (3, .ref o2)]) rfl ?_
  refine cg_aload_n C (i := 3) rfl 3 rfl dL_phrase_0 ?_
  refine cg_iconst C (x := nI 0) rfl dL_phrase_1 ?_
  refine cg_aload_n C (i := 0) rfl 0 rfl dL_phrase_2 ?_
  refine cg_iload_n C (i := 1) rfl 1 rfl dL_phrase_3 ?_
  refine cg_iload_n C (i := 2) rfl 2 rfl dL_phrase_4 ?_
  refine cg_callx_catch C htab (z203_X11_phrase l hlt S dp o1 n1 x1 (by omega) h2) cc_L_122 h3 h4 (by decide) rfl rfl ⟨by decide, by decide⟩ ⟨by decide, by decide⟩ rfl (Nat.le_of_ble_eq_true rfl) dL_phrase_5 (tableOf [(0, 10, 13, 28)]) ⟨0, 10, 17, 13⟩ (tableOf [(0, 10, 21, 15)]) rfl (fun z hz => by
        rcases List.mem_cons.mp hz with rfl | hz
        · exact ⟨by decide, "java/lang/IndexOutOfBoundsException", ce_L_28, by decide⟩
        exact nomatch hz) (by decide) (by decide) (name := "java/lang/IllegalArgumentException") ce_L_13 (by decide) 17 rfl (fun x_5 u_5 h_5 => ?_)
  have hu_5 := h_5
  have hw_5 := hu_5.symm
  subst hw_5
  refine cg_astore (lv' := [(4, .ref x_5), (0, .ref o1), (1, .int (nI n1)), (2, .int x1), (3, .ref o2)]) C (Nat.le_of_ble_eq_true rfl) rfl dL_phrase_17 ?_
  refine cg_iconst C (x := nI 2) rfl dL_phrase_19 ?_
  exact cg_iret C ⟨rfl, rfl⟩ dL_phrase_20 (by decide) (by decide)
set_option maxHeartbeats 4000000 in
set_option maxRecDepth 100000 in
theorem z205_X11_phrase (l : Launch) (hlt : l.stackTraces = false) (S : cS) (dp : Nat) (o1 o2 o3 : Nat) (n1 n2 : Nat) (h1 : n1 ≤ 1) (h2 : n2 ≤ 20) (h3 : cr S 352 o1 = (some o2)) (h4 : cK S o1 = 11) (h5 : o1 ∈ cL S) (h6 : cr S 96 o2 = (some o3)) (h7 : cK S o2 = 3) (h8 : o2 ∈ cL S) (h9 : ci S 289 o3 = (nI 0)) (h10 : cK S o3 = 9) (h11 : o3 ∈ cL S) : cMetX "java/lang/IllegalStateException" (fun u_ => ∃ (S1 : cS), S1 = cSi S 98 o2 (nI 0) ∧ ∃ (S2 : cS), S2 = cSi S1 292 o3 (nI 0) ∧ u_ = S2) l yX11_phrase cX11_phrase 4 (some .int) 7 1 6 103 [.ref o1, .int (nI n1), .int (nI n2)] S dp := by
  intro D Y tp sz
  refine cg_bodyX (by decide +kernel) (Nat.le_of_ble_eq_true rfl) ?_
  intro p e s m args below meth c C hne
  generalize va_A (cWd Y S) sz = A at C ⊢
  have C : cC p s m args meth c cX11_phrase 4 (some .int) A D Y tp dp RX11 := C
  refine cg_lv (lv' := [(0, .ref o1), (1, .int (nI n1)), (2, .int (nI n2))]) rfl ?_
  refine cg_iload_n C (i := 1) rfl 1 rfl dX11_phrase_0 ?_
  refine cg_callsv C (z30_X11_checkField l hlt S dp n1 (by omega)) cc_X11_152 rfl ⟨by decide, by decide⟩ ⟨by decide, by decide⟩ rfl (Nat.le_of_ble_eq_true rfl) dX11_phrase_1 (fun u_1 h_1 => ?_)
  have hu_1 := h_1
  have hw_1 := hu_1.symm
  subst hw_1
  refine cg_iload_n C (i := 2) rfl 2 rfl dX11_phrase_4 ?_
  refine cg_if_ltN C (by omega) 14 (by decide) dX11_phrase_5 ?_
  refine cg_iload_n C (i := 2) rfl 2 rfl dX11_phrase_8 ?_
  refine cg_bipush C (x := nI 20) rfl dX11_phrase_9 ?_
  refine cg_icmp_leN C (by omega) (by omega) 25 (by decide) dX11_phrase_11 (fun c_11 => ?_) (fun c_ => absurd c_ (by omega))
  refine cg_aload_n C (i := 0) rfl 0 rfl dX11_phrase_25 ?_
  refine cg_get C (k := 11) (j := 0) (.ref o2) h5 h4 (by decide) rfl (by decide) rfl (show cV _ 11 0 o1 = _ from congrArg va_rf h3) cWs_wsX110 cl_X11_10 rfl dX11_phrase_26 ?_
  refine cg_calli C (z187_X3_readPadTokens l hlt S dp o2 o3 h6 h7 h8 h9 h10 h11) cc_X11_324 h8 h7 (by decide) rfl rfl ⟨by decide, by decide⟩ ⟨by decide, by decide⟩ rfl (Nat.le_of_ble_eq_true rfl) dX11_phrase_29 (fun r_29 u_29 h_29 => ?_)
  obtain ⟨S1, hS1, S2, hS2, hr_29, hu_29⟩ := h_29
  have hw_29 := hu_29.symm
  subst hw_29
  have hx_29 := hr_29.symm
  subst hx_29
  refine cg_istore_n C (i := 3) (lv' := [(3, .int (nI 0)), (0, .ref o1), (1, .int (nI n1)), (2, .int (nI n2))]) rfl (Nat.le_of_ble_eq_true rfl) rfl dX11_phrase_32 ?_
  refine cg_aload_n C (i := 0) rfl 1 rfl dX11_phrase_33 ?_
  refine cg_iload_n C (i := 3) rfl 0 rfl dX11_phrase_34 ?_
  refine cg_iconst C (x := nI 1) rfl dX11_phrase_35 ?_
  refine cg_icmp_ltN C (by omega) (by omega) 49 (by decide) dX11_phrase_36 (fun c_36 => ?_) (fun c_ => absurd c_ (by omega))
  refine cg_iconst C (x := nI 0) rfl dX11_phrase_49 ?_
  exact cg_callx C hne (z188_X11_checkLeaf l hlt S2 dp o1) cc_X11_327 (hm_Si hS2 (hm_Si hS1 h5)) (hk_Si hS2 (hk_Si hS1 h4)) (by decide) rfl rfl ⟨by decide, by decide⟩ ⟨by decide, by decide⟩ rfl (Nat.le_of_ble_eq_true rfl) dX11_phrase_50 ⟨by decide, by decide⟩ (fun u_ h_ => by
      have hu_ := h_
      exact ⟨S1, hS1, S2, hS2, hu_⟩)
set_option maxHeartbeats 4000000 in
set_option maxRecDepth 100000 in
theorem z206_L_phrase (l : Launch) (hlt : l.stackTraces = false) (S : cS) (dp : Nat) (o1 o2 o3 o4 : Nat) (n1 n2 : Nat) (h1 : n1 ≤ 1) (h2 : n2 ≤ 20) (h3 : cr S 352 o1 = (some o3)) (h4 : cK S o1 = 11) (h5 : o1 ∈ cL S) (h6 : cr S 96 o3 = (some o4)) (h7 : cK S o3 = 3) (h8 : o3 ∈ cL S) (h9 : ci S 289 o4 = (nI 0)) (h10 : cK S o4 = 9) (h11 : o4 ∈ cL S) : cMetW (cQi (fun r_ u_ => ∃ (S1 : cS), S1 = cSi S 98 o3 (nI 0) ∧ ∃ (S2 : cS), S2 = cSi S1 292 o4 (nI 0) ∧ r_ = (nI 3) ∧ u_ = S2)) l yL_phrase cL_phrase 5 (some .int) [(0, 10, 13, 28), (0, 10, 17, 13), (0, 10, 21, 15)] 8 1 6 126 [.ref o1, .int (nI n1), .int (nI n2), .ref o2] S dp := by
  intro D Y tp sz
  refine cg_bodyW (by decide +kernel) (Nat.le_of_ble_eq_true rfl) ?_
  intro p e s m args below meth c C htab
  generalize va_A (cWd Y S) sz = A at C ⊢
  have C : cC p s m args meth c cL_phrase 5 (some .int) A D Y tp dp RL := C
  refine cg_lv (lv' := [(0, .ref o1), (1, .int (nI n1)), (2, .int (nI n2)), (3, .ref o2)]) rfl ?_
  refine cg_aload_n C (i := 3) rfl 3 rfl dL_phrase_0 ?_
  refine cg_iconst C (x := nI 0) rfl dL_phrase_1 ?_
  refine cg_aload_n C (i := 0) rfl 0 rfl dL_phrase_2 ?_
  refine cg_iload_n C (i := 1) rfl 1 rfl dL_phrase_3 ?_
  refine cg_iload_n C (i := 2) rfl 2 rfl dL_phrase_4 ?_
  refine cg_callx_catch C htab (z205_X11_phrase l hlt S dp o1 o3 o4 n1 n2 (by omega) (by omega) h3 h4 h5 h6 h7 h8 h9 h10 h11) cc_L_122 h5 h4 (by decide) rfl rfl ⟨by decide, by decide⟩ ⟨by decide, by decide⟩ rfl (Nat.le_of_ble_eq_true rfl) dL_phrase_5 (tableOf [(0, 10, 13, 28), (0, 10, 17, 13)]) ⟨0, 10, 21, 15⟩ (tableOf []) rfl (fun z hz => by
        rcases List.mem_cons.mp hz with rfl | hz
        · exact ⟨by decide, "java/lang/IndexOutOfBoundsException", ce_L_28, by decide⟩
        rcases List.mem_cons.mp hz with rfl | hz
        · exact ⟨by decide, "java/lang/IllegalArgumentException", ce_L_13, by decide⟩
        exact nomatch hz) (by decide) (by decide) (name := "java/lang/IllegalStateException") ce_L_15 (by decide) 21 rfl (fun x_5 u_5 h_5 => ?_)
  obtain ⟨S1, hS1, S2, hS2, hu_5⟩ := h_5
  have hw_5 := hu_5.symm
  subst hw_5
  refine cg_astore (lv' := [(4, .ref x_5), (0, .ref o1), (1, .int (nI n1)), (2, .int (nI n2)), (3, .ref o2)]) C (Nat.le_of_ble_eq_true rfl) rfl dL_phrase_21 ?_
  refine cg_iconst C (x := nI 3) rfl dL_phrase_23 ?_
  exact cg_iret C ⟨S1, hS1, S2, hS2, rfl, rfl⟩ dL_phrase_24 (by decide) (by decide)
set_option maxHeartbeats 4000000 in
set_option maxRecDepth 100000 in
theorem z207_X11_phrase (l : Launch) (hlt : l.stackTraces = false) (S : cS) (dp : Nat) (o1 : Nat) (n1 n2 : Nat) (h1 : n1 ≤ 1) (h2 : 21 ≤ n2) (h3 : n2 ≤ 2147483647) : cMetX "java/lang/IllegalArgumentException" (fun u_ => u_ = S) l yX11_phrase cX11_phrase 4 (some .int) 6 1 6 82 [.ref o1, .int (nI n1), .int (nI n2)] S dp := by
  intro D Y tp sz
  refine cg_bodyX (by decide +kernel) (Nat.le_of_ble_eq_true rfl) ?_
  intro p e s m args below meth c C hne
  generalize va_A (cWd Y S) sz = A at C ⊢
  have C : cC p s m args meth c cX11_phrase 4 (some .int) A D Y tp dp RX11 := C
  refine cg_lv (lv' := [(0, .ref o1), (1, .int (nI n1)), (2, .int (nI n2))]) rfl ?_
  refine cg_iload_n C (i := 1) rfl 1 rfl dX11_phrase_0 ?_
  refine cg_callsv C (z30_X11_checkField l hlt S dp n1 (by omega)) cc_X11_152 rfl ⟨by decide, by decide⟩ ⟨by decide, by decide⟩ rfl (Nat.le_of_ble_eq_true rfl) dX11_phrase_1 (fun u_1 h_1 => ?_)
  have hu_1 := h_1
  have hw_1 := hu_1.symm
  subst hw_1
  refine cg_iload_n C (i := 2) rfl 2 rfl dX11_phrase_4 ?_
  refine cg_if_ltN C (by omega) 14 (by decide) dX11_phrase_5 ?_
  refine cg_iload_n C (i := 2) rfl 2 rfl dX11_phrase_8 ?_
  refine cg_bipush C (x := nI 20) rfl dX11_phrase_9 ?_
  refine cg_icmp_leN C (by omega) (by omega) 25 (by decide) dX11_phrase_11 (fun c_ => absurd c_ (by omega)) (fun c_11 => ?_)
  exact cg_throw1W C hlt hne "the slop is out of range" ce_X11_100 cei_1 (by decide) dX11_phrase_14 dX11_phrase_17 dX11_phrase_18 dX11_phrase_21 dX11_phrase_24 (by decide) (by decide) ⟨by decide, by decide⟩ ⟨by decide, by decide⟩ rfl
set_option maxHeartbeats 4000000 in
set_option maxRecDepth 100000 in
theorem z208_L_phrase (l : Launch) (hlt : l.stackTraces = false) (S : cS) (dp : Nat) (o1 o2 : Nat) (n1 n2 : Nat) (h1 : n1 ≤ 1) (h2 : 21 ≤ n2) (h3 : n2 ≤ 2147483647) (h4 : o1 ∈ cL S) (h5 : cK S o1 = 11) : cMetW (cQi (fun r_ u_ => r_ = (nI 2) ∧ u_ = S)) l yL_phrase cL_phrase 5 (some .int) [(0, 10, 13, 28), (0, 10, 17, 13), (0, 10, 21, 15)] 7 1 6 105 [.ref o1, .int (nI n1), .int (nI n2), .ref o2] S dp := by
  intro D Y tp sz
  refine cg_bodyW (by decide +kernel) (Nat.le_of_ble_eq_true rfl) ?_
  intro p e s m args below meth c C htab
  generalize va_A (cWd Y S) sz = A at C ⊢
  have C : cC p s m args meth c cL_phrase 5 (some .int) A D Y tp dp RL := C
  refine cg_lv (lv' := [(0, .ref o1), (1, .int (nI n1)), (2, .int (nI n2)), (3, .ref o2)]) rfl ?_
  refine cg_aload_n C (i := 3) rfl 3 rfl dL_phrase_0 ?_
  refine cg_iconst C (x := nI 0) rfl dL_phrase_1 ?_
  refine cg_aload_n C (i := 0) rfl 0 rfl dL_phrase_2 ?_
  refine cg_iload_n C (i := 1) rfl 1 rfl dL_phrase_3 ?_
  refine cg_iload_n C (i := 2) rfl 2 rfl dL_phrase_4 ?_
  refine cg_callx_catch C htab (z207_X11_phrase l hlt S dp o1 n1 n2 (by omega) (by omega) (by omega)) cc_L_122 h4 h5 (by decide) rfl rfl ⟨by decide, by decide⟩ ⟨by decide, by decide⟩ rfl (Nat.le_of_ble_eq_true rfl) dL_phrase_5 (tableOf [(0, 10, 13, 28)]) ⟨0, 10, 17, 13⟩ (tableOf [(0, 10, 21, 15)]) rfl (fun z hz => by
        rcases List.mem_cons.mp hz with rfl | hz
        · exact ⟨by decide, "java/lang/IndexOutOfBoundsException", ce_L_28, by decide⟩
        exact nomatch hz) (by decide) (by decide) (name := "java/lang/IllegalArgumentException") ce_L_13 (by decide) 17 rfl (fun x_5 u_5 h_5 => ?_)
  have hu_5 := h_5
  have hw_5 := hu_5.symm
  subst hw_5
  refine cg_astore (lv' := [(4, .ref x_5), (0, .ref o1), (1, .int (nI n1)), (2, .int (nI n2)), (3, .ref o2)]) C (Nat.le_of_ble_eq_true rfl) rfl dL_phrase_17 ?_
  refine cg_iconst C (x := nI 2) rfl dL_phrase_19 ?_
  exact cg_iret C ⟨rfl, rfl⟩ dL_phrase_20 (by decide) (by decide)
set_option maxHeartbeats 4000000 in
set_option maxRecDepth 100000 in
theorem z209_X11_phrase (l : Launch) (hlt : l.stackTraces = false) (S : cS) (dp : Nat) (o1 : Nat) (n1 : Nat) (x1 : Int32) (h1 : 2 ≤ n1) (h2 : n1 ≤ 2147483647) : cMetX "java/lang/IndexOutOfBoundsException" (fun u_ => u_ = S) l yX11_phrase cX11_phrase 4 (some .int) 7 1 6 102 [.ref o1, .int (nI n1), .int x1] S dp := by
  intro D Y tp sz
  refine cg_bodyX (by decide +kernel) (Nat.le_of_ble_eq_true rfl) ?_
  intro p e s m args below meth c C hne
  generalize va_A (cWd Y S) sz = A at C ⊢
  have C : cC p s m args meth c cX11_phrase 4 (some .int) A D Y tp dp RX11 := C
  refine cg_lv (lv' := [(0, .ref o1), (1, .int (nI n1)), (2, .int x1)]) rfl ?_
  refine cg_iload_n C (i := 1) rfl 1 rfl dX11_phrase_0 ?_
  exact cg_callsx C hne (z40_X11_checkField l hlt S dp n1 (by omega) (by omega)) cc_X11_152 rfl ⟨by decide, by decide⟩ ⟨by decide, by decide⟩ rfl (Nat.le_of_ble_eq_true rfl) dX11_phrase_1 ⟨by decide, by decide⟩ (fun u_ h_ => by
      have hu_ := h_
      exact hu_)
set_option maxHeartbeats 4000000 in
set_option maxRecDepth 100000 in
theorem z210_L_phrase (l : Launch) (hlt : l.stackTraces = false) (S : cS) (dp : Nat) (o1 o2 : Nat) (n1 : Nat) (x1 : Int32) (h1 : 2 ≤ n1) (h2 : n1 ≤ 2147483647) (h3 : o1 ∈ cL S) (h4 : cK S o1 = 11) : cMetW (cQi (fun r_ u_ => r_ = (nI 1) ∧ u_ = S)) l yL_phrase cL_phrase 5 (some .int) [(0, 10, 13, 28), (0, 10, 17, 13), (0, 10, 21, 15)] 8 1 6 125 [.ref o1, .int (nI n1), .int x1, .ref o2] S dp := by
  intro D Y tp sz
  refine cg_bodyW (by decide +kernel) (Nat.le_of_ble_eq_true rfl) ?_
  intro p e s m args below meth c C htab
  generalize va_A (cWd Y S) sz = A at C ⊢
  have C : cC p s m args meth c cL_phrase 5 (some .int) A D Y tp dp RL := C
  refine cg_lv (lv' := [(0, .ref o1), (1, .int (nI n1)), (2, .int x1), (3, .ref o2)]) rfl ?_
  refine cg_aload_n C (i := 3) rfl 3 rfl dL_phrase_0 ?_
  refine cg_iconst C (x := nI 0) rfl dL_phrase_1 ?_
  refine cg_aload_n C (i := 0) rfl 0 rfl dL_phrase_2 ?_
  refine cg_iload_n C (i := 1) rfl 1 rfl dL_phrase_3 ?_
  refine cg_iload_n C (i := 2) rfl 2 rfl dL_phrase_4 ?_
  refine cg_callx_catch C htab (z209_X11_phrase l hlt S dp o1 n1 x1 (by omega) (by omega)) cc_L_122 h3 h4 (by decide) rfl rfl ⟨by decide, by decide⟩ ⟨by decide, by decide⟩ rfl (Nat.le_of_ble_eq_true rfl) dL_phrase_5 (tableOf []) ⟨0, 10, 13, 28⟩ (tableOf [(0, 10, 17, 13), (0, 10, 21, 15)]) rfl (fun z hz => nomatch hz) (by decide) (by decide) (name := "java/lang/IndexOutOfBoundsException") ce_L_28 (by decide) 13 rfl (fun x_5 u_5 h_5 => ?_)
  have hu_5 := h_5
  have hw_5 := hu_5.symm
  subst hw_5
  refine cg_astore (lv' := [(4, .ref x_5), (0, .ref o1), (1, .int (nI n1)), (2, .int x1), (3, .ref o2)]) C (Nat.le_of_ble_eq_true rfl) rfl dL_phrase_13 ?_
  refine cg_iconst C (x := nI 1) rfl dL_phrase_15 ?_
  exact cg_iret C ⟨rfl, rfl⟩ dL_phrase_16 (by decide) (by decide)
set_option maxHeartbeats 4000000 in
set_option maxRecDepth 100000 in
theorem z211_X11_phrase (l : Launch) (hlt : l.stackTraces = false) (S : cS) (dp : Nat) (o1 : Nat) (n1 : Nat) (x1 : Int32) (h1 : 2 ≤ n1) (h2 : n1 ≤ 2147483647) (h3 : x1 < 0) : cMetX "java/lang/IndexOutOfBoundsException" (fun u_ => u_ = S) l yX11_phrase cX11_phrase 4 (some .int) 7 1 6 102 [.ref o1, .int (nI n1), .int x1] S dp := by
  intro D Y tp sz
  refine cg_bodyX (by decide +kernel) (Nat.le_of_ble_eq_true rfl) ?_
  intro p e s m args below meth c C hne
  generalize va_A (cWd Y S) sz = A at C ⊢
  have C : cC p s m args meth c cX11_phrase 4 (some .int) A D Y tp dp RX11 := C
  refine cg_lv (lv' := [(0, .ref o1), (1, .int (nI n1)), (2, .int x1)]) rfl ?_
  refine cg_iload_n C (i := 1) rfl 1 rfl dX11_phrase_0 ?_
  exact cg_callsx C hne (z40_X11_checkField l hlt S dp n1 (by omega) (by omega)) cc_X11_152 rfl ⟨by decide, by decide⟩ ⟨by decide, by decide⟩ rfl (Nat.le_of_ble_eq_true rfl) dX11_phrase_1 ⟨by decide, by decide⟩ (fun u_ h_ => by
      have hu_ := h_
      exact hu_)
set_option maxHeartbeats 4000000 in
set_option maxRecDepth 100000 in
theorem z212_L_phrase (l : Launch) (hlt : l.stackTraces = false) (S : cS) (dp : Nat) (o1 o2 : Nat) (n1 : Nat) (x1 : Int32) (h1 : 2 ≤ n1) (h2 : n1 ≤ 2147483647) (h3 : x1 < 0) (h4 : o1 ∈ cL S) (h5 : cK S o1 = 11) : cMetW (cQi (fun r_ u_ => r_ = (nI 1) ∧ u_ = S)) l yL_phrase cL_phrase 5 (some .int) [(0, 10, 13, 28), (0, 10, 17, 13), (0, 10, 21, 15)] 8 1 6 125 [.ref o1, .int (nI n1), .int x1, .ref o2] S dp := by
  intro D Y tp sz
  refine cg_bodyW (by decide +kernel) (Nat.le_of_ble_eq_true rfl) ?_
  intro p e s m args below meth c C htab
  generalize va_A (cWd Y S) sz = A at C ⊢
  have C : cC p s m args meth c cL_phrase 5 (some .int) A D Y tp dp RL := C
  refine cg_lv (lv' := [(0, .ref o1), (1, .int (nI n1)), (2, .int x1), (3, .ref o2)]) rfl ?_
  refine cg_aload_n C (i := 3) rfl 3 rfl dL_phrase_0 ?_
  refine cg_iconst C (x := nI 0) rfl dL_phrase_1 ?_
  refine cg_aload_n C (i := 0) rfl 0 rfl dL_phrase_2 ?_
  refine cg_iload_n C (i := 1) rfl 1 rfl dL_phrase_3 ?_
  refine cg_iload_n C (i := 2) rfl 2 rfl dL_phrase_4 ?_
  refine cg_callx_catch C htab (z211_X11_phrase l hlt S dp o1 n1 x1 (by omega) (by omega) h3) cc_L_122 h4 h5 (by decide) rfl rfl ⟨by decide, by decide⟩ ⟨by decide, by decide⟩ rfl (Nat.le_of_ble_eq_true rfl) dL_phrase_5 (tableOf []) ⟨0, 10, 13, 28⟩ (tableOf [(0, 10, 17, 13), (0, 10, 21, 15)]) rfl (fun z hz => nomatch hz) (by decide) (by decide) (name := "java/lang/IndexOutOfBoundsException") ce_L_28 (by decide) 13 rfl (fun x_5 u_5 h_5 => ?_)
  have hu_5 := h_5
  have hw_5 := hu_5.symm
  subst hw_5
  refine cg_astore (lv' := [(4, .ref x_5), (0, .ref o1), (1, .int (nI n1)), (2, .int x1), (3, .ref o2)]) C (Nat.le_of_ble_eq_true rfl) rfl dL_phrase_13 ?_
  refine cg_iconst C (x := nI 1) rfl dL_phrase_15 ?_
  exact cg_iret C ⟨rfl, rfl⟩ dL_phrase_16 (by decide) (by decide)
set_option maxHeartbeats 4000000 in
set_option maxRecDepth 100000 in
theorem z213_X11_phrase (l : Launch) (hlt : l.stackTraces = false) (S : cS) (dp : Nat) (o1 : Nat) (n1 n2 : Nat) (h1 : 2 ≤ n1) (h2 : n1 ≤ 2147483647) (h3 : n2 ≤ 2147483647) : cMetX "java/lang/IndexOutOfBoundsException" (fun u_ => u_ = S) l yX11_phrase cX11_phrase 4 (some .int) 7 1 6 102 [.ref o1, .int (nI n1), .int (nI n2)] S dp := by
  intro D Y tp sz
  refine cg_bodyX (by decide +kernel) (Nat.le_of_ble_eq_true rfl) ?_
  intro p e s m args below meth c C hne
  generalize va_A (cWd Y S) sz = A at C ⊢
  have C : cC p s m args meth c cX11_phrase 4 (some .int) A D Y tp dp RX11 := C
  refine cg_lv (lv' := [(0, .ref o1), (1, .int (nI n1)), (2, .int (nI n2))]) rfl ?_
  refine cg_iload_n C (i := 1) rfl 1 rfl dX11_phrase_0 ?_
  exact cg_callsx C hne (z40_X11_checkField l hlt S dp n1 (by omega) (by omega)) cc_X11_152 rfl ⟨by decide, by decide⟩ ⟨by decide, by decide⟩ rfl (Nat.le_of_ble_eq_true rfl) dX11_phrase_1 ⟨by decide, by decide⟩ (fun u_ h_ => by
      have hu_ := h_
      exact hu_)
set_option maxHeartbeats 4000000 in
set_option maxRecDepth 100000 in
theorem z214_L_phrase (l : Launch) (hlt : l.stackTraces = false) (S : cS) (dp : Nat) (o1 o2 : Nat) (n1 n2 : Nat) (h1 : 2 ≤ n1) (h2 : n1 ≤ 2147483647) (h3 : n2 ≤ 2147483647) (h4 : o1 ∈ cL S) (h5 : cK S o1 = 11) : cMetW (cQi (fun r_ u_ => r_ = (nI 1) ∧ u_ = S)) l yL_phrase cL_phrase 5 (some .int) [(0, 10, 13, 28), (0, 10, 17, 13), (0, 10, 21, 15)] 8 1 6 125 [.ref o1, .int (nI n1), .int (nI n2), .ref o2] S dp := by
  intro D Y tp sz
  refine cg_bodyW (by decide +kernel) (Nat.le_of_ble_eq_true rfl) ?_
  intro p e s m args below meth c C htab
  generalize va_A (cWd Y S) sz = A at C ⊢
  have C : cC p s m args meth c cL_phrase 5 (some .int) A D Y tp dp RL := C
  refine cg_lv (lv' := [(0, .ref o1), (1, .int (nI n1)), (2, .int (nI n2)), (3, .ref o2)]) rfl ?_
  refine cg_aload_n C (i := 3) rfl 3 rfl dL_phrase_0 ?_
  refine cg_iconst C (x := nI 0) rfl dL_phrase_1 ?_
  refine cg_aload_n C (i := 0) rfl 0 rfl dL_phrase_2 ?_
  refine cg_iload_n C (i := 1) rfl 1 rfl dL_phrase_3 ?_
  refine cg_iload_n C (i := 2) rfl 2 rfl dL_phrase_4 ?_
  refine cg_callx_catch C htab (z213_X11_phrase l hlt S dp o1 n1 n2 (by omega) (by omega) (by omega)) cc_L_122 h4 h5 (by decide) rfl rfl ⟨by decide, by decide⟩ ⟨by decide, by decide⟩ rfl (Nat.le_of_ble_eq_true rfl) dL_phrase_5 (tableOf []) ⟨0, 10, 13, 28⟩ (tableOf [(0, 10, 17, 13), (0, 10, 21, 15)]) rfl (fun z hz => nomatch hz) (by decide) (by decide) (name := "java/lang/IndexOutOfBoundsException") ce_L_28 (by decide) 13 rfl (fun x_5 u_5 h_5 => ?_)
  have hu_5 := h_5
  have hw_5 := hu_5.symm
  subst hw_5
  refine cg_astore (lv' := [(4, .ref x_5), (0, .ref o1), (1, .int (nI n1)), (2, .int (nI n2)), (3, .ref o2)]) C (Nat.le_of_ble_eq_true rfl) rfl dL_phrase_13 ?_
  refine cg_iconst C (x := nI 1) rfl dL_phrase_15 ?_
  exact cg_iret C ⟨rfl, rfl⟩ dL_phrase_16 (by decide) (by decide)
set_option maxHeartbeats 4000000 in
set_option maxRecDepth 100000 in
theorem z215_X11_phrase (l : Launch) (hlt : l.stackTraces = false) (S : cS) (dp : Nat) (o1 : Nat) (n1 n2 : Nat) (h1 : 2 ≤ n1) (h2 : n1 ≤ 2147483647) (h3 : n2 ≤ 20) : cMetX "java/lang/IndexOutOfBoundsException" (fun u_ => u_ = S) l yX11_phrase cX11_phrase 4 (some .int) 7 1 6 102 [.ref o1, .int (nI n1), .int (nI n2)] S dp := by
  intro D Y tp sz
  refine cg_bodyX (by decide +kernel) (Nat.le_of_ble_eq_true rfl) ?_
  intro p e s m args below meth c C hne
  generalize va_A (cWd Y S) sz = A at C ⊢
  have C : cC p s m args meth c cX11_phrase 4 (some .int) A D Y tp dp RX11 := C
  refine cg_lv (lv' := [(0, .ref o1), (1, .int (nI n1)), (2, .int (nI n2))]) rfl ?_
  refine cg_iload_n C (i := 1) rfl 1 rfl dX11_phrase_0 ?_
  exact cg_callsx C hne (z40_X11_checkField l hlt S dp n1 (by omega) (by omega)) cc_X11_152 rfl ⟨by decide, by decide⟩ ⟨by decide, by decide⟩ rfl (Nat.le_of_ble_eq_true rfl) dX11_phrase_1 ⟨by decide, by decide⟩ (fun u_ h_ => by
      have hu_ := h_
      exact hu_)
set_option maxHeartbeats 4000000 in
set_option maxRecDepth 100000 in
theorem z216_L_phrase (l : Launch) (hlt : l.stackTraces = false) (S : cS) (dp : Nat) (o1 o2 : Nat) (n1 n2 : Nat) (h1 : 2 ≤ n1) (h2 : n1 ≤ 2147483647) (h3 : n2 ≤ 20) (h4 : o1 ∈ cL S) (h5 : cK S o1 = 11) : cMetW (cQi (fun r_ u_ => r_ = (nI 1) ∧ u_ = S)) l yL_phrase cL_phrase 5 (some .int) [(0, 10, 13, 28), (0, 10, 17, 13), (0, 10, 21, 15)] 8 1 6 125 [.ref o1, .int (nI n1), .int (nI n2), .ref o2] S dp := by
  intro D Y tp sz
  refine cg_bodyW (by decide +kernel) (Nat.le_of_ble_eq_true rfl) ?_
  intro p e s m args below meth c C htab
  generalize va_A (cWd Y S) sz = A at C ⊢
  have C : cC p s m args meth c cL_phrase 5 (some .int) A D Y tp dp RL := C
  refine cg_lv (lv' := [(0, .ref o1), (1, .int (nI n1)), (2, .int (nI n2)), (3, .ref o2)]) rfl ?_
  refine cg_aload_n C (i := 3) rfl 3 rfl dL_phrase_0 ?_
  refine cg_iconst C (x := nI 0) rfl dL_phrase_1 ?_
  refine cg_aload_n C (i := 0) rfl 0 rfl dL_phrase_2 ?_
  refine cg_iload_n C (i := 1) rfl 1 rfl dL_phrase_3 ?_
  refine cg_iload_n C (i := 2) rfl 2 rfl dL_phrase_4 ?_
  refine cg_callx_catch C htab (z215_X11_phrase l hlt S dp o1 n1 n2 (by omega) (by omega) (by omega)) cc_L_122 h4 h5 (by decide) rfl rfl ⟨by decide, by decide⟩ ⟨by decide, by decide⟩ rfl (Nat.le_of_ble_eq_true rfl) dL_phrase_5 (tableOf []) ⟨0, 10, 13, 28⟩ (tableOf [(0, 10, 17, 13), (0, 10, 21, 15)]) rfl (fun z hz => nomatch hz) (by decide) (by decide) (name := "java/lang/IndexOutOfBoundsException") ce_L_28 (by decide) 13 rfl (fun x_5 u_5 h_5 => ?_)
  have hu_5 := h_5
  have hw_5 := hu_5.symm
  subst hw_5
  refine cg_astore (lv' := [(4, .ref x_5), (0, .ref o1), (1, .int (nI n1)), (2, .int (nI n2)), (3, .ref o2)]) C (Nat.le_of_ble_eq_true rfl) rfl dL_phrase_13 ?_
  refine cg_iconst C (x := nI 1) rfl dL_phrase_15 ?_
  exact cg_iret C ⟨rfl, rfl⟩ dL_phrase_16 (by decide) (by decide)
set_option maxHeartbeats 4000000 in
set_option maxRecDepth 100000 in
theorem z217_X11_phrase (l : Launch) (hlt : l.stackTraces = false) (S : cS) (dp : Nat) (o1 : Nat) (n1 n2 : Nat) (h1 : 2 ≤ n1) (h2 : n1 ≤ 2147483647) (h3 : 21 ≤ n2) (h4 : n2 ≤ 2147483647) : cMetX "java/lang/IndexOutOfBoundsException" (fun u_ => u_ = S) l yX11_phrase cX11_phrase 4 (some .int) 7 1 6 102 [.ref o1, .int (nI n1), .int (nI n2)] S dp := by
  intro D Y tp sz
  refine cg_bodyX (by decide +kernel) (Nat.le_of_ble_eq_true rfl) ?_
  intro p e s m args below meth c C hne
  generalize va_A (cWd Y S) sz = A at C ⊢
  have C : cC p s m args meth c cX11_phrase 4 (some .int) A D Y tp dp RX11 := C
  refine cg_lv (lv' := [(0, .ref o1), (1, .int (nI n1)), (2, .int (nI n2))]) rfl ?_
  refine cg_iload_n C (i := 1) rfl 1 rfl dX11_phrase_0 ?_
  exact cg_callsx C hne (z40_X11_checkField l hlt S dp n1 (by omega) (by omega)) cc_X11_152 rfl ⟨by decide, by decide⟩ ⟨by decide, by decide⟩ rfl (Nat.le_of_ble_eq_true rfl) dX11_phrase_1 ⟨by decide, by decide⟩ (fun u_ h_ => by
      have hu_ := h_
      exact hu_)
set_option maxHeartbeats 4000000 in
set_option maxRecDepth 100000 in
theorem z218_L_phrase (l : Launch) (hlt : l.stackTraces = false) (S : cS) (dp : Nat) (o1 o2 : Nat) (n1 n2 : Nat) (h1 : 2 ≤ n1) (h2 : n1 ≤ 2147483647) (h3 : 21 ≤ n2) (h4 : n2 ≤ 2147483647) (h5 : o1 ∈ cL S) (h6 : cK S o1 = 11) : cMetW (cQi (fun r_ u_ => r_ = (nI 1) ∧ u_ = S)) l yL_phrase cL_phrase 5 (some .int) [(0, 10, 13, 28), (0, 10, 17, 13), (0, 10, 21, 15)] 8 1 6 125 [.ref o1, .int (nI n1), .int (nI n2), .ref o2] S dp := by
  intro D Y tp sz
  refine cg_bodyW (by decide +kernel) (Nat.le_of_ble_eq_true rfl) ?_
  intro p e s m args below meth c C htab
  generalize va_A (cWd Y S) sz = A at C ⊢
  have C : cC p s m args meth c cL_phrase 5 (some .int) A D Y tp dp RL := C
  refine cg_lv (lv' := [(0, .ref o1), (1, .int (nI n1)), (2, .int (nI n2)), (3, .ref o2)]) rfl ?_
  refine cg_aload_n C (i := 3) rfl 3 rfl dL_phrase_0 ?_
  refine cg_iconst C (x := nI 0) rfl dL_phrase_1 ?_
  refine cg_aload_n C (i := 0) rfl 0 rfl dL_phrase_2 ?_
  refine cg_iload_n C (i := 1) rfl 1 rfl dL_phrase_3 ?_
  refine cg_iload_n C (i := 2) rfl 2 rfl dL_phrase_4 ?_
  refine cg_callx_catch C htab (z217_X11_phrase l hlt S dp o1 n1 n2 (by omega) (by omega) (by omega) (by omega)) cc_L_122 h5 h6 (by decide) rfl rfl ⟨by decide, by decide⟩ ⟨by decide, by decide⟩ rfl (Nat.le_of_ble_eq_true rfl) dL_phrase_5 (tableOf []) ⟨0, 10, 13, 28⟩ (tableOf [(0, 10, 17, 13), (0, 10, 21, 15)]) rfl (fun z hz => nomatch hz) (by decide) (by decide) (name := "java/lang/IndexOutOfBoundsException") ce_L_28 (by decide) 13 rfl (fun x_5 u_5 h_5 => ?_)
  have hu_5 := h_5
  have hw_5 := hu_5.symm
  subst hw_5
  refine cg_astore (lv' := [(4, .ref x_5), (0, .ref o1), (1, .int (nI n1)), (2, .int (nI n2)), (3, .ref o2)]) C (Nat.le_of_ble_eq_true rfl) rfl dL_phrase_13 ?_
  refine cg_iconst C (x := nI 1) rfl dL_phrase_15 ?_
  exact cg_iret C ⟨rfl, rfl⟩ dL_phrase_16 (by decide) (by decide)
set_option maxHeartbeats 4000000 in
set_option maxRecDepth 100000 in
theorem z219_X11_near (l : Launch) (hlt : l.stackTraces = false) (S : cS) (dp : Nat) (o1 : Nat) (x1 x2 : Int32) (h1 : x1 < 0) : cMetX "java/lang/IndexOutOfBoundsException" (fun u_ => u_ = S) l yX11_near cX11_near 5 (some .int) 7 1 6 102 [.ref o1, .int x1, .int x2, .int (nI 1)] S dp := by
  intro D Y tp sz
  refine cg_bodyX (by decide +kernel) (Nat.le_of_ble_eq_true rfl) ?_
  intro p e s m args below meth c C hne
  generalize va_A (cWd Y S) sz = A at C ⊢
  have C : cC p s m args meth c cX11_near 5 (some .int) A D Y tp dp RX11 := C
  refine cg_lv (lv' := [(0, .ref o1), (1, .int x1), (2, .int x2), (3, .int (nI 1))]) rfl ?_
  refine cg_iload_n C (i := 1) rfl 1 rfl dX11_near_0 ?_
  exact cg_callsx C hne (z27_X11_checkField l hlt S dp x1 h1) cc_X11_152 rfl ⟨by decide, by decide⟩ ⟨by decide, by decide⟩ rfl (Nat.le_of_ble_eq_true rfl) dX11_near_1 ⟨by decide, by decide⟩ (fun u_ h_ => by
      have hu_ := h_
      exact hu_)
set_option maxHeartbeats 4000000 in
set_option maxRecDepth 100000 in
theorem z220_L_near (l : Launch) (hlt : l.stackTraces = false) (S : cS) (dp : Nat) (o1 o2 : Nat) (x1 x2 : Int32) (h1 : x1 < 0) (h2 : o1 ∈ cL S) (h3 : cK S o1 = 11) : cMetW (cQi (fun r_ u_ => r_ = (nI 1) ∧ u_ = S)) l yL_near cL_near 6 (some .int) [(0, 12, 15, 28), (0, 12, 19, 13), (0, 12, 23, 15)] 8 1 6 126 [.ref o1, .int x1, .int x2, .int (nI 1), .ref o2] S dp := by
  intro D Y tp sz
  refine cg_bodyW (by decide +kernel) (Nat.le_of_ble_eq_true rfl) ?_
  intro p e s m args below meth c C htab
  generalize va_A (cWd Y S) sz = A at C ⊢
  have C : cC p s m args meth c cL_near 6 (some .int) A D Y tp dp RL := C
  refine cg_lv (lv' := [(0, .ref o1), (1, .int x1), (2, .int x2), (3, .int (nI 1)), (4, .ref o2)]) rfl ?_
  refine cg_aload C 4 rfl dL_near_0 ?_
  refine cg_iconst C (x := nI 0) rfl dL_near_2 ?_
  refine cg_aload_n C (i := 0) rfl 0 rfl dL_near_3 ?_
  refine cg_iload_n C (i := 1) rfl 1 rfl dL_near_4 ?_
  refine cg_iload_n C (i := 2) rfl 2 rfl dL_near_5 ?_
  refine cg_iload_n C (i := 3) rfl 3 rfl dL_near_6 ?_
  refine cg_callx_catch C htab (z219_X11_near l hlt S dp o1 x1 x2 h1) cc_L_125 h2 h3 (by decide) rfl rfl ⟨by decide, by decide⟩ ⟨by decide, by decide⟩ rfl (Nat.le_of_ble_eq_true rfl) dL_near_7 (tableOf []) ⟨0, 12, 15, 28⟩ (tableOf [(0, 12, 19, 13), (0, 12, 23, 15)]) rfl (fun z hz => nomatch hz) (by decide) (by decide) (name := "java/lang/IndexOutOfBoundsException") ce_L_28 (by decide) 15 rfl (fun x_7 u_7 h_7 => ?_)
  have hu_7 := h_7
  have hw_7 := hu_7.symm
  subst hw_7
  refine cg_astore (lv' := [(5, .ref x_7), (0, .ref o1), (1, .int x1), (2, .int x2), (3, .int (nI 1)), (4, .ref o2)]) C (Nat.le_of_ble_eq_true rfl) rfl dL_near_15 ?_
  refine cg_iconst C (x := nI 1) rfl dL_near_17 ?_
  exact cg_iret C ⟨rfl, rfl⟩ dL_near_18 (by decide) (by decide)
set_option maxHeartbeats 4000000 in
set_option maxRecDepth 100000 in
theorem z221_X11_near (l : Launch) (hlt : l.stackTraces = false) (S : cS) (dp : Nat) (o1 : Nat) (x1 x2 : Int32) (h1 : x1 < 0) (h2 : x2 < 0) : cMetX "java/lang/IndexOutOfBoundsException" (fun u_ => u_ = S) l yX11_near cX11_near 5 (some .int) 7 1 6 102 [.ref o1, .int x1, .int x2, .int (nI 1)] S dp := by
  intro D Y tp sz
  refine cg_bodyX (by decide +kernel) (Nat.le_of_ble_eq_true rfl) ?_
  intro p e s m args below meth c C hne
  generalize va_A (cWd Y S) sz = A at C ⊢
  have C : cC p s m args meth c cX11_near 5 (some .int) A D Y tp dp RX11 := C
  refine cg_lv (lv' := [(0, .ref o1), (1, .int x1), (2, .int x2), (3, .int (nI 1))]) rfl ?_
  refine cg_iload_n C (i := 1) rfl 1 rfl dX11_near_0 ?_
  exact cg_callsx C hne (z27_X11_checkField l hlt S dp x1 h1) cc_X11_152 rfl ⟨by decide, by decide⟩ ⟨by decide, by decide⟩ rfl (Nat.le_of_ble_eq_true rfl) dX11_near_1 ⟨by decide, by decide⟩ (fun u_ h_ => by
      have hu_ := h_
      exact hu_)
set_option maxHeartbeats 4000000 in
set_option maxRecDepth 100000 in
theorem z222_L_near (l : Launch) (hlt : l.stackTraces = false) (S : cS) (dp : Nat) (o1 o2 : Nat) (x1 x2 : Int32) (h1 : x1 < 0) (h2 : x2 < 0) (h3 : o1 ∈ cL S) (h4 : cK S o1 = 11) : cMetW (cQi (fun r_ u_ => r_ = (nI 1) ∧ u_ = S)) l yL_near cL_near 6 (some .int) [(0, 12, 15, 28), (0, 12, 19, 13), (0, 12, 23, 15)] 8 1 6 126 [.ref o1, .int x1, .int x2, .int (nI 1), .ref o2] S dp := by
  intro D Y tp sz
  refine cg_bodyW (by decide +kernel) (Nat.le_of_ble_eq_true rfl) ?_
  intro p e s m args below meth c C htab
  generalize va_A (cWd Y S) sz = A at C ⊢
  have C : cC p s m args meth c cL_near 6 (some .int) A D Y tp dp RL := C
  refine cg_lv (lv' := [(0, .ref o1), (1, .int x1), (2, .int x2), (3, .int (nI 1)), (4, .ref o2)]) rfl ?_
  refine cg_aload C 4 rfl dL_near_0 ?_
  refine cg_iconst C (x := nI 0) rfl dL_near_2 ?_
  refine cg_aload_n C (i := 0) rfl 0 rfl dL_near_3 ?_
  refine cg_iload_n C (i := 1) rfl 1 rfl dL_near_4 ?_
  refine cg_iload_n C (i := 2) rfl 2 rfl dL_near_5 ?_
  refine cg_iload_n C (i := 3) rfl 3 rfl dL_near_6 ?_
  refine cg_callx_catch C htab (z221_X11_near l hlt S dp o1 x1 x2 h1 h2) cc_L_125 h3 h4 (by decide) rfl rfl ⟨by decide, by decide⟩ ⟨by decide, by decide⟩ rfl (Nat.le_of_ble_eq_true rfl) dL_near_7 (tableOf []) ⟨0, 12, 15, 28⟩ (tableOf [(0, 12, 19, 13), (0, 12, 23, 15)]) rfl (fun z hz => nomatch hz) (by decide) (by decide) (name := "java/lang/IndexOutOfBoundsException") ce_L_28 (by decide) 15 rfl (fun x_7 u_7 h_7 => ?_)
  have hu_7 := h_7
  have hw_7 := hu_7.symm
  subst hw_7
  refine cg_astore (lv' := [(5, .ref x_7), (0, .ref o1), (1, .int x1), (2, .int x2), (3, .int (nI 1)), (4, .ref o2)]) C (Nat.le_of_ble_eq_true rfl) rfl dL_near_15 ?_
  refine cg_iconst C (x := nI 1) rfl dL_near_17 ?_
  exact cg_iret C ⟨rfl, rfl⟩ dL_near_18 (by decide) (by decide)
set_option maxHeartbeats 4000000 in
set_option maxRecDepth 100000 in
theorem z223_X11_near (l : Launch) (hlt : l.stackTraces = false) (S : cS) (dp : Nat) (o1 : Nat) (n1 : Nat) (x1 : Int32) (h1 : x1 < 0) (h2 : n1 ≤ 2147483647) : cMetX "java/lang/IndexOutOfBoundsException" (fun u_ => u_ = S) l yX11_near cX11_near 5 (some .int) 7 1 6 102 [.ref o1, .int x1, .int (nI n1), .int (nI 1)] S dp := by
  intro D Y tp sz
  refine cg_bodyX (by decide +kernel) (Nat.le_of_ble_eq_true rfl) ?_
  intro p e s m args below meth c C hne
  generalize va_A (cWd Y S) sz = A at C ⊢
  have C : cC p s m args meth c cX11_near 5 (some .int) A D Y tp dp RX11 := C
  refine cg_lv (lv' := [(0, .ref o1), (1, .int x1), (2, .int (nI n1)), (3, .int (nI 1))]) rfl ?_
  refine cg_iload_n C (i := 1) rfl 1 rfl dX11_near_0 ?_
  exact cg_callsx C hne (z27_X11_checkField l hlt S dp x1 h1) cc_X11_152 rfl ⟨by decide, by decide⟩ ⟨by decide, by decide⟩ rfl (Nat.le_of_ble_eq_true rfl) dX11_near_1 ⟨by decide, by decide⟩ (fun u_ h_ => by
      have hu_ := h_
      exact hu_)
set_option maxHeartbeats 4000000 in
set_option maxRecDepth 100000 in
theorem z224_L_near (l : Launch) (hlt : l.stackTraces = false) (S : cS) (dp : Nat) (o1 o2 : Nat) (n1 : Nat) (x1 : Int32) (h1 : x1 < 0) (h2 : n1 ≤ 2147483647) (h3 : o1 ∈ cL S) (h4 : cK S o1 = 11) : cMetW (cQi (fun r_ u_ => r_ = (nI 1) ∧ u_ = S)) l yL_near cL_near 6 (some .int) [(0, 12, 15, 28), (0, 12, 19, 13), (0, 12, 23, 15)] 8 1 6 126 [.ref o1, .int x1, .int (nI n1), .int (nI 1), .ref o2] S dp := by
  intro D Y tp sz
  refine cg_bodyW (by decide +kernel) (Nat.le_of_ble_eq_true rfl) ?_
  intro p e s m args below meth c C htab
  generalize va_A (cWd Y S) sz = A at C ⊢
  have C : cC p s m args meth c cL_near 6 (some .int) A D Y tp dp RL := C
  refine cg_lv (lv' := [(0, .ref o1), (1, .int x1), (2, .int (nI n1)), (3, .int (nI 1)), (4, .ref o2)]) rfl ?_
  refine cg_aload C 4 rfl dL_near_0 ?_
  refine cg_iconst C (x := nI 0) rfl dL_near_2 ?_
  refine cg_aload_n C (i := 0) rfl 0 rfl dL_near_3 ?_
  refine cg_iload_n C (i := 1) rfl 1 rfl dL_near_4 ?_
  refine cg_iload_n C (i := 2) rfl 2 rfl dL_near_5 ?_
  refine cg_iload_n C (i := 3) rfl 3 rfl dL_near_6 ?_
  refine cg_callx_catch C htab (z223_X11_near l hlt S dp o1 n1 x1 h1 (by omega)) cc_L_125 h3 h4 (by decide) rfl rfl ⟨by decide, by decide⟩ ⟨by decide, by decide⟩ rfl (Nat.le_of_ble_eq_true rfl) dL_near_7 (tableOf []) ⟨0, 12, 15, 28⟩ (tableOf [(0, 12, 19, 13), (0, 12, 23, 15)]) rfl (fun z hz => nomatch hz) (by decide) (by decide) (name := "java/lang/IndexOutOfBoundsException") ce_L_28 (by decide) 15 rfl (fun x_7 u_7 h_7 => ?_)
  have hu_7 := h_7
  have hw_7 := hu_7.symm
  subst hw_7
  refine cg_astore (lv' := [(5, .ref x_7), (0, .ref o1), (1, .int x1), (2, .int (nI n1)), (3, .int (nI 1)), (4, .ref o2)]) C (Nat.le_of_ble_eq_true rfl) rfl dL_near_15 ?_
  refine cg_iconst C (x := nI 1) rfl dL_near_17 ?_
  exact cg_iret C ⟨rfl, rfl⟩ dL_near_18 (by decide) (by decide)
set_option maxHeartbeats 4000000 in
set_option maxRecDepth 100000 in
theorem z225_X11_near (l : Launch) (hlt : l.stackTraces = false) (S : cS) (dp : Nat) (o1 : Nat) (x1 : Int32) (h1 : x1 < 0) : cMetX "java/lang/IndexOutOfBoundsException" (fun u_ => u_ = S) l yX11_near cX11_near 5 (some .int) 7 1 6 102 [.ref o1, .int x1, .int (nI 0), .int (nI 1)] S dp := by
  intro D Y tp sz
  refine cg_bodyX (by decide +kernel) (Nat.le_of_ble_eq_true rfl) ?_
  intro p e s m args below meth c C hne
  generalize va_A (cWd Y S) sz = A at C ⊢
  have C : cC p s m args meth c cX11_near 5 (some .int) A D Y tp dp RX11 := C
  refine cg_lv (lv' := [(0, .ref o1), (1, .int x1), (2, .int (nI 0)), (3, .int (nI 1))]) rfl ?_
  refine cg_iload_n C (i := 1) rfl 1 rfl dX11_near_0 ?_
  exact cg_callsx C hne (z27_X11_checkField l hlt S dp x1 h1) cc_X11_152 rfl ⟨by decide, by decide⟩ ⟨by decide, by decide⟩ rfl (Nat.le_of_ble_eq_true rfl) dX11_near_1 ⟨by decide, by decide⟩ (fun u_ h_ => by
      have hu_ := h_
      exact hu_)
set_option maxHeartbeats 4000000 in
set_option maxRecDepth 100000 in
theorem z226_L_near (l : Launch) (hlt : l.stackTraces = false) (S : cS) (dp : Nat) (o1 o2 : Nat) (x1 : Int32) (h1 : x1 < 0) (h2 : o1 ∈ cL S) (h3 : cK S o1 = 11) : cMetW (cQi (fun r_ u_ => r_ = (nI 1) ∧ u_ = S)) l yL_near cL_near 6 (some .int) [(0, 12, 15, 28), (0, 12, 19, 13), (0, 12, 23, 15)] 8 1 6 126 [.ref o1, .int x1, .int (nI 0), .int (nI 1), .ref o2] S dp := by
  intro D Y tp sz
  refine cg_bodyW (by decide +kernel) (Nat.le_of_ble_eq_true rfl) ?_
  intro p e s m args below meth c C htab
  generalize va_A (cWd Y S) sz = A at C ⊢
  have C : cC p s m args meth c cL_near 6 (some .int) A D Y tp dp RL := C
  refine cg_lv (lv' := [(0, .ref o1), (1, .int x1), (2, .int (nI 0)), (3, .int (nI 1)), (4, .ref o2)]) rfl ?_
  refine cg_aload C 4 rfl dL_near_0 ?_
  refine cg_iconst C (x := nI 0) rfl dL_near_2 ?_
  refine cg_aload_n C (i := 0) rfl 0 rfl dL_near_3 ?_
  refine cg_iload_n C (i := 1) rfl 1 rfl dL_near_4 ?_
  refine cg_iload_n C (i := 2) rfl 2 rfl dL_near_5 ?_
  refine cg_iload_n C (i := 3) rfl 3 rfl dL_near_6 ?_
  refine cg_callx_catch C htab (z225_X11_near l hlt S dp o1 x1 h1) cc_L_125 h2 h3 (by decide) rfl rfl ⟨by decide, by decide⟩ ⟨by decide, by decide⟩ rfl (Nat.le_of_ble_eq_true rfl) dL_near_7 (tableOf []) ⟨0, 12, 15, 28⟩ (tableOf [(0, 12, 19, 13), (0, 12, 23, 15)]) rfl (fun z hz => nomatch hz) (by decide) (by decide) (name := "java/lang/IndexOutOfBoundsException") ce_L_28 (by decide) 15 rfl (fun x_7 u_7 h_7 => ?_)
  have hu_7 := h_7
  have hw_7 := hu_7.symm
  subst hw_7
  refine cg_astore (lv' := [(5, .ref x_7), (0, .ref o1), (1, .int x1), (2, .int (nI 0)), (3, .int (nI 1)), (4, .ref o2)]) C (Nat.le_of_ble_eq_true rfl) rfl dL_near_15 ?_
  refine cg_iconst C (x := nI 1) rfl dL_near_17 ?_
  exact cg_iret C ⟨rfl, rfl⟩ dL_near_18 (by decide) (by decide)
set_option maxHeartbeats 4000000 in
set_option maxRecDepth 100000 in
theorem z227_X11_near (l : Launch) (hlt : l.stackTraces = false) (S : cS) (dp : Nat) (o1 : Nat) (n1 : Nat) (x1 : Int32) (h1 : x1 < 0) (h2 : 1 ≤ n1) (h3 : n1 ≤ 2147483647) : cMetX "java/lang/IndexOutOfBoundsException" (fun u_ => u_ = S) l yX11_near cX11_near 5 (some .int) 7 1 6 102 [.ref o1, .int x1, .int (nI n1), .int (nI 1)] S dp := by
  intro D Y tp sz
  refine cg_bodyX (by decide +kernel) (Nat.le_of_ble_eq_true rfl) ?_
  intro p e s m args below meth c C hne
  generalize va_A (cWd Y S) sz = A at C ⊢
  have C : cC p s m args meth c cX11_near 5 (some .int) A D Y tp dp RX11 := C
  refine cg_lv (lv' := [(0, .ref o1), (1, .int x1), (2, .int (nI n1)), (3, .int (nI 1))]) rfl ?_
  refine cg_iload_n C (i := 1) rfl 1 rfl dX11_near_0 ?_
  exact cg_callsx C hne (z27_X11_checkField l hlt S dp x1 h1) cc_X11_152 rfl ⟨by decide, by decide⟩ ⟨by decide, by decide⟩ rfl (Nat.le_of_ble_eq_true rfl) dX11_near_1 ⟨by decide, by decide⟩ (fun u_ h_ => by
      have hu_ := h_
      exact hu_)
set_option maxHeartbeats 4000000 in
set_option maxRecDepth 100000 in
theorem z228_L_near (l : Launch) (hlt : l.stackTraces = false) (S : cS) (dp : Nat) (o1 o2 : Nat) (n1 : Nat) (x1 : Int32) (h1 : x1 < 0) (h2 : 1 ≤ n1) (h3 : n1 ≤ 2147483647) (h4 : o1 ∈ cL S) (h5 : cK S o1 = 11) : cMetW (cQi (fun r_ u_ => r_ = (nI 1) ∧ u_ = S)) l yL_near cL_near 6 (some .int) [(0, 12, 15, 28), (0, 12, 19, 13), (0, 12, 23, 15)] 8 1 6 126 [.ref o1, .int x1, .int (nI n1), .int (nI 1), .ref o2] S dp := by
  intro D Y tp sz
  refine cg_bodyW (by decide +kernel) (Nat.le_of_ble_eq_true rfl) ?_
  intro p e s m args below meth c C htab
  generalize va_A (cWd Y S) sz = A at C ⊢
  have C : cC p s m args meth c cL_near 6 (some .int) A D Y tp dp RL := C
  refine cg_lv (lv' := [(0, .ref o1), (1, .int x1), (2, .int (nI n1)), (3, .int (nI 1)), (4, .ref o2)]) rfl ?_
  refine cg_aload C 4 rfl dL_near_0 ?_
  refine cg_iconst C (x := nI 0) rfl dL_near_2 ?_
  refine cg_aload_n C (i := 0) rfl 0 rfl dL_near_3 ?_
  refine cg_iload_n C (i := 1) rfl 1 rfl dL_near_4 ?_
  refine cg_iload_n C (i := 2) rfl 2 rfl dL_near_5 ?_
  refine cg_iload_n C (i := 3) rfl 3 rfl dL_near_6 ?_
  refine cg_callx_catch C htab (z227_X11_near l hlt S dp o1 n1 x1 h1 (by omega) (by omega)) cc_L_125 h4 h5 (by decide) rfl rfl ⟨by decide, by decide⟩ ⟨by decide, by decide⟩ rfl (Nat.le_of_ble_eq_true rfl) dL_near_7 (tableOf []) ⟨0, 12, 15, 28⟩ (tableOf [(0, 12, 19, 13), (0, 12, 23, 15)]) rfl (fun z hz => nomatch hz) (by decide) (by decide) (name := "java/lang/IndexOutOfBoundsException") ce_L_28 (by decide) 15 rfl (fun x_7 u_7 h_7 => ?_)
  have hu_7 := h_7
  have hw_7 := hu_7.symm
  subst hw_7
  refine cg_astore (lv' := [(5, .ref x_7), (0, .ref o1), (1, .int x1), (2, .int (nI n1)), (3, .int (nI 1)), (4, .ref o2)]) C (Nat.le_of_ble_eq_true rfl) rfl dL_near_15 ?_
  refine cg_iconst C (x := nI 1) rfl dL_near_17 ?_
  exact cg_iret C ⟨rfl, rfl⟩ dL_near_18 (by decide) (by decide)
set_option maxHeartbeats 4000000 in
set_option maxRecDepth 100000 in
theorem z229_X11_near (l : Launch) (hlt : l.stackTraces = false) (S : cS) (dp : Nat) (o1 : Nat) (n1 : Nat) (x1 : Int32) (h1 : x1 < 0) (h2 : 1 ≤ n1) (h3 : n1 ≤ 20) : cMetX "java/lang/IndexOutOfBoundsException" (fun u_ => u_ = S) l yX11_near cX11_near 5 (some .int) 7 1 6 102 [.ref o1, .int x1, .int (nI n1), .int (nI 1)] S dp := by
  intro D Y tp sz
  refine cg_bodyX (by decide +kernel) (Nat.le_of_ble_eq_true rfl) ?_
  intro p e s m args below meth c C hne
  generalize va_A (cWd Y S) sz = A at C ⊢
  have C : cC p s m args meth c cX11_near 5 (some .int) A D Y tp dp RX11 := C
  refine cg_lv (lv' := [(0, .ref o1), (1, .int x1), (2, .int (nI n1)), (3, .int (nI 1))]) rfl ?_
  refine cg_iload_n C (i := 1) rfl 1 rfl dX11_near_0 ?_
  exact cg_callsx C hne (z27_X11_checkField l hlt S dp x1 h1) cc_X11_152 rfl ⟨by decide, by decide⟩ ⟨by decide, by decide⟩ rfl (Nat.le_of_ble_eq_true rfl) dX11_near_1 ⟨by decide, by decide⟩ (fun u_ h_ => by
      have hu_ := h_
      exact hu_)
set_option maxHeartbeats 4000000 in
set_option maxRecDepth 100000 in
theorem z230_L_near (l : Launch) (hlt : l.stackTraces = false) (S : cS) (dp : Nat) (o1 o2 : Nat) (n1 : Nat) (x1 : Int32) (h1 : x1 < 0) (h2 : 1 ≤ n1) (h3 : n1 ≤ 20) (h4 : o1 ∈ cL S) (h5 : cK S o1 = 11) : cMetW (cQi (fun r_ u_ => r_ = (nI 1) ∧ u_ = S)) l yL_near cL_near 6 (some .int) [(0, 12, 15, 28), (0, 12, 19, 13), (0, 12, 23, 15)] 8 1 6 126 [.ref o1, .int x1, .int (nI n1), .int (nI 1), .ref o2] S dp := by
  intro D Y tp sz
  refine cg_bodyW (by decide +kernel) (Nat.le_of_ble_eq_true rfl) ?_
  intro p e s m args below meth c C htab
  generalize va_A (cWd Y S) sz = A at C ⊢
  have C : cC p s m args meth c cL_near 6 (some .int) A D Y tp dp RL := C
  refine cg_lv (lv' := [(0, .ref o1), (1, .int x1), (2, .int (nI n1)), (3, .int (nI 1)), (4, .ref o2)]) rfl ?_
  refine cg_aload C 4 rfl dL_near_0 ?_
  refine cg_iconst C (x := nI 0) rfl dL_near_2 ?_
  refine cg_aload_n C (i := 0) rfl 0 rfl dL_near_3 ?_
  refine cg_iload_n C (i := 1) rfl 1 rfl dL_near_4 ?_
  refine cg_iload_n C (i := 2) rfl 2 rfl dL_near_5 ?_
  refine cg_iload_n C (i := 3) rfl 3 rfl dL_near_6 ?_
  refine cg_callx_catch C htab (z229_X11_near l hlt S dp o1 n1 x1 h1 (by omega) (by omega)) cc_L_125 h4 h5 (by decide) rfl rfl ⟨by decide, by decide⟩ ⟨by decide, by decide⟩ rfl (Nat.le_of_ble_eq_true rfl) dL_near_7 (tableOf []) ⟨0, 12, 15, 28⟩ (tableOf [(0, 12, 19, 13), (0, 12, 23, 15)]) rfl (fun z hz => nomatch hz) (by decide) (by decide) (name := "java/lang/IndexOutOfBoundsException") ce_L_28 (by decide) 15 rfl (fun x_7 u_7 h_7 => ?_)
  have hu_7 := h_7
  have hw_7 := hu_7.symm
  subst hw_7
  refine cg_astore (lv' := [(5, .ref x_7), (0, .ref o1), (1, .int x1), (2, .int (nI n1)), (3, .int (nI 1)), (4, .ref o2)]) C (Nat.le_of_ble_eq_true rfl) rfl dL_near_15 ?_
  refine cg_iconst C (x := nI 1) rfl dL_near_17 ?_
  exact cg_iret C ⟨rfl, rfl⟩ dL_near_18 (by decide) (by decide)
set_option maxHeartbeats 4000000 in
set_option maxRecDepth 100000 in
theorem z231_X11_near (l : Launch) (hlt : l.stackTraces = false) (S : cS) (dp : Nat) (o1 : Nat) (n1 : Nat) (x1 : Int32) (h1 : x1 < 0) (h2 : 21 ≤ n1) (h3 : n1 ≤ 2147483647) : cMetX "java/lang/IndexOutOfBoundsException" (fun u_ => u_ = S) l yX11_near cX11_near 5 (some .int) 7 1 6 102 [.ref o1, .int x1, .int (nI n1), .int (nI 1)] S dp := by
  intro D Y tp sz
  refine cg_bodyX (by decide +kernel) (Nat.le_of_ble_eq_true rfl) ?_
  intro p e s m args below meth c C hne
  generalize va_A (cWd Y S) sz = A at C ⊢
  have C : cC p s m args meth c cX11_near 5 (some .int) A D Y tp dp RX11 := C
  refine cg_lv (lv' := [(0, .ref o1), (1, .int x1), (2, .int (nI n1)), (3, .int (nI 1))]) rfl ?_
  refine cg_iload_n C (i := 1) rfl 1 rfl dX11_near_0 ?_
  exact cg_callsx C hne (z27_X11_checkField l hlt S dp x1 h1) cc_X11_152 rfl ⟨by decide, by decide⟩ ⟨by decide, by decide⟩ rfl (Nat.le_of_ble_eq_true rfl) dX11_near_1 ⟨by decide, by decide⟩ (fun u_ h_ => by
      have hu_ := h_
      exact hu_)
set_option maxHeartbeats 4000000 in
set_option maxRecDepth 100000 in
theorem z232_L_near (l : Launch) (hlt : l.stackTraces = false) (S : cS) (dp : Nat) (o1 o2 : Nat) (n1 : Nat) (x1 : Int32) (h1 : x1 < 0) (h2 : 21 ≤ n1) (h3 : n1 ≤ 2147483647) (h4 : o1 ∈ cL S) (h5 : cK S o1 = 11) : cMetW (cQi (fun r_ u_ => r_ = (nI 1) ∧ u_ = S)) l yL_near cL_near 6 (some .int) [(0, 12, 15, 28), (0, 12, 19, 13), (0, 12, 23, 15)] 8 1 6 126 [.ref o1, .int x1, .int (nI n1), .int (nI 1), .ref o2] S dp := by
  intro D Y tp sz
  refine cg_bodyW (by decide +kernel) (Nat.le_of_ble_eq_true rfl) ?_
  intro p e s m args below meth c C htab
  generalize va_A (cWd Y S) sz = A at C ⊢
  have C : cC p s m args meth c cL_near 6 (some .int) A D Y tp dp RL := C
  refine cg_lv (lv' := [(0, .ref o1), (1, .int x1), (2, .int (nI n1)), (3, .int (nI 1)), (4, .ref o2)]) rfl ?_
  refine cg_aload C 4 rfl dL_near_0 ?_
  refine cg_iconst C (x := nI 0) rfl dL_near_2 ?_
  refine cg_aload_n C (i := 0) rfl 0 rfl dL_near_3 ?_
  refine cg_iload_n C (i := 1) rfl 1 rfl dL_near_4 ?_
  refine cg_iload_n C (i := 2) rfl 2 rfl dL_near_5 ?_
  refine cg_iload_n C (i := 3) rfl 3 rfl dL_near_6 ?_
  refine cg_callx_catch C htab (z231_X11_near l hlt S dp o1 n1 x1 h1 (by omega) (by omega)) cc_L_125 h4 h5 (by decide) rfl rfl ⟨by decide, by decide⟩ ⟨by decide, by decide⟩ rfl (Nat.le_of_ble_eq_true rfl) dL_near_7 (tableOf []) ⟨0, 12, 15, 28⟩ (tableOf [(0, 12, 19, 13), (0, 12, 23, 15)]) rfl (fun z hz => nomatch hz) (by decide) (by decide) (name := "java/lang/IndexOutOfBoundsException") ce_L_28 (by decide) 15 rfl (fun x_7 u_7 h_7 => ?_)
  have hu_7 := h_7
  have hw_7 := hu_7.symm
  subst hw_7
  refine cg_astore (lv' := [(5, .ref x_7), (0, .ref o1), (1, .int x1), (2, .int (nI n1)), (3, .int (nI 1)), (4, .ref o2)]) C (Nat.le_of_ble_eq_true rfl) rfl dL_near_15 ?_
  refine cg_iconst C (x := nI 1) rfl dL_near_17 ?_
  exact cg_iret C ⟨rfl, rfl⟩ dL_near_18 (by decide) (by decide)
set_option maxHeartbeats 4000000 in
set_option maxRecDepth 100000 in
theorem z233_X11_near (l : Launch) (hlt : l.stackTraces = false) (S : cS) (dp : Nat) (o1 : Nat) (n1 : Nat) (x1 : Int32) (h1 : n1 ≤ 1) (h2 : x1 < 0) : cMetX "java/lang/IllegalArgumentException" (fun u_ => u_ = S) l yX11_near cX11_near 5 (some .int) 6 1 6 82 [.ref o1, .int (nI n1), .int x1, .int (nI 1)] S dp := by
  intro D Y tp sz
  refine cg_bodyX (by decide +kernel) (Nat.le_of_ble_eq_true rfl) ?_
  intro p e s m args below meth c C hne
  generalize va_A (cWd Y S) sz = A at C ⊢
  have C : cC p s m args meth c cX11_near 5 (some .int) A D Y tp dp RX11 := C
  refine cg_lv (lv' := [(0, .ref o1), (1, .int (nI n1)), (2, .int x1), (3, .int (nI 1))]) rfl ?_
  refine cg_iload_n C (i := 1) rfl 1 rfl dX11_near_0 ?_
  refine cg_callsv C (z30_X11_checkField l hlt S dp n1 (by omega)) cc_X11_152 rfl ⟨by decide, by decide⟩ ⟨by decide, by decide⟩ rfl (Nat.le_of_ble_eq_true rfl) dX11_near_1 (fun u_1 h_1 => ?_)
  have hu_1 := h_1
  have hw_1 := hu_1.symm
  subst hw_1
  refine cg_iload_n C (i := 2) rfl 2 rfl dX11_near_4 ?_
  refine cg_iconst C (x := nI 1) rfl dX11_near_5 ?_
  refine cg_icmp_lt C 15 (by decide) dX11_near_6 (fun c_6 => ?_) (fun c_ => absurd (cneg_lt h2 (by omega)) c_)
  exact cg_throw1W C hlt hne "the distance is out of range" ce_X11_100 cei_1 (by decide) dX11_near_15 dX11_near_18 dX11_near_19 dX11_near_22 dX11_near_25 (by decide) (by decide) ⟨by decide, by decide⟩ ⟨by decide, by decide⟩ rfl
set_option maxHeartbeats 4000000 in
set_option maxRecDepth 100000 in
theorem z234_L_near (l : Launch) (hlt : l.stackTraces = false) (S : cS) (dp : Nat) (o1 o2 : Nat) (n1 : Nat) (x1 : Int32) (h1 : n1 ≤ 1) (h2 : x1 < 0) (h3 : o1 ∈ cL S) (h4 : cK S o1 = 11) : cMetW (cQi (fun r_ u_ => r_ = (nI 2) ∧ u_ = S)) l yL_near cL_near 6 (some .int) [(0, 12, 15, 28), (0, 12, 19, 13), (0, 12, 23, 15)] 7 1 6 106 [.ref o1, .int (nI n1), .int x1, .int (nI 1), .ref o2] S dp := by
  intro D Y tp sz
  refine cg_bodyW (by decide +kernel) (Nat.le_of_ble_eq_true rfl) ?_
  intro p e s m args below meth c C htab
  generalize va_A (cWd Y S) sz = A at C ⊢
  have C : cC p s m args meth c cL_near 6 (some .int) A D Y tp dp RL := C
  refine cg_lv (lv' := [(0, .ref o1), (1, .int (nI n1)), (2, .int x1), (3, .int (nI 1)), (4, .ref o2)]) rfl ?_
  refine cg_aload C 4 rfl dL_near_0 ?_
  refine cg_iconst C (x := nI 0) rfl dL_near_2 ?_
  refine cg_aload_n C (i := 0) rfl 0 rfl dL_near_3 ?_
  refine cg_iload_n C (i := 1) rfl 1 rfl dL_near_4 ?_
  refine cg_iload_n C (i := 2) rfl 2 rfl dL_near_5 ?_
  refine cg_iload_n C (i := 3) rfl 3 rfl dL_near_6 ?_
  refine cg_callx_catch C htab (z233_X11_near l hlt S dp o1 n1 x1 (by omega) h2) cc_L_125 h3 h4 (by decide) rfl rfl ⟨by decide, by decide⟩ ⟨by decide, by decide⟩ rfl (Nat.le_of_ble_eq_true rfl) dL_near_7 (tableOf [(0, 12, 15, 28)]) ⟨0, 12, 19, 13⟩ (tableOf [(0, 12, 23, 15)]) rfl (fun z hz => by
        rcases List.mem_cons.mp hz with rfl | hz
        · exact ⟨by decide, "java/lang/IndexOutOfBoundsException", ce_L_28, by decide⟩
        exact nomatch hz) (by decide) (by decide) (name := "java/lang/IllegalArgumentException") ce_L_13 (by decide) 19 rfl (fun x_7 u_7 h_7 => ?_)
  have hu_7 := h_7
  have hw_7 := hu_7.symm
  subst hw_7
  refine cg_astore (lv' := [(5, .ref x_7), (0, .ref o1), (1, .int (nI n1)), (2, .int x1), (3, .int (nI 1)), (4, .ref o2)]) C (Nat.le_of_ble_eq_true rfl) rfl dL_near_19 ?_
  refine cg_iconst C (x := nI 2) rfl dL_near_21 ?_
  exact cg_iret C ⟨rfl, rfl⟩ dL_near_22 (by decide) (by decide)
set_option maxHeartbeats 4000000 in
set_option maxRecDepth 100000 in
theorem z235_X11_near (l : Launch) (hlt : l.stackTraces = false) (S : cS) (dp : Nat) (o1 : Nat) (n1 : Nat) (h1 : n1 ≤ 1) : cMetX "java/lang/IllegalArgumentException" (fun u_ => u_ = S) l yX11_near cX11_near 5 (some .int) 6 1 6 82 [.ref o1, .int (nI n1), .int (nI 0), .int (nI 1)] S dp := by
  intro D Y tp sz
  refine cg_bodyX (by decide +kernel) (Nat.le_of_ble_eq_true rfl) ?_
  intro p e s m args below meth c C hne
  generalize va_A (cWd Y S) sz = A at C ⊢
  have C : cC p s m args meth c cX11_near 5 (some .int) A D Y tp dp RX11 := C
  refine cg_lv (lv' := [(0, .ref o1), (1, .int (nI n1)), (2, .int (nI 0)), (3, .int (nI 1))]) rfl ?_
  refine cg_iload_n C (i := 1) rfl 1 rfl dX11_near_0 ?_
  refine cg_callsv C (z30_X11_checkField l hlt S dp n1 (by omega)) cc_X11_152 rfl ⟨by decide, by decide⟩ ⟨by decide, by decide⟩ rfl (Nat.le_of_ble_eq_true rfl) dX11_near_1 (fun u_1 h_1 => ?_)
  have hu_1 := h_1
  have hw_1 := hu_1.symm
  subst hw_1
  refine cg_iload_n C (i := 2) rfl 2 rfl dX11_near_4 ?_
  refine cg_iconst C (x := nI 1) rfl dX11_near_5 ?_
  refine cg_icmp_ltN C (by omega) (by omega) 15 (by decide) dX11_near_6 (fun c_6 => ?_) (fun c_ => absurd c_ (by omega))
  exact cg_throw1W C hlt hne "the distance is out of range" ce_X11_100 cei_1 (by decide) dX11_near_15 dX11_near_18 dX11_near_19 dX11_near_22 dX11_near_25 (by decide) (by decide) ⟨by decide, by decide⟩ ⟨by decide, by decide⟩ rfl
set_option maxHeartbeats 4000000 in
set_option maxRecDepth 100000 in
theorem z236_L_near (l : Launch) (hlt : l.stackTraces = false) (S : cS) (dp : Nat) (o1 o2 : Nat) (n1 : Nat) (h1 : n1 ≤ 1) (h2 : o1 ∈ cL S) (h3 : cK S o1 = 11) : cMetW (cQi (fun r_ u_ => r_ = (nI 2) ∧ u_ = S)) l yL_near cL_near 6 (some .int) [(0, 12, 15, 28), (0, 12, 19, 13), (0, 12, 23, 15)] 7 1 6 106 [.ref o1, .int (nI n1), .int (nI 0), .int (nI 1), .ref o2] S dp := by
  intro D Y tp sz
  refine cg_bodyW (by decide +kernel) (Nat.le_of_ble_eq_true rfl) ?_
  intro p e s m args below meth c C htab
  generalize va_A (cWd Y S) sz = A at C ⊢
  have C : cC p s m args meth c cL_near 6 (some .int) A D Y tp dp RL := C
  refine cg_lv (lv' := [(0, .ref o1), (1, .int (nI n1)), (2, .int (nI 0)), (3, .int (nI 1)), (4, .ref o2)]) rfl ?_
  refine cg_aload C 4 rfl dL_near_0 ?_
  refine cg_iconst C (x := nI 0) rfl dL_near_2 ?_
  refine cg_aload_n C (i := 0) rfl 0 rfl dL_near_3 ?_
  refine cg_iload_n C (i := 1) rfl 1 rfl dL_near_4 ?_
  refine cg_iload_n C (i := 2) rfl 2 rfl dL_near_5 ?_
  refine cg_iload_n C (i := 3) rfl 3 rfl dL_near_6 ?_
  refine cg_callx_catch C htab (z235_X11_near l hlt S dp o1 n1 (by omega)) cc_L_125 h2 h3 (by decide) rfl rfl ⟨by decide, by decide⟩ ⟨by decide, by decide⟩ rfl (Nat.le_of_ble_eq_true rfl) dL_near_7 (tableOf [(0, 12, 15, 28)]) ⟨0, 12, 19, 13⟩ (tableOf [(0, 12, 23, 15)]) rfl (fun z hz => by
        rcases List.mem_cons.mp hz with rfl | hz
        · exact ⟨by decide, "java/lang/IndexOutOfBoundsException", ce_L_28, by decide⟩
        exact nomatch hz) (by decide) (by decide) (name := "java/lang/IllegalArgumentException") ce_L_13 (by decide) 19 rfl (fun x_7 u_7 h_7 => ?_)
  have hu_7 := h_7
  have hw_7 := hu_7.symm
  subst hw_7
  refine cg_astore (lv' := [(5, .ref x_7), (0, .ref o1), (1, .int (nI n1)), (2, .int (nI 0)), (3, .int (nI 1)), (4, .ref o2)]) C (Nat.le_of_ble_eq_true rfl) rfl dL_near_19 ?_
  refine cg_iconst C (x := nI 2) rfl dL_near_21 ?_
  exact cg_iret C ⟨rfl, rfl⟩ dL_near_22 (by decide) (by decide)
set_option maxHeartbeats 4000000 in
set_option maxRecDepth 100000 in
theorem z237_X11_near (l : Launch) (hlt : l.stackTraces = false) (S : cS) (dp : Nat) (o1 o2 o3 : Nat) (n1 n2 : Nat) (h1 : n1 ≤ 1) (h2 : 1 ≤ n2) (h3 : n2 ≤ 20) (h4 : cr S 352 o1 = (some o2)) (h5 : cK S o1 = 11) (h6 : o1 ∈ cL S) (h7 : cr S 96 o2 = (some o3)) (h8 : cK S o2 = 3) (h9 : o2 ∈ cL S) (h10 : ci S 289 o3 = (nI 0)) (h11 : cK S o3 = 9) (h12 : o3 ∈ cL S) : cMetX "java/lang/IllegalStateException" (fun u_ => ∃ (S1 : cS), S1 = cSi S 98 o2 (nI 0) ∧ ∃ (S2 : cS), S2 = cSi S1 292 o3 (nI 0) ∧ u_ = S2) l yX11_near cX11_near 5 (some .int) 7 1 6 103 [.ref o1, .int (nI n1), .int (nI n2), .int (nI 1)] S dp := by
  intro D Y tp sz
  refine cg_bodyX (by decide +kernel) (Nat.le_of_ble_eq_true rfl) ?_
  intro p e s m args below meth c C hne
  generalize va_A (cWd Y S) sz = A at C ⊢
  have C : cC p s m args meth c cX11_near 5 (some .int) A D Y tp dp RX11 := C
  refine cg_lv (lv' := [(0, .ref o1), (1, .int (nI n1)), (2, .int (nI n2)), (3, .int (nI 1))]) rfl ?_
  refine cg_iload_n C (i := 1) rfl 1 rfl dX11_near_0 ?_
  refine cg_callsv C (z30_X11_checkField l hlt S dp n1 (by omega)) cc_X11_152 rfl ⟨by decide, by decide⟩ ⟨by decide, by decide⟩ rfl (Nat.le_of_ble_eq_true rfl) dX11_near_1 (fun u_1 h_1 => ?_)
  have hu_1 := h_1
  have hw_1 := hu_1.symm
  subst hw_1
  refine cg_iload_n C (i := 2) rfl 2 rfl dX11_near_4 ?_
  refine cg_iconst C (x := nI 1) rfl dX11_near_5 ?_
  refine cg_icmp_ltN C (by omega) (by omega) 15 (by decide) dX11_near_6 (fun c_ => absurd c_ (by omega)) (fun c_6 => ?_)
  refine cg_iload_n C (i := 2) rfl 2 rfl dX11_near_9 ?_
  refine cg_bipush C (x := nI 20) rfl dX11_near_10 ?_
  refine cg_icmp_leN C (by omega) (by omega) 26 (by decide) dX11_near_12 (fun c_12 => ?_) (fun c_ => absurd c_ (by omega))
  refine cg_aload_n C (i := 0) rfl 0 rfl dX11_near_26 ?_
  refine cg_aload_n C (i := 0) rfl 0 rfl dX11_near_27 ?_
  refine cg_get C (k := 11) (j := 0) (.ref o2) h6 h5 (by decide) rfl (by decide) rfl (show cV _ 11 0 o1 = _ from congrArg va_rf h4) cWs_wsX110 cl_X11_10 rfl dX11_near_28 ?_
  refine cg_calli C (z187_X3_readPadTokens l hlt S dp o2 o3 h7 h8 h9 h10 h11 h12) cc_X11_324 h9 h8 (by decide) rfl rfl ⟨by decide, by decide⟩ ⟨by decide, by decide⟩ rfl (Nat.le_of_ble_eq_true rfl) dX11_near_31 (fun r_31 u_31 h_31 => ?_)
  obtain ⟨S1, hS1, S2, hS2, hr_31, hu_31⟩ := h_31
  have hw_31 := hu_31.symm
  subst hw_31
  have hx_31 := hr_31.symm
  subst hx_31
  refine cg_iconst C (x := nI 2) rfl dX11_near_34 ?_
  refine cg_icmp_neN C (by omega) (by omega) 42 (by decide) dX11_near_35 (fun c_35 => ?_) (fun c_ => absurd c_ (by omega))
  refine cg_iconst C (x := nI 0) rfl dX11_near_42 ?_
  exact cg_callx C hne (z188_X11_checkLeaf l hlt S2 dp o1) cc_X11_327 (hm_Si hS2 (hm_Si hS1 h6)) (hk_Si hS2 (hk_Si hS1 h5)) (by decide) rfl rfl ⟨by decide, by decide⟩ ⟨by decide, by decide⟩ rfl (Nat.le_of_ble_eq_true rfl) dX11_near_43 ⟨by decide, by decide⟩ (fun u_ h_ => by
      have hu_ := h_
      exact ⟨S1, hS1, S2, hS2, hu_⟩)
set_option maxHeartbeats 4000000 in
set_option maxRecDepth 100000 in
theorem z238_L_near (l : Launch) (hlt : l.stackTraces = false) (S : cS) (dp : Nat) (o1 o2 o3 o4 : Nat) (n1 n2 : Nat) (h1 : n1 ≤ 1) (h2 : 1 ≤ n2) (h3 : n2 ≤ 20) (h4 : cr S 352 o1 = (some o3)) (h5 : cK S o1 = 11) (h6 : o1 ∈ cL S) (h7 : cr S 96 o3 = (some o4)) (h8 : cK S o3 = 3) (h9 : o3 ∈ cL S) (h10 : ci S 289 o4 = (nI 0)) (h11 : cK S o4 = 9) (h12 : o4 ∈ cL S) : cMetW (cQi (fun r_ u_ => ∃ (S1 : cS), S1 = cSi S 98 o3 (nI 0) ∧ ∃ (S2 : cS), S2 = cSi S1 292 o4 (nI 0) ∧ r_ = (nI 3) ∧ u_ = S2)) l yL_near cL_near 6 (some .int) [(0, 12, 15, 28), (0, 12, 19, 13), (0, 12, 23, 15)] 8 1 6 127 [.ref o1, .int (nI n1), .int (nI n2), .int (nI 1), .ref o2] S dp := by
  intro D Y tp sz
  refine cg_bodyW (by decide +kernel) (Nat.le_of_ble_eq_true rfl) ?_
  intro p e s m args below meth c C htab
  generalize va_A (cWd Y S) sz = A at C ⊢
  have C : cC p s m args meth c cL_near 6 (some .int) A D Y tp dp RL := C
  refine cg_lv (lv' := [(0, .ref o1), (1, .int (nI n1)), (2, .int (nI n2)), (3, .int (nI 1)), (4, .ref o2)]) rfl ?_
  refine cg_aload C 4 rfl dL_near_0 ?_
  refine cg_iconst C (x := nI 0) rfl dL_near_2 ?_
  refine cg_aload_n C (i := 0) rfl 0 rfl dL_near_3 ?_
  refine cg_iload_n C (i := 1) rfl 1 rfl dL_near_4 ?_
  refine cg_iload_n C (i := 2) rfl 2 rfl dL_near_5 ?_
  refine cg_iload_n C (i := 3) rfl 3 rfl dL_near_6 ?_
  refine cg_callx_catch C htab (z237_X11_near l hlt S dp o1 o3 o4 n1 n2 (by omega) (by omega) (by omega) h4 h5 h6 h7 h8 h9 h10 h11 h12) cc_L_125 h6 h5 (by decide) rfl rfl ⟨by decide, by decide⟩ ⟨by decide, by decide⟩ rfl (Nat.le_of_ble_eq_true rfl) dL_near_7 (tableOf [(0, 12, 15, 28), (0, 12, 19, 13)]) ⟨0, 12, 23, 15⟩ (tableOf []) rfl (fun z hz => by
        rcases List.mem_cons.mp hz with rfl | hz
        · exact ⟨by decide, "java/lang/IndexOutOfBoundsException", ce_L_28, by decide⟩
        rcases List.mem_cons.mp hz with rfl | hz
        · exact ⟨by decide, "java/lang/IllegalArgumentException", ce_L_13, by decide⟩
        exact nomatch hz) (by decide) (by decide) (name := "java/lang/IllegalStateException") ce_L_15 (by decide) 23 rfl (fun x_7 u_7 h_7 => ?_)
  obtain ⟨S1, hS1, S2, hS2, hu_7⟩ := h_7
  have hw_7 := hu_7.symm
  subst hw_7
  refine cg_astore (lv' := [(5, .ref x_7), (0, .ref o1), (1, .int (nI n1)), (2, .int (nI n2)), (3, .int (nI 1)), (4, .ref o2)]) C (Nat.le_of_ble_eq_true rfl) rfl dL_near_23 ?_
  refine cg_iconst C (x := nI 3) rfl dL_near_25 ?_
  exact cg_iret C ⟨S1, hS1, S2, hS2, rfl, rfl⟩ dL_near_26 (by decide) (by decide)
set_option maxHeartbeats 4000000 in
set_option maxRecDepth 100000 in
theorem z239_X11_near (l : Launch) (hlt : l.stackTraces = false) (S : cS) (dp : Nat) (o1 : Nat) (n1 n2 : Nat) (h1 : n1 ≤ 1) (h2 : 21 ≤ n2) (h3 : n2 ≤ 2147483647) : cMetX "java/lang/IllegalArgumentException" (fun u_ => u_ = S) l yX11_near cX11_near 5 (some .int) 6 1 6 82 [.ref o1, .int (nI n1), .int (nI n2), .int (nI 1)] S dp := by
  intro D Y tp sz
  refine cg_bodyX (by decide +kernel) (Nat.le_of_ble_eq_true rfl) ?_
  intro p e s m args below meth c C hne
  generalize va_A (cWd Y S) sz = A at C ⊢
  have C : cC p s m args meth c cX11_near 5 (some .int) A D Y tp dp RX11 := C
  refine cg_lv (lv' := [(0, .ref o1), (1, .int (nI n1)), (2, .int (nI n2)), (3, .int (nI 1))]) rfl ?_
  refine cg_iload_n C (i := 1) rfl 1 rfl dX11_near_0 ?_
  refine cg_callsv C (z30_X11_checkField l hlt S dp n1 (by omega)) cc_X11_152 rfl ⟨by decide, by decide⟩ ⟨by decide, by decide⟩ rfl (Nat.le_of_ble_eq_true rfl) dX11_near_1 (fun u_1 h_1 => ?_)
  have hu_1 := h_1
  have hw_1 := hu_1.symm
  subst hw_1
  refine cg_iload_n C (i := 2) rfl 2 rfl dX11_near_4 ?_
  refine cg_iconst C (x := nI 1) rfl dX11_near_5 ?_
  refine cg_icmp_ltN C (by omega) (by omega) 15 (by decide) dX11_near_6 (fun c_ => absurd c_ (by omega)) (fun c_6 => ?_)
  refine cg_iload_n C (i := 2) rfl 2 rfl dX11_near_9 ?_
  refine cg_bipush C (x := nI 20) rfl dX11_near_10 ?_
  refine cg_icmp_leN C (by omega) (by omega) 26 (by decide) dX11_near_12 (fun c_ => absurd c_ (by omega)) (fun c_12 => ?_)
  exact cg_throw1W C hlt hne "the distance is out of range" ce_X11_100 cei_1 (by decide) dX11_near_15 dX11_near_18 dX11_near_19 dX11_near_22 dX11_near_25 (by decide) (by decide) ⟨by decide, by decide⟩ ⟨by decide, by decide⟩ rfl
set_option maxHeartbeats 4000000 in
set_option maxRecDepth 100000 in
theorem z240_L_near (l : Launch) (hlt : l.stackTraces = false) (S : cS) (dp : Nat) (o1 o2 : Nat) (n1 n2 : Nat) (h1 : n1 ≤ 1) (h2 : 21 ≤ n2) (h3 : n2 ≤ 2147483647) (h4 : o1 ∈ cL S) (h5 : cK S o1 = 11) : cMetW (cQi (fun r_ u_ => r_ = (nI 2) ∧ u_ = S)) l yL_near cL_near 6 (some .int) [(0, 12, 15, 28), (0, 12, 19, 13), (0, 12, 23, 15)] 7 1 6 106 [.ref o1, .int (nI n1), .int (nI n2), .int (nI 1), .ref o2] S dp := by
  intro D Y tp sz
  refine cg_bodyW (by decide +kernel) (Nat.le_of_ble_eq_true rfl) ?_
  intro p e s m args below meth c C htab
  generalize va_A (cWd Y S) sz = A at C ⊢
  have C : cC p s m args meth c cL_near 6 (some .int) A D Y tp dp RL := C
  refine cg_lv (lv' := [(0, .ref o1), (1, .int (nI n1)), (2, .int (nI n2)), (3, .int (nI 1)), (4, .ref o2)]) rfl ?_
  refine cg_aload C 4 rfl dL_near_0 ?_
  refine cg_iconst C (x := nI 0) rfl dL_near_2 ?_
  refine cg_aload_n C (i := 0) rfl 0 rfl dL_near_3 ?_
  refine cg_iload_n C (i := 1) rfl 1 rfl dL_near_4 ?_
  refine cg_iload_n C (i := 2) rfl 2 rfl dL_near_5 ?_
  refine cg_iload_n C (i := 3) rfl 3 rfl dL_near_6 ?_
  refine cg_callx_catch C htab (z239_X11_near l hlt S dp o1 n1 n2 (by omega) (by omega) (by omega)) cc_L_125 h4 h5 (by decide) rfl rfl ⟨by decide, by decide⟩ ⟨by decide, by decide⟩ rfl (Nat.le_of_ble_eq_true rfl) dL_near_7 (tableOf [(0, 12, 15, 28)]) ⟨0, 12, 19, 13⟩ (tableOf [(0, 12, 23, 15)]) rfl (fun z hz => by
        rcases List.mem_cons.mp hz with rfl | hz
        · exact ⟨by decide, "java/lang/IndexOutOfBoundsException", ce_L_28, by decide⟩
        exact nomatch hz) (by decide) (by decide) (name := "java/lang/IllegalArgumentException") ce_L_13 (by decide) 19 rfl (fun x_7 u_7 h_7 => ?_)
  have hu_7 := h_7
  have hw_7 := hu_7.symm
  subst hw_7
  refine cg_astore (lv' := [(5, .ref x_7), (0, .ref o1), (1, .int (nI n1)), (2, .int (nI n2)), (3, .int (nI 1)), (4, .ref o2)]) C (Nat.le_of_ble_eq_true rfl) rfl dL_near_19 ?_
  refine cg_iconst C (x := nI 2) rfl dL_near_21 ?_
  exact cg_iret C ⟨rfl, rfl⟩ dL_near_22 (by decide) (by decide)
set_option maxHeartbeats 4000000 in
set_option maxRecDepth 100000 in
theorem z241_X11_near (l : Launch) (hlt : l.stackTraces = false) (S : cS) (dp : Nat) (o1 : Nat) (n1 : Nat) (x1 : Int32) (h1 : 2 ≤ n1) (h2 : n1 ≤ 2147483647) : cMetX "java/lang/IndexOutOfBoundsException" (fun u_ => u_ = S) l yX11_near cX11_near 5 (some .int) 7 1 6 102 [.ref o1, .int (nI n1), .int x1, .int (nI 1)] S dp := by
  intro D Y tp sz
  refine cg_bodyX (by decide +kernel) (Nat.le_of_ble_eq_true rfl) ?_
  intro p e s m args below meth c C hne
  generalize va_A (cWd Y S) sz = A at C ⊢
  have C : cC p s m args meth c cX11_near 5 (some .int) A D Y tp dp RX11 := C
  refine cg_lv (lv' := [(0, .ref o1), (1, .int (nI n1)), (2, .int x1), (3, .int (nI 1))]) rfl ?_
  refine cg_iload_n C (i := 1) rfl 1 rfl dX11_near_0 ?_
  exact cg_callsx C hne (z40_X11_checkField l hlt S dp n1 (by omega) (by omega)) cc_X11_152 rfl ⟨by decide, by decide⟩ ⟨by decide, by decide⟩ rfl (Nat.le_of_ble_eq_true rfl) dX11_near_1 ⟨by decide, by decide⟩ (fun u_ h_ => by
      have hu_ := h_
      exact hu_)
set_option maxHeartbeats 4000000 in
set_option maxRecDepth 100000 in
theorem z242_L_near (l : Launch) (hlt : l.stackTraces = false) (S : cS) (dp : Nat) (o1 o2 : Nat) (n1 : Nat) (x1 : Int32) (h1 : 2 ≤ n1) (h2 : n1 ≤ 2147483647) (h3 : o1 ∈ cL S) (h4 : cK S o1 = 11) : cMetW (cQi (fun r_ u_ => r_ = (nI 1) ∧ u_ = S)) l yL_near cL_near 6 (some .int) [(0, 12, 15, 28), (0, 12, 19, 13), (0, 12, 23, 15)] 8 1 6 126 [.ref o1, .int (nI n1), .int x1, .int (nI 1), .ref o2] S dp := by
  intro D Y tp sz
  refine cg_bodyW (by decide +kernel) (Nat.le_of_ble_eq_true rfl) ?_
  intro p e s m args below meth c C htab
  generalize va_A (cWd Y S) sz = A at C ⊢
  have C : cC p s m args meth c cL_near 6 (some .int) A D Y tp dp RL := C
  refine cg_lv (lv' := [(0, .ref o1), (1, .int (nI n1)), (2, .int x1), (3, .int (nI 1)), (4, .ref o2)]) rfl ?_
  refine cg_aload C 4 rfl dL_near_0 ?_
  refine cg_iconst C (x := nI 0) rfl dL_near_2 ?_
  refine cg_aload_n C (i := 0) rfl 0 rfl dL_near_3 ?_
  refine cg_iload_n C (i := 1) rfl 1 rfl dL_near_4 ?_
  refine cg_iload_n C (i := 2) rfl 2 rfl dL_near_5 ?_
  refine cg_iload_n C (i := 3) rfl 3 rfl dL_near_6 ?_
  refine cg_callx_catch C htab (z241_X11_near l hlt S dp o1 n1 x1 (by omega) (by omega)) cc_L_125 h3 h4 (by decide) rfl rfl ⟨by decide, by decide⟩ ⟨by decide, by decide⟩ rfl (Nat.le_of_ble_eq_true rfl) dL_near_7 (tableOf []) ⟨0, 12, 15, 28⟩ (tableOf [(0, 12, 19, 13), (0, 12, 23, 15)]) rfl (fun z hz => nomatch hz) (by decide) (by decide) (name := "java/lang/IndexOutOfBoundsException") ce_L_28 (by decide) 15 rfl (fun x_7 u_7 h_7 => ?_)
  have hu_7 := h_7
  have hw_7 := hu_7.symm
  subst hw_7
  refine cg_astore (lv' := [(5, .ref x_7), (0, .ref o1), (1, .int (nI n1)), (2, .int x1), (3, .int (nI 1)), (4, .ref o2)]) C (Nat.le_of_ble_eq_true rfl) rfl dL_near_15 ?_
  refine cg_iconst C (x := nI 1) rfl dL_near_17 ?_
  exact cg_iret C ⟨rfl, rfl⟩ dL_near_18 (by decide) (by decide)
set_option maxHeartbeats 4000000 in
set_option maxRecDepth 100000 in
theorem z243_X11_near (l : Launch) (hlt : l.stackTraces = false) (S : cS) (dp : Nat) (o1 : Nat) (n1 : Nat) (x1 : Int32) (h1 : 2 ≤ n1) (h2 : n1 ≤ 2147483647) (h3 : x1 < 0) : cMetX "java/lang/IndexOutOfBoundsException" (fun u_ => u_ = S) l yX11_near cX11_near 5 (some .int) 7 1 6 102 [.ref o1, .int (nI n1), .int x1, .int (nI 1)] S dp := by
  intro D Y tp sz
  refine cg_bodyX (by decide +kernel) (Nat.le_of_ble_eq_true rfl) ?_
  intro p e s m args below meth c C hne
  generalize va_A (cWd Y S) sz = A at C ⊢
  have C : cC p s m args meth c cX11_near 5 (some .int) A D Y tp dp RX11 := C
  refine cg_lv (lv' := [(0, .ref o1), (1, .int (nI n1)), (2, .int x1), (3, .int (nI 1))]) rfl ?_
  refine cg_iload_n C (i := 1) rfl 1 rfl dX11_near_0 ?_
  exact cg_callsx C hne (z40_X11_checkField l hlt S dp n1 (by omega) (by omega)) cc_X11_152 rfl ⟨by decide, by decide⟩ ⟨by decide, by decide⟩ rfl (Nat.le_of_ble_eq_true rfl) dX11_near_1 ⟨by decide, by decide⟩ (fun u_ h_ => by
      have hu_ := h_
      exact hu_)
set_option maxHeartbeats 4000000 in
set_option maxRecDepth 100000 in
theorem z244_L_near (l : Launch) (hlt : l.stackTraces = false) (S : cS) (dp : Nat) (o1 o2 : Nat) (n1 : Nat) (x1 : Int32) (h1 : 2 ≤ n1) (h2 : n1 ≤ 2147483647) (h3 : x1 < 0) (h4 : o1 ∈ cL S) (h5 : cK S o1 = 11) : cMetW (cQi (fun r_ u_ => r_ = (nI 1) ∧ u_ = S)) l yL_near cL_near 6 (some .int) [(0, 12, 15, 28), (0, 12, 19, 13), (0, 12, 23, 15)] 8 1 6 126 [.ref o1, .int (nI n1), .int x1, .int (nI 1), .ref o2] S dp := by
  intro D Y tp sz
  refine cg_bodyW (by decide +kernel) (Nat.le_of_ble_eq_true rfl) ?_
  intro p e s m args below meth c C htab
  generalize va_A (cWd Y S) sz = A at C ⊢
  have C : cC p s m args meth c cL_near 6 (some .int) A D Y tp dp RL := C
  refine cg_lv (lv' := [(0, .ref o1), (1, .int (nI n1)), (2, .int x1), (3, .int (nI 1)), (4, .ref o2)]) rfl ?_
  refine cg_aload C 4 rfl dL_near_0 ?_
  refine cg_iconst C (x := nI 0) rfl dL_near_2 ?_
  refine cg_aload_n C (i := 0) rfl 0 rfl dL_near_3 ?_
  refine cg_iload_n C (i := 1) rfl 1 rfl dL_near_4 ?_
  refine cg_iload_n C (i := 2) rfl 2 rfl dL_near_5 ?_
  refine cg_iload_n C (i := 3) rfl 3 rfl dL_near_6 ?_
  refine cg_callx_catch C htab (z243_X11_near l hlt S dp o1 n1 x1 (by omega) (by omega) h3) cc_L_125 h4 h5 (by decide) rfl rfl ⟨by decide, by decide⟩ ⟨by decide, by decide⟩ rfl (Nat.le_of_ble_eq_true rfl) dL_near_7 (tableOf []) ⟨0, 12, 15, 28⟩ (tableOf [(0, 12, 19, 13), (0, 12, 23, 15)]) rfl (fun z hz => nomatch hz) (by decide) (by decide) (name := "java/lang/IndexOutOfBoundsException") ce_L_28 (by decide) 15 rfl (fun x_7 u_7 h_7 => ?_)
  have hu_7 := h_7
  have hw_7 := hu_7.symm
  subst hw_7
  refine cg_astore (lv' := [(5, .ref x_7), (0, .ref o1), (1, .int (nI n1)), (2, .int x1), (3, .int (nI 1)), (4, .ref o2)]) C (Nat.le_of_ble_eq_true rfl) rfl dL_near_15 ?_
  refine cg_iconst C (x := nI 1) rfl dL_near_17 ?_
  exact cg_iret C ⟨rfl, rfl⟩ dL_near_18 (by decide) (by decide)
set_option maxHeartbeats 4000000 in
set_option maxRecDepth 100000 in
theorem z245_X11_near (l : Launch) (hlt : l.stackTraces = false) (S : cS) (dp : Nat) (o1 : Nat) (n1 n2 : Nat) (h1 : 2 ≤ n1) (h2 : n1 ≤ 2147483647) (h3 : n2 ≤ 2147483647) : cMetX "java/lang/IndexOutOfBoundsException" (fun u_ => u_ = S) l yX11_near cX11_near 5 (some .int) 7 1 6 102 [.ref o1, .int (nI n1), .int (nI n2), .int (nI 1)] S dp := by
  intro D Y tp sz
  refine cg_bodyX (by decide +kernel) (Nat.le_of_ble_eq_true rfl) ?_
  intro p e s m args below meth c C hne
  generalize va_A (cWd Y S) sz = A at C ⊢
  have C : cC p s m args meth c cX11_near 5 (some .int) A D Y tp dp RX11 := C
  refine cg_lv (lv' := [(0, .ref o1), (1, .int (nI n1)), (2, .int (nI n2)), (3, .int (nI 1))]) rfl ?_
  refine cg_iload_n C (i := 1) rfl 1 rfl dX11_near_0 ?_
  exact cg_callsx C hne (z40_X11_checkField l hlt S dp n1 (by omega) (by omega)) cc_X11_152 rfl ⟨by decide, by decide⟩ ⟨by decide, by decide⟩ rfl (Nat.le_of_ble_eq_true rfl) dX11_near_1 ⟨by decide, by decide⟩ (fun u_ h_ => by
      have hu_ := h_
      exact hu_)
set_option maxHeartbeats 4000000 in
set_option maxRecDepth 100000 in
theorem z246_L_near (l : Launch) (hlt : l.stackTraces = false) (S : cS) (dp : Nat) (o1 o2 : Nat) (n1 n2 : Nat) (h1 : 2 ≤ n1) (h2 : n1 ≤ 2147483647) (h3 : n2 ≤ 2147483647) (h4 : o1 ∈ cL S) (h5 : cK S o1 = 11) : cMetW (cQi (fun r_ u_ => r_ = (nI 1) ∧ u_ = S)) l yL_near cL_near 6 (some .int) [(0, 12, 15, 28), (0, 12, 19, 13), (0, 12, 23, 15)] 8 1 6 126 [.ref o1, .int (nI n1), .int (nI n2), .int (nI 1), .ref o2] S dp := by
  intro D Y tp sz
  refine cg_bodyW (by decide +kernel) (Nat.le_of_ble_eq_true rfl) ?_
  intro p e s m args below meth c C htab
  generalize va_A (cWd Y S) sz = A at C ⊢
  have C : cC p s m args meth c cL_near 6 (some .int) A D Y tp dp RL := C
  refine cg_lv (lv' := [(0, .ref o1), (1, .int (nI n1)), (2, .int (nI n2)), (3, .int (nI 1)), (4, .ref o2)]) rfl ?_
  refine cg_aload C 4 rfl dL_near_0 ?_
  refine cg_iconst C (x := nI 0) rfl dL_near_2 ?_
  refine cg_aload_n C (i := 0) rfl 0 rfl dL_near_3 ?_
  refine cg_iload_n C (i := 1) rfl 1 rfl dL_near_4 ?_
  refine cg_iload_n C (i := 2) rfl 2 rfl dL_near_5 ?_
  refine cg_iload_n C (i := 3) rfl 3 rfl dL_near_6 ?_
  refine cg_callx_catch C htab (z245_X11_near l hlt S dp o1 n1 n2 (by omega) (by omega) (by omega)) cc_L_125 h4 h5 (by decide) rfl rfl ⟨by decide, by decide⟩ ⟨by decide, by decide⟩ rfl (Nat.le_of_ble_eq_true rfl) dL_near_7 (tableOf []) ⟨0, 12, 15, 28⟩ (tableOf [(0, 12, 19, 13), (0, 12, 23, 15)]) rfl (fun z hz => nomatch hz) (by decide) (by decide) (name := "java/lang/IndexOutOfBoundsException") ce_L_28 (by decide) 15 rfl (fun x_7 u_7 h_7 => ?_)
  have hu_7 := h_7
  have hw_7 := hu_7.symm
  subst hw_7
  refine cg_astore (lv' := [(5, .ref x_7), (0, .ref o1), (1, .int (nI n1)), (2, .int (nI n2)), (3, .int (nI 1)), (4, .ref o2)]) C (Nat.le_of_ble_eq_true rfl) rfl dL_near_15 ?_
  refine cg_iconst C (x := nI 1) rfl dL_near_17 ?_
  exact cg_iret C ⟨rfl, rfl⟩ dL_near_18 (by decide) (by decide)
set_option maxHeartbeats 4000000 in
set_option maxRecDepth 100000 in
theorem z247_X11_near (l : Launch) (hlt : l.stackTraces = false) (S : cS) (dp : Nat) (o1 : Nat) (n1 : Nat) (h1 : 2 ≤ n1) (h2 : n1 ≤ 2147483647) : cMetX "java/lang/IndexOutOfBoundsException" (fun u_ => u_ = S) l yX11_near cX11_near 5 (some .int) 7 1 6 102 [.ref o1, .int (nI n1), .int (nI 0), .int (nI 1)] S dp := by
  intro D Y tp sz
  refine cg_bodyX (by decide +kernel) (Nat.le_of_ble_eq_true rfl) ?_
  intro p e s m args below meth c C hne
  generalize va_A (cWd Y S) sz = A at C ⊢
  have C : cC p s m args meth c cX11_near 5 (some .int) A D Y tp dp RX11 := C
  refine cg_lv (lv' := [(0, .ref o1), (1, .int (nI n1)), (2, .int (nI 0)), (3, .int (nI 1))]) rfl ?_
  refine cg_iload_n C (i := 1) rfl 1 rfl dX11_near_0 ?_
  exact cg_callsx C hne (z40_X11_checkField l hlt S dp n1 (by omega) (by omega)) cc_X11_152 rfl ⟨by decide, by decide⟩ ⟨by decide, by decide⟩ rfl (Nat.le_of_ble_eq_true rfl) dX11_near_1 ⟨by decide, by decide⟩ (fun u_ h_ => by
      have hu_ := h_
      exact hu_)
set_option maxHeartbeats 4000000 in
set_option maxRecDepth 100000 in
theorem z248_L_near (l : Launch) (hlt : l.stackTraces = false) (S : cS) (dp : Nat) (o1 o2 : Nat) (n1 : Nat) (h1 : 2 ≤ n1) (h2 : n1 ≤ 2147483647) (h3 : o1 ∈ cL S) (h4 : cK S o1 = 11) : cMetW (cQi (fun r_ u_ => r_ = (nI 1) ∧ u_ = S)) l yL_near cL_near 6 (some .int) [(0, 12, 15, 28), (0, 12, 19, 13), (0, 12, 23, 15)] 8 1 6 126 [.ref o1, .int (nI n1), .int (nI 0), .int (nI 1), .ref o2] S dp := by
  intro D Y tp sz
  refine cg_bodyW (by decide +kernel) (Nat.le_of_ble_eq_true rfl) ?_
  intro p e s m args below meth c C htab
  generalize va_A (cWd Y S) sz = A at C ⊢
  have C : cC p s m args meth c cL_near 6 (some .int) A D Y tp dp RL := C
  refine cg_lv (lv' := [(0, .ref o1), (1, .int (nI n1)), (2, .int (nI 0)), (3, .int (nI 1)), (4, .ref o2)]) rfl ?_
  refine cg_aload C 4 rfl dL_near_0 ?_
  refine cg_iconst C (x := nI 0) rfl dL_near_2 ?_
  refine cg_aload_n C (i := 0) rfl 0 rfl dL_near_3 ?_
  refine cg_iload_n C (i := 1) rfl 1 rfl dL_near_4 ?_
  refine cg_iload_n C (i := 2) rfl 2 rfl dL_near_5 ?_
  refine cg_iload_n C (i := 3) rfl 3 rfl dL_near_6 ?_
  refine cg_callx_catch C htab (z247_X11_near l hlt S dp o1 n1 (by omega) (by omega)) cc_L_125 h3 h4 (by decide) rfl rfl ⟨by decide, by decide⟩ ⟨by decide, by decide⟩ rfl (Nat.le_of_ble_eq_true rfl) dL_near_7 (tableOf []) ⟨0, 12, 15, 28⟩ (tableOf [(0, 12, 19, 13), (0, 12, 23, 15)]) rfl (fun z hz => nomatch hz) (by decide) (by decide) (name := "java/lang/IndexOutOfBoundsException") ce_L_28 (by decide) 15 rfl (fun x_7 u_7 h_7 => ?_)
  have hu_7 := h_7
  have hw_7 := hu_7.symm
  subst hw_7
  refine cg_astore (lv' := [(5, .ref x_7), (0, .ref o1), (1, .int (nI n1)), (2, .int (nI 0)), (3, .int (nI 1)), (4, .ref o2)]) C (Nat.le_of_ble_eq_true rfl) rfl dL_near_15 ?_
  refine cg_iconst C (x := nI 1) rfl dL_near_17 ?_
  exact cg_iret C ⟨rfl, rfl⟩ dL_near_18 (by decide) (by decide)
set_option maxHeartbeats 4000000 in
set_option maxRecDepth 100000 in
theorem z249_X11_near (l : Launch) (hlt : l.stackTraces = false) (S : cS) (dp : Nat) (o1 : Nat) (n1 n2 : Nat) (h1 : 2 ≤ n1) (h2 : n1 ≤ 2147483647) (h3 : 1 ≤ n2) (h4 : n2 ≤ 2147483647) : cMetX "java/lang/IndexOutOfBoundsException" (fun u_ => u_ = S) l yX11_near cX11_near 5 (some .int) 7 1 6 102 [.ref o1, .int (nI n1), .int (nI n2), .int (nI 1)] S dp := by
  intro D Y tp sz
  refine cg_bodyX (by decide +kernel) (Nat.le_of_ble_eq_true rfl) ?_
  intro p e s m args below meth c C hne
  generalize va_A (cWd Y S) sz = A at C ⊢
  have C : cC p s m args meth c cX11_near 5 (some .int) A D Y tp dp RX11 := C
  refine cg_lv (lv' := [(0, .ref o1), (1, .int (nI n1)), (2, .int (nI n2)), (3, .int (nI 1))]) rfl ?_
  refine cg_iload_n C (i := 1) rfl 1 rfl dX11_near_0 ?_
  exact cg_callsx C hne (z40_X11_checkField l hlt S dp n1 (by omega) (by omega)) cc_X11_152 rfl ⟨by decide, by decide⟩ ⟨by decide, by decide⟩ rfl (Nat.le_of_ble_eq_true rfl) dX11_near_1 ⟨by decide, by decide⟩ (fun u_ h_ => by
      have hu_ := h_
      exact hu_)
set_option maxHeartbeats 4000000 in
set_option maxRecDepth 100000 in
theorem z250_L_near (l : Launch) (hlt : l.stackTraces = false) (S : cS) (dp : Nat) (o1 o2 : Nat) (n1 n2 : Nat) (h1 : 2 ≤ n1) (h2 : n1 ≤ 2147483647) (h3 : 1 ≤ n2) (h4 : n2 ≤ 2147483647) (h5 : o1 ∈ cL S) (h6 : cK S o1 = 11) : cMetW (cQi (fun r_ u_ => r_ = (nI 1) ∧ u_ = S)) l yL_near cL_near 6 (some .int) [(0, 12, 15, 28), (0, 12, 19, 13), (0, 12, 23, 15)] 8 1 6 126 [.ref o1, .int (nI n1), .int (nI n2), .int (nI 1), .ref o2] S dp := by
  intro D Y tp sz
  refine cg_bodyW (by decide +kernel) (Nat.le_of_ble_eq_true rfl) ?_
  intro p e s m args below meth c C htab
  generalize va_A (cWd Y S) sz = A at C ⊢
  have C : cC p s m args meth c cL_near 6 (some .int) A D Y tp dp RL := C
  refine cg_lv (lv' := [(0, .ref o1), (1, .int (nI n1)), (2, .int (nI n2)), (3, .int (nI 1)), (4, .ref o2)]) rfl ?_
  refine cg_aload C 4 rfl dL_near_0 ?_
  refine cg_iconst C (x := nI 0) rfl dL_near_2 ?_
  refine cg_aload_n C (i := 0) rfl 0 rfl dL_near_3 ?_
  refine cg_iload_n C (i := 1) rfl 1 rfl dL_near_4 ?_
  refine cg_iload_n C (i := 2) rfl 2 rfl dL_near_5 ?_
  refine cg_iload_n C (i := 3) rfl 3 rfl dL_near_6 ?_
  refine cg_callx_catch C htab (z249_X11_near l hlt S dp o1 n1 n2 (by omega) (by omega) (by omega) (by omega)) cc_L_125 h5 h6 (by decide) rfl rfl ⟨by decide, by decide⟩ ⟨by decide, by decide⟩ rfl (Nat.le_of_ble_eq_true rfl) dL_near_7 (tableOf []) ⟨0, 12, 15, 28⟩ (tableOf [(0, 12, 19, 13), (0, 12, 23, 15)]) rfl (fun z hz => nomatch hz) (by decide) (by decide) (name := "java/lang/IndexOutOfBoundsException") ce_L_28 (by decide) 15 rfl (fun x_7 u_7 h_7 => ?_)
  have hu_7 := h_7
  have hw_7 := hu_7.symm
  subst hw_7
  refine cg_astore (lv' := [(5, .ref x_7), (0, .ref o1), (1, .int (nI n1)), (2, .int (nI n2)), (3, .int (nI 1)), (4, .ref o2)]) C (Nat.le_of_ble_eq_true rfl) rfl dL_near_15 ?_
  refine cg_iconst C (x := nI 1) rfl dL_near_17 ?_
  exact cg_iret C ⟨rfl, rfl⟩ dL_near_18 (by decide) (by decide)
set_option maxHeartbeats 4000000 in
set_option maxRecDepth 100000 in
theorem z251_X11_near (l : Launch) (hlt : l.stackTraces = false) (S : cS) (dp : Nat) (o1 : Nat) (n1 n2 : Nat) (h1 : 2 ≤ n1) (h2 : n1 ≤ 2147483647) (h3 : 1 ≤ n2) (h4 : n2 ≤ 20) : cMetX "java/lang/IndexOutOfBoundsException" (fun u_ => u_ = S) l yX11_near cX11_near 5 (some .int) 7 1 6 102 [.ref o1, .int (nI n1), .int (nI n2), .int (nI 1)] S dp := by
  intro D Y tp sz
  refine cg_bodyX (by decide +kernel) (Nat.le_of_ble_eq_true rfl) ?_
  intro p e s m args below meth c C hne
  generalize va_A (cWd Y S) sz = A at C ⊢
  have C : cC p s m args meth c cX11_near 5 (some .int) A D Y tp dp RX11 := C
  refine cg_lv (lv' := [(0, .ref o1), (1, .int (nI n1)), (2, .int (nI n2)), (3, .int (nI 1))]) rfl ?_
  refine cg_iload_n C (i := 1) rfl 1 rfl dX11_near_0 ?_
  exact cg_callsx C hne (z40_X11_checkField l hlt S dp n1 (by omega) (by omega)) cc_X11_152 rfl ⟨by decide, by decide⟩ ⟨by decide, by decide⟩ rfl (Nat.le_of_ble_eq_true rfl) dX11_near_1 ⟨by decide, by decide⟩ (fun u_ h_ => by
      have hu_ := h_
      exact hu_)
set_option maxHeartbeats 4000000 in
set_option maxRecDepth 100000 in
theorem z252_L_near (l : Launch) (hlt : l.stackTraces = false) (S : cS) (dp : Nat) (o1 o2 : Nat) (n1 n2 : Nat) (h1 : 2 ≤ n1) (h2 : n1 ≤ 2147483647) (h3 : 1 ≤ n2) (h4 : n2 ≤ 20) (h5 : o1 ∈ cL S) (h6 : cK S o1 = 11) : cMetW (cQi (fun r_ u_ => r_ = (nI 1) ∧ u_ = S)) l yL_near cL_near 6 (some .int) [(0, 12, 15, 28), (0, 12, 19, 13), (0, 12, 23, 15)] 8 1 6 126 [.ref o1, .int (nI n1), .int (nI n2), .int (nI 1), .ref o2] S dp := by
  intro D Y tp sz
  refine cg_bodyW (by decide +kernel) (Nat.le_of_ble_eq_true rfl) ?_
  intro p e s m args below meth c C htab
  generalize va_A (cWd Y S) sz = A at C ⊢
  have C : cC p s m args meth c cL_near 6 (some .int) A D Y tp dp RL := C
  refine cg_lv (lv' := [(0, .ref o1), (1, .int (nI n1)), (2, .int (nI n2)), (3, .int (nI 1)), (4, .ref o2)]) rfl ?_
  refine cg_aload C 4 rfl dL_near_0 ?_
  refine cg_iconst C (x := nI 0) rfl dL_near_2 ?_
  refine cg_aload_n C (i := 0) rfl 0 rfl dL_near_3 ?_
  refine cg_iload_n C (i := 1) rfl 1 rfl dL_near_4 ?_
  refine cg_iload_n C (i := 2) rfl 2 rfl dL_near_5 ?_
  refine cg_iload_n C (i := 3) rfl 3 rfl dL_near_6 ?_
  refine cg_callx_catch C htab (z251_X11_near l hlt S dp o1 n1 n2 (by omega) (by omega) (by omega) (by omega)) cc_L_125 h5 h6 (by decide) rfl rfl ⟨by decide, by decide⟩ ⟨by decide, by decide⟩ rfl (Nat.le_of_ble_eq_true rfl) dL_near_7 (tableOf []) ⟨0, 12, 15, 28⟩ (tableOf [(0, 12, 19, 13), (0, 12, 23, 15)]) rfl (fun z hz => nomatch hz) (by decide) (by decide) (name := "java/lang/IndexOutOfBoundsException") ce_L_28 (by decide) 15 rfl (fun x_7 u_7 h_7 => ?_)
  have hu_7 := h_7
  have hw_7 := hu_7.symm
  subst hw_7
  refine cg_astore (lv' := [(5, .ref x_7), (0, .ref o1), (1, .int (nI n1)), (2, .int (nI n2)), (3, .int (nI 1)), (4, .ref o2)]) C (Nat.le_of_ble_eq_true rfl) rfl dL_near_15 ?_
  refine cg_iconst C (x := nI 1) rfl dL_near_17 ?_
  exact cg_iret C ⟨rfl, rfl⟩ dL_near_18 (by decide) (by decide)
set_option maxHeartbeats 4000000 in
set_option maxRecDepth 100000 in
theorem z253_X11_near (l : Launch) (hlt : l.stackTraces = false) (S : cS) (dp : Nat) (o1 : Nat) (n1 n2 : Nat) (h1 : 2 ≤ n1) (h2 : n1 ≤ 2147483647) (h3 : 21 ≤ n2) (h4 : n2 ≤ 2147483647) : cMetX "java/lang/IndexOutOfBoundsException" (fun u_ => u_ = S) l yX11_near cX11_near 5 (some .int) 7 1 6 102 [.ref o1, .int (nI n1), .int (nI n2), .int (nI 1)] S dp := by
  intro D Y tp sz
  refine cg_bodyX (by decide +kernel) (Nat.le_of_ble_eq_true rfl) ?_
  intro p e s m args below meth c C hne
  generalize va_A (cWd Y S) sz = A at C ⊢
  have C : cC p s m args meth c cX11_near 5 (some .int) A D Y tp dp RX11 := C
  refine cg_lv (lv' := [(0, .ref o1), (1, .int (nI n1)), (2, .int (nI n2)), (3, .int (nI 1))]) rfl ?_
  refine cg_iload_n C (i := 1) rfl 1 rfl dX11_near_0 ?_
  exact cg_callsx C hne (z40_X11_checkField l hlt S dp n1 (by omega) (by omega)) cc_X11_152 rfl ⟨by decide, by decide⟩ ⟨by decide, by decide⟩ rfl (Nat.le_of_ble_eq_true rfl) dX11_near_1 ⟨by decide, by decide⟩ (fun u_ h_ => by
      have hu_ := h_
      exact hu_)
set_option maxHeartbeats 4000000 in
set_option maxRecDepth 100000 in
theorem z254_L_near (l : Launch) (hlt : l.stackTraces = false) (S : cS) (dp : Nat) (o1 o2 : Nat) (n1 n2 : Nat) (h1 : 2 ≤ n1) (h2 : n1 ≤ 2147483647) (h3 : 21 ≤ n2) (h4 : n2 ≤ 2147483647) (h5 : o1 ∈ cL S) (h6 : cK S o1 = 11) : cMetW (cQi (fun r_ u_ => r_ = (nI 1) ∧ u_ = S)) l yL_near cL_near 6 (some .int) [(0, 12, 15, 28), (0, 12, 19, 13), (0, 12, 23, 15)] 8 1 6 126 [.ref o1, .int (nI n1), .int (nI n2), .int (nI 1), .ref o2] S dp := by
  intro D Y tp sz
  refine cg_bodyW (by decide +kernel) (Nat.le_of_ble_eq_true rfl) ?_
  intro p e s m args below meth c C htab
  generalize va_A (cWd Y S) sz = A at C ⊢
  have C : cC p s m args meth c cL_near 6 (some .int) A D Y tp dp RL := C
  refine cg_lv (lv' := [(0, .ref o1), (1, .int (nI n1)), (2, .int (nI n2)), (3, .int (nI 1)), (4, .ref o2)]) rfl ?_
  refine cg_aload C 4 rfl dL_near_0 ?_
  refine cg_iconst C (x := nI 0) rfl dL_near_2 ?_
  refine cg_aload_n C (i := 0) rfl 0 rfl dL_near_3 ?_
  refine cg_iload_n C (i := 1) rfl 1 rfl dL_near_4 ?_
  refine cg_iload_n C (i := 2) rfl 2 rfl dL_near_5 ?_
  refine cg_iload_n C (i := 3) rfl 3 rfl dL_near_6 ?_
  refine cg_callx_catch C htab (z253_X11_near l hlt S dp o1 n1 n2 (by omega) (by omega) (by omega) (by omega)) cc_L_125 h5 h6 (by decide) rfl rfl ⟨by decide, by decide⟩ ⟨by decide, by decide⟩ rfl (Nat.le_of_ble_eq_true rfl) dL_near_7 (tableOf []) ⟨0, 12, 15, 28⟩ (tableOf [(0, 12, 19, 13), (0, 12, 23, 15)]) rfl (fun z hz => nomatch hz) (by decide) (by decide) (name := "java/lang/IndexOutOfBoundsException") ce_L_28 (by decide) 15 rfl (fun x_7 u_7 h_7 => ?_)
  have hu_7 := h_7
  have hw_7 := hu_7.symm
  subst hw_7
  refine cg_astore (lv' := [(5, .ref x_7), (0, .ref o1), (1, .int (nI n1)), (2, .int (nI n2)), (3, .int (nI 1)), (4, .ref o2)]) C (Nat.le_of_ble_eq_true rfl) rfl dL_near_15 ?_
  refine cg_iconst C (x := nI 1) rfl dL_near_17 ?_
  exact cg_iret C ⟨rfl, rfl⟩ dL_near_18 (by decide) (by decide)
set_option maxHeartbeats 4000000 in
set_option maxRecDepth 100000 in
theorem z255_X11_near (l : Launch) (hlt : l.stackTraces = false) (S : cS) (dp : Nat) (o1 : Nat) (x1 x2 : Int32) (h1 : x1 < 0) : cMetX "java/lang/IndexOutOfBoundsException" (fun u_ => u_ = S) l yX11_near cX11_near 5 (some .int) 7 1 6 102 [.ref o1, .int x1, .int x2, .int (nI 0)] S dp := by
  intro D Y tp sz
  refine cg_bodyX (by decide +kernel) (Nat.le_of_ble_eq_true rfl) ?_
  intro p e s m args below meth c C hne
  generalize va_A (cWd Y S) sz = A at C ⊢
  have C : cC p s m args meth c cX11_near 5 (some .int) A D Y tp dp RX11 := C
  refine cg_lv (lv' := [(0, .ref o1), (1, .int x1), (2, .int x2), (3, .int (nI 0))]) rfl ?_
  refine cg_iload_n C (i := 1) rfl 1 rfl dX11_near_0 ?_
  exact cg_callsx C hne (z27_X11_checkField l hlt S dp x1 h1) cc_X11_152 rfl ⟨by decide, by decide⟩ ⟨by decide, by decide⟩ rfl (Nat.le_of_ble_eq_true rfl) dX11_near_1 ⟨by decide, by decide⟩ (fun u_ h_ => by
      have hu_ := h_
      exact hu_)
set_option maxHeartbeats 4000000 in
set_option maxRecDepth 100000 in
theorem z256_L_near (l : Launch) (hlt : l.stackTraces = false) (S : cS) (dp : Nat) (o1 o2 : Nat) (x1 x2 : Int32) (h1 : x1 < 0) (h2 : o1 ∈ cL S) (h3 : cK S o1 = 11) : cMetW (cQi (fun r_ u_ => r_ = (nI 1) ∧ u_ = S)) l yL_near cL_near 6 (some .int) [(0, 12, 15, 28), (0, 12, 19, 13), (0, 12, 23, 15)] 8 1 6 126 [.ref o1, .int x1, .int x2, .int (nI 0), .ref o2] S dp := by
  intro D Y tp sz
  refine cg_bodyW (by decide +kernel) (Nat.le_of_ble_eq_true rfl) ?_
  intro p e s m args below meth c C htab
  generalize va_A (cWd Y S) sz = A at C ⊢
  have C : cC p s m args meth c cL_near 6 (some .int) A D Y tp dp RL := C
  refine cg_lv (lv' := [(0, .ref o1), (1, .int x1), (2, .int x2), (3, .int (nI 0)), (4, .ref o2)]) rfl ?_
  refine cg_aload C 4 rfl dL_near_0 ?_
  refine cg_iconst C (x := nI 0) rfl dL_near_2 ?_
  refine cg_aload_n C (i := 0) rfl 0 rfl dL_near_3 ?_
  refine cg_iload_n C (i := 1) rfl 1 rfl dL_near_4 ?_
  refine cg_iload_n C (i := 2) rfl 2 rfl dL_near_5 ?_
  refine cg_iload_n C (i := 3) rfl 3 rfl dL_near_6 ?_
  refine cg_callx_catch C htab (z255_X11_near l hlt S dp o1 x1 x2 h1) cc_L_125 h2 h3 (by decide) rfl rfl ⟨by decide, by decide⟩ ⟨by decide, by decide⟩ rfl (Nat.le_of_ble_eq_true rfl) dL_near_7 (tableOf []) ⟨0, 12, 15, 28⟩ (tableOf [(0, 12, 19, 13), (0, 12, 23, 15)]) rfl (fun z hz => nomatch hz) (by decide) (by decide) (name := "java/lang/IndexOutOfBoundsException") ce_L_28 (by decide) 15 rfl (fun x_7 u_7 h_7 => ?_)
  have hu_7 := h_7
  have hw_7 := hu_7.symm
  subst hw_7
  refine cg_astore (lv' := [(5, .ref x_7), (0, .ref o1), (1, .int x1), (2, .int x2), (3, .int (nI 0)), (4, .ref o2)]) C (Nat.le_of_ble_eq_true rfl) rfl dL_near_15 ?_
  refine cg_iconst C (x := nI 1) rfl dL_near_17 ?_
  exact cg_iret C ⟨rfl, rfl⟩ dL_near_18 (by decide) (by decide)
set_option maxHeartbeats 4000000 in
set_option maxRecDepth 100000 in
theorem z257_X11_near (l : Launch) (hlt : l.stackTraces = false) (S : cS) (dp : Nat) (o1 : Nat) (x1 x2 : Int32) (h1 : x1 < 0) (h2 : x2 < 0) : cMetX "java/lang/IndexOutOfBoundsException" (fun u_ => u_ = S) l yX11_near cX11_near 5 (some .int) 7 1 6 102 [.ref o1, .int x1, .int x2, .int (nI 0)] S dp := by
  intro D Y tp sz
  refine cg_bodyX (by decide +kernel) (Nat.le_of_ble_eq_true rfl) ?_
  intro p e s m args below meth c C hne
  generalize va_A (cWd Y S) sz = A at C ⊢
  have C : cC p s m args meth c cX11_near 5 (some .int) A D Y tp dp RX11 := C
  refine cg_lv (lv' := [(0, .ref o1), (1, .int x1), (2, .int x2), (3, .int (nI 0))]) rfl ?_
  refine cg_iload_n C (i := 1) rfl 1 rfl dX11_near_0 ?_
  exact cg_callsx C hne (z27_X11_checkField l hlt S dp x1 h1) cc_X11_152 rfl ⟨by decide, by decide⟩ ⟨by decide, by decide⟩ rfl (Nat.le_of_ble_eq_true rfl) dX11_near_1 ⟨by decide, by decide⟩ (fun u_ h_ => by
      have hu_ := h_
      exact hu_)
set_option maxHeartbeats 4000000 in
set_option maxRecDepth 100000 in
theorem z258_L_near (l : Launch) (hlt : l.stackTraces = false) (S : cS) (dp : Nat) (o1 o2 : Nat) (x1 x2 : Int32) (h1 : x1 < 0) (h2 : x2 < 0) (h3 : o1 ∈ cL S) (h4 : cK S o1 = 11) : cMetW (cQi (fun r_ u_ => r_ = (nI 1) ∧ u_ = S)) l yL_near cL_near 6 (some .int) [(0, 12, 15, 28), (0, 12, 19, 13), (0, 12, 23, 15)] 8 1 6 126 [.ref o1, .int x1, .int x2, .int (nI 0), .ref o2] S dp := by
  intro D Y tp sz
  refine cg_bodyW (by decide +kernel) (Nat.le_of_ble_eq_true rfl) ?_
  intro p e s m args below meth c C htab
  generalize va_A (cWd Y S) sz = A at C ⊢
  have C : cC p s m args meth c cL_near 6 (some .int) A D Y tp dp RL := C
  refine cg_lv (lv' := [(0, .ref o1), (1, .int x1), (2, .int x2), (3, .int (nI 0)), (4, .ref o2)]) rfl ?_
  refine cg_aload C 4 rfl dL_near_0 ?_
  refine cg_iconst C (x := nI 0) rfl dL_near_2 ?_
  refine cg_aload_n C (i := 0) rfl 0 rfl dL_near_3 ?_
  refine cg_iload_n C (i := 1) rfl 1 rfl dL_near_4 ?_
  refine cg_iload_n C (i := 2) rfl 2 rfl dL_near_5 ?_
  refine cg_iload_n C (i := 3) rfl 3 rfl dL_near_6 ?_
  refine cg_callx_catch C htab (z257_X11_near l hlt S dp o1 x1 x2 h1 h2) cc_L_125 h3 h4 (by decide) rfl rfl ⟨by decide, by decide⟩ ⟨by decide, by decide⟩ rfl (Nat.le_of_ble_eq_true rfl) dL_near_7 (tableOf []) ⟨0, 12, 15, 28⟩ (tableOf [(0, 12, 19, 13), (0, 12, 23, 15)]) rfl (fun z hz => nomatch hz) (by decide) (by decide) (name := "java/lang/IndexOutOfBoundsException") ce_L_28 (by decide) 15 rfl (fun x_7 u_7 h_7 => ?_)
  have hu_7 := h_7
  have hw_7 := hu_7.symm
  subst hw_7
  refine cg_astore (lv' := [(5, .ref x_7), (0, .ref o1), (1, .int x1), (2, .int x2), (3, .int (nI 0)), (4, .ref o2)]) C (Nat.le_of_ble_eq_true rfl) rfl dL_near_15 ?_
  refine cg_iconst C (x := nI 1) rfl dL_near_17 ?_
  exact cg_iret C ⟨rfl, rfl⟩ dL_near_18 (by decide) (by decide)
set_option maxHeartbeats 4000000 in
set_option maxRecDepth 100000 in
theorem z259_X11_near (l : Launch) (hlt : l.stackTraces = false) (S : cS) (dp : Nat) (o1 : Nat) (n1 : Nat) (x1 : Int32) (h1 : x1 < 0) (h2 : n1 ≤ 2147483647) : cMetX "java/lang/IndexOutOfBoundsException" (fun u_ => u_ = S) l yX11_near cX11_near 5 (some .int) 7 1 6 102 [.ref o1, .int x1, .int (nI n1), .int (nI 0)] S dp := by
  intro D Y tp sz
  refine cg_bodyX (by decide +kernel) (Nat.le_of_ble_eq_true rfl) ?_
  intro p e s m args below meth c C hne
  generalize va_A (cWd Y S) sz = A at C ⊢
  have C : cC p s m args meth c cX11_near 5 (some .int) A D Y tp dp RX11 := C
  refine cg_lv (lv' := [(0, .ref o1), (1, .int x1), (2, .int (nI n1)), (3, .int (nI 0))]) rfl ?_
  refine cg_iload_n C (i := 1) rfl 1 rfl dX11_near_0 ?_
  exact cg_callsx C hne (z27_X11_checkField l hlt S dp x1 h1) cc_X11_152 rfl ⟨by decide, by decide⟩ ⟨by decide, by decide⟩ rfl (Nat.le_of_ble_eq_true rfl) dX11_near_1 ⟨by decide, by decide⟩ (fun u_ h_ => by
      have hu_ := h_
      exact hu_)
set_option maxHeartbeats 4000000 in
set_option maxRecDepth 100000 in
theorem z260_L_near (l : Launch) (hlt : l.stackTraces = false) (S : cS) (dp : Nat) (o1 o2 : Nat) (n1 : Nat) (x1 : Int32) (h1 : x1 < 0) (h2 : n1 ≤ 2147483647) (h3 : o1 ∈ cL S) (h4 : cK S o1 = 11) : cMetW (cQi (fun r_ u_ => r_ = (nI 1) ∧ u_ = S)) l yL_near cL_near 6 (some .int) [(0, 12, 15, 28), (0, 12, 19, 13), (0, 12, 23, 15)] 8 1 6 126 [.ref o1, .int x1, .int (nI n1), .int (nI 0), .ref o2] S dp := by
  intro D Y tp sz
  refine cg_bodyW (by decide +kernel) (Nat.le_of_ble_eq_true rfl) ?_
  intro p e s m args below meth c C htab
  generalize va_A (cWd Y S) sz = A at C ⊢
  have C : cC p s m args meth c cL_near 6 (some .int) A D Y tp dp RL := C
  refine cg_lv (lv' := [(0, .ref o1), (1, .int x1), (2, .int (nI n1)), (3, .int (nI 0)), (4, .ref o2)]) rfl ?_
  refine cg_aload C 4 rfl dL_near_0 ?_
  refine cg_iconst C (x := nI 0) rfl dL_near_2 ?_
  refine cg_aload_n C (i := 0) rfl 0 rfl dL_near_3 ?_
  refine cg_iload_n C (i := 1) rfl 1 rfl dL_near_4 ?_
  refine cg_iload_n C (i := 2) rfl 2 rfl dL_near_5 ?_
  refine cg_iload_n C (i := 3) rfl 3 rfl dL_near_6 ?_
  refine cg_callx_catch C htab (z259_X11_near l hlt S dp o1 n1 x1 h1 (by omega)) cc_L_125 h3 h4 (by decide) rfl rfl ⟨by decide, by decide⟩ ⟨by decide, by decide⟩ rfl (Nat.le_of_ble_eq_true rfl) dL_near_7 (tableOf []) ⟨0, 12, 15, 28⟩ (tableOf [(0, 12, 19, 13), (0, 12, 23, 15)]) rfl (fun z hz => nomatch hz) (by decide) (by decide) (name := "java/lang/IndexOutOfBoundsException") ce_L_28 (by decide) 15 rfl (fun x_7 u_7 h_7 => ?_)
  have hu_7 := h_7
  have hw_7 := hu_7.symm
  subst hw_7
  refine cg_astore (lv' := [(5, .ref x_7), (0, .ref o1), (1, .int x1), (2, .int (nI n1)), (3, .int (nI 0)), (4, .ref o2)]) C (Nat.le_of_ble_eq_true rfl) rfl dL_near_15 ?_
  refine cg_iconst C (x := nI 1) rfl dL_near_17 ?_
  exact cg_iret C ⟨rfl, rfl⟩ dL_near_18 (by decide) (by decide)
set_option maxHeartbeats 4000000 in
set_option maxRecDepth 100000 in
theorem z261_X11_near (l : Launch) (hlt : l.stackTraces = false) (S : cS) (dp : Nat) (o1 : Nat) (x1 : Int32) (h1 : x1 < 0) : cMetX "java/lang/IndexOutOfBoundsException" (fun u_ => u_ = S) l yX11_near cX11_near 5 (some .int) 7 1 6 102 [.ref o1, .int x1, .int (nI 0), .int (nI 0)] S dp := by
  intro D Y tp sz
  refine cg_bodyX (by decide +kernel) (Nat.le_of_ble_eq_true rfl) ?_
  intro p e s m args below meth c C hne
  generalize va_A (cWd Y S) sz = A at C ⊢
  have C : cC p s m args meth c cX11_near 5 (some .int) A D Y tp dp RX11 := C
  refine cg_lv (lv' := [(0, .ref o1), (1, .int x1), (2, .int (nI 0)), (3, .int (nI 0))]) rfl ?_
  refine cg_iload_n C (i := 1) rfl 1 rfl dX11_near_0 ?_
  exact cg_callsx C hne (z27_X11_checkField l hlt S dp x1 h1) cc_X11_152 rfl ⟨by decide, by decide⟩ ⟨by decide, by decide⟩ rfl (Nat.le_of_ble_eq_true rfl) dX11_near_1 ⟨by decide, by decide⟩ (fun u_ h_ => by
      have hu_ := h_
      exact hu_)
set_option maxHeartbeats 4000000 in
set_option maxRecDepth 100000 in
theorem z262_L_near (l : Launch) (hlt : l.stackTraces = false) (S : cS) (dp : Nat) (o1 o2 : Nat) (x1 : Int32) (h1 : x1 < 0) (h2 : o1 ∈ cL S) (h3 : cK S o1 = 11) : cMetW (cQi (fun r_ u_ => r_ = (nI 1) ∧ u_ = S)) l yL_near cL_near 6 (some .int) [(0, 12, 15, 28), (0, 12, 19, 13), (0, 12, 23, 15)] 8 1 6 126 [.ref o1, .int x1, .int (nI 0), .int (nI 0), .ref o2] S dp := by
  intro D Y tp sz
  refine cg_bodyW (by decide +kernel) (Nat.le_of_ble_eq_true rfl) ?_
  intro p e s m args below meth c C htab
  generalize va_A (cWd Y S) sz = A at C ⊢
  have C : cC p s m args meth c cL_near 6 (some .int) A D Y tp dp RL := C
  refine cg_lv (lv' := [(0, .ref o1), (1, .int x1), (2, .int (nI 0)), (3, .int (nI 0)), (4, .ref o2)]) rfl ?_
  refine cg_aload C 4 rfl dL_near_0 ?_
  refine cg_iconst C (x := nI 0) rfl dL_near_2 ?_
  refine cg_aload_n C (i := 0) rfl 0 rfl dL_near_3 ?_
  refine cg_iload_n C (i := 1) rfl 1 rfl dL_near_4 ?_
  refine cg_iload_n C (i := 2) rfl 2 rfl dL_near_5 ?_
  refine cg_iload_n C (i := 3) rfl 3 rfl dL_near_6 ?_
  refine cg_callx_catch C htab (z261_X11_near l hlt S dp o1 x1 h1) cc_L_125 h2 h3 (by decide) rfl rfl ⟨by decide, by decide⟩ ⟨by decide, by decide⟩ rfl (Nat.le_of_ble_eq_true rfl) dL_near_7 (tableOf []) ⟨0, 12, 15, 28⟩ (tableOf [(0, 12, 19, 13), (0, 12, 23, 15)]) rfl (fun z hz => nomatch hz) (by decide) (by decide) (name := "java/lang/IndexOutOfBoundsException") ce_L_28 (by decide) 15 rfl (fun x_7 u_7 h_7 => ?_)
  have hu_7 := h_7
  have hw_7 := hu_7.symm
  subst hw_7
  refine cg_astore (lv' := [(5, .ref x_7), (0, .ref o1), (1, .int x1), (2, .int (nI 0)), (3, .int (nI 0)), (4, .ref o2)]) C (Nat.le_of_ble_eq_true rfl) rfl dL_near_15 ?_
  refine cg_iconst C (x := nI 1) rfl dL_near_17 ?_
  exact cg_iret C ⟨rfl, rfl⟩ dL_near_18 (by decide) (by decide)
set_option maxHeartbeats 4000000 in
set_option maxRecDepth 100000 in
theorem z263_X11_near (l : Launch) (hlt : l.stackTraces = false) (S : cS) (dp : Nat) (o1 : Nat) (n1 : Nat) (x1 : Int32) (h1 : x1 < 0) (h2 : 1 ≤ n1) (h3 : n1 ≤ 2147483647) : cMetX "java/lang/IndexOutOfBoundsException" (fun u_ => u_ = S) l yX11_near cX11_near 5 (some .int) 7 1 6 102 [.ref o1, .int x1, .int (nI n1), .int (nI 0)] S dp := by
  intro D Y tp sz
  refine cg_bodyX (by decide +kernel) (Nat.le_of_ble_eq_true rfl) ?_
  intro p e s m args below meth c C hne
  generalize va_A (cWd Y S) sz = A at C ⊢
  have C : cC p s m args meth c cX11_near 5 (some .int) A D Y tp dp RX11 := C
  refine cg_lv (lv' := [(0, .ref o1), (1, .int x1), (2, .int (nI n1)), (3, .int (nI 0))]) rfl ?_
  refine cg_iload_n C (i := 1) rfl 1 rfl dX11_near_0 ?_
  exact cg_callsx C hne (z27_X11_checkField l hlt S dp x1 h1) cc_X11_152 rfl ⟨by decide, by decide⟩ ⟨by decide, by decide⟩ rfl (Nat.le_of_ble_eq_true rfl) dX11_near_1 ⟨by decide, by decide⟩ (fun u_ h_ => by
      have hu_ := h_
      exact hu_)
set_option maxHeartbeats 4000000 in
set_option maxRecDepth 100000 in
theorem z264_L_near (l : Launch) (hlt : l.stackTraces = false) (S : cS) (dp : Nat) (o1 o2 : Nat) (n1 : Nat) (x1 : Int32) (h1 : x1 < 0) (h2 : 1 ≤ n1) (h3 : n1 ≤ 2147483647) (h4 : o1 ∈ cL S) (h5 : cK S o1 = 11) : cMetW (cQi (fun r_ u_ => r_ = (nI 1) ∧ u_ = S)) l yL_near cL_near 6 (some .int) [(0, 12, 15, 28), (0, 12, 19, 13), (0, 12, 23, 15)] 8 1 6 126 [.ref o1, .int x1, .int (nI n1), .int (nI 0), .ref o2] S dp := by
  intro D Y tp sz
  refine cg_bodyW (by decide +kernel) (Nat.le_of_ble_eq_true rfl) ?_
  intro p e s m args below meth c C htab
  generalize va_A (cWd Y S) sz = A at C ⊢
  have C : cC p s m args meth c cL_near 6 (some .int) A D Y tp dp RL := C
  refine cg_lv (lv' := [(0, .ref o1), (1, .int x1), (2, .int (nI n1)), (3, .int (nI 0)), (4, .ref o2)]) rfl ?_
  refine cg_aload C 4 rfl dL_near_0 ?_
  refine cg_iconst C (x := nI 0) rfl dL_near_2 ?_
  refine cg_aload_n C (i := 0) rfl 0 rfl dL_near_3 ?_
  refine cg_iload_n C (i := 1) rfl 1 rfl dL_near_4 ?_
  refine cg_iload_n C (i := 2) rfl 2 rfl dL_near_5 ?_
  refine cg_iload_n C (i := 3) rfl 3 rfl dL_near_6 ?_
  refine cg_callx_catch C htab (z263_X11_near l hlt S dp o1 n1 x1 h1 (by omega) (by omega)) cc_L_125 h4 h5 (by decide) rfl rfl ⟨by decide, by decide⟩ ⟨by decide, by decide⟩ rfl (Nat.le_of_ble_eq_true rfl) dL_near_7 (tableOf []) ⟨0, 12, 15, 28⟩ (tableOf [(0, 12, 19, 13), (0, 12, 23, 15)]) rfl (fun z hz => nomatch hz) (by decide) (by decide) (name := "java/lang/IndexOutOfBoundsException") ce_L_28 (by decide) 15 rfl (fun x_7 u_7 h_7 => ?_)
  have hu_7 := h_7
  have hw_7 := hu_7.symm
  subst hw_7
  refine cg_astore (lv' := [(5, .ref x_7), (0, .ref o1), (1, .int x1), (2, .int (nI n1)), (3, .int (nI 0)), (4, .ref o2)]) C (Nat.le_of_ble_eq_true rfl) rfl dL_near_15 ?_
  refine cg_iconst C (x := nI 1) rfl dL_near_17 ?_
  exact cg_iret C ⟨rfl, rfl⟩ dL_near_18 (by decide) (by decide)
set_option maxHeartbeats 4000000 in
set_option maxRecDepth 100000 in
theorem z265_X11_near (l : Launch) (hlt : l.stackTraces = false) (S : cS) (dp : Nat) (o1 : Nat) (n1 : Nat) (x1 : Int32) (h1 : x1 < 0) (h2 : 1 ≤ n1) (h3 : n1 ≤ 20) : cMetX "java/lang/IndexOutOfBoundsException" (fun u_ => u_ = S) l yX11_near cX11_near 5 (some .int) 7 1 6 102 [.ref o1, .int x1, .int (nI n1), .int (nI 0)] S dp := by
  intro D Y tp sz
  refine cg_bodyX (by decide +kernel) (Nat.le_of_ble_eq_true rfl) ?_
  intro p e s m args below meth c C hne
  generalize va_A (cWd Y S) sz = A at C ⊢
  have C : cC p s m args meth c cX11_near 5 (some .int) A D Y tp dp RX11 := C
  refine cg_lv (lv' := [(0, .ref o1), (1, .int x1), (2, .int (nI n1)), (3, .int (nI 0))]) rfl ?_
  refine cg_iload_n C (i := 1) rfl 1 rfl dX11_near_0 ?_
  exact cg_callsx C hne (z27_X11_checkField l hlt S dp x1 h1) cc_X11_152 rfl ⟨by decide, by decide⟩ ⟨by decide, by decide⟩ rfl (Nat.le_of_ble_eq_true rfl) dX11_near_1 ⟨by decide, by decide⟩ (fun u_ h_ => by
      have hu_ := h_
      exact hu_)
set_option maxHeartbeats 4000000 in
set_option maxRecDepth 100000 in
theorem z266_L_near (l : Launch) (hlt : l.stackTraces = false) (S : cS) (dp : Nat) (o1 o2 : Nat) (n1 : Nat) (x1 : Int32) (h1 : x1 < 0) (h2 : 1 ≤ n1) (h3 : n1 ≤ 20) (h4 : o1 ∈ cL S) (h5 : cK S o1 = 11) : cMetW (cQi (fun r_ u_ => r_ = (nI 1) ∧ u_ = S)) l yL_near cL_near 6 (some .int) [(0, 12, 15, 28), (0, 12, 19, 13), (0, 12, 23, 15)] 8 1 6 126 [.ref o1, .int x1, .int (nI n1), .int (nI 0), .ref o2] S dp := by
  intro D Y tp sz
  refine cg_bodyW (by decide +kernel) (Nat.le_of_ble_eq_true rfl) ?_
  intro p e s m args below meth c C htab
  generalize va_A (cWd Y S) sz = A at C ⊢
  have C : cC p s m args meth c cL_near 6 (some .int) A D Y tp dp RL := C
  refine cg_lv (lv' := [(0, .ref o1), (1, .int x1), (2, .int (nI n1)), (3, .int (nI 0)), (4, .ref o2)]) rfl ?_
  refine cg_aload C 4 rfl dL_near_0 ?_
  refine cg_iconst C (x := nI 0) rfl dL_near_2 ?_
  refine cg_aload_n C (i := 0) rfl 0 rfl dL_near_3 ?_
  refine cg_iload_n C (i := 1) rfl 1 rfl dL_near_4 ?_
  refine cg_iload_n C (i := 2) rfl 2 rfl dL_near_5 ?_
  refine cg_iload_n C (i := 3) rfl 3 rfl dL_near_6 ?_
  refine cg_callx_catch C htab (z265_X11_near l hlt S dp o1 n1 x1 h1 (by omega) (by omega)) cc_L_125 h4 h5 (by decide) rfl rfl ⟨by decide, by decide⟩ ⟨by decide, by decide⟩ rfl (Nat.le_of_ble_eq_true rfl) dL_near_7 (tableOf []) ⟨0, 12, 15, 28⟩ (tableOf [(0, 12, 19, 13), (0, 12, 23, 15)]) rfl (fun z hz => nomatch hz) (by decide) (by decide) (name := "java/lang/IndexOutOfBoundsException") ce_L_28 (by decide) 15 rfl (fun x_7 u_7 h_7 => ?_)
  have hu_7 := h_7
  have hw_7 := hu_7.symm
  subst hw_7
  refine cg_astore (lv' := [(5, .ref x_7), (0, .ref o1), (1, .int x1), (2, .int (nI n1)), (3, .int (nI 0)), (4, .ref o2)]) C (Nat.le_of_ble_eq_true rfl) rfl dL_near_15 ?_
  refine cg_iconst C (x := nI 1) rfl dL_near_17 ?_
  exact cg_iret C ⟨rfl, rfl⟩ dL_near_18 (by decide) (by decide)
set_option maxHeartbeats 4000000 in
set_option maxRecDepth 100000 in
theorem z267_X11_near (l : Launch) (hlt : l.stackTraces = false) (S : cS) (dp : Nat) (o1 : Nat) (n1 : Nat) (x1 : Int32) (h1 : x1 < 0) (h2 : 21 ≤ n1) (h3 : n1 ≤ 2147483647) : cMetX "java/lang/IndexOutOfBoundsException" (fun u_ => u_ = S) l yX11_near cX11_near 5 (some .int) 7 1 6 102 [.ref o1, .int x1, .int (nI n1), .int (nI 0)] S dp := by
  intro D Y tp sz
  refine cg_bodyX (by decide +kernel) (Nat.le_of_ble_eq_true rfl) ?_
  intro p e s m args below meth c C hne
  generalize va_A (cWd Y S) sz = A at C ⊢
  have C : cC p s m args meth c cX11_near 5 (some .int) A D Y tp dp RX11 := C
  refine cg_lv (lv' := [(0, .ref o1), (1, .int x1), (2, .int (nI n1)), (3, .int (nI 0))]) rfl ?_
  refine cg_iload_n C (i := 1) rfl 1 rfl dX11_near_0 ?_
  exact cg_callsx C hne (z27_X11_checkField l hlt S dp x1 h1) cc_X11_152 rfl ⟨by decide, by decide⟩ ⟨by decide, by decide⟩ rfl (Nat.le_of_ble_eq_true rfl) dX11_near_1 ⟨by decide, by decide⟩ (fun u_ h_ => by
      have hu_ := h_
      exact hu_)
set_option maxHeartbeats 4000000 in
set_option maxRecDepth 100000 in
theorem z268_L_near (l : Launch) (hlt : l.stackTraces = false) (S : cS) (dp : Nat) (o1 o2 : Nat) (n1 : Nat) (x1 : Int32) (h1 : x1 < 0) (h2 : 21 ≤ n1) (h3 : n1 ≤ 2147483647) (h4 : o1 ∈ cL S) (h5 : cK S o1 = 11) : cMetW (cQi (fun r_ u_ => r_ = (nI 1) ∧ u_ = S)) l yL_near cL_near 6 (some .int) [(0, 12, 15, 28), (0, 12, 19, 13), (0, 12, 23, 15)] 8 1 6 126 [.ref o1, .int x1, .int (nI n1), .int (nI 0), .ref o2] S dp := by
  intro D Y tp sz
  refine cg_bodyW (by decide +kernel) (Nat.le_of_ble_eq_true rfl) ?_
  intro p e s m args below meth c C htab
  generalize va_A (cWd Y S) sz = A at C ⊢
  have C : cC p s m args meth c cL_near 6 (some .int) A D Y tp dp RL := C
  refine cg_lv (lv' := [(0, .ref o1), (1, .int x1), (2, .int (nI n1)), (3, .int (nI 0)), (4, .ref o2)]) rfl ?_
  refine cg_aload C 4 rfl dL_near_0 ?_
  refine cg_iconst C (x := nI 0) rfl dL_near_2 ?_
  refine cg_aload_n C (i := 0) rfl 0 rfl dL_near_3 ?_
  refine cg_iload_n C (i := 1) rfl 1 rfl dL_near_4 ?_
  refine cg_iload_n C (i := 2) rfl 2 rfl dL_near_5 ?_
  refine cg_iload_n C (i := 3) rfl 3 rfl dL_near_6 ?_
  refine cg_callx_catch C htab (z267_X11_near l hlt S dp o1 n1 x1 h1 (by omega) (by omega)) cc_L_125 h4 h5 (by decide) rfl rfl ⟨by decide, by decide⟩ ⟨by decide, by decide⟩ rfl (Nat.le_of_ble_eq_true rfl) dL_near_7 (tableOf []) ⟨0, 12, 15, 28⟩ (tableOf [(0, 12, 19, 13), (0, 12, 23, 15)]) rfl (fun z hz => nomatch hz) (by decide) (by decide) (name := "java/lang/IndexOutOfBoundsException") ce_L_28 (by decide) 15 rfl (fun x_7 u_7 h_7 => ?_)
  have hu_7 := h_7
  have hw_7 := hu_7.symm
  subst hw_7
  refine cg_astore (lv' := [(5, .ref x_7), (0, .ref o1), (1, .int x1), (2, .int (nI n1)), (3, .int (nI 0)), (4, .ref o2)]) C (Nat.le_of_ble_eq_true rfl) rfl dL_near_15 ?_
  refine cg_iconst C (x := nI 1) rfl dL_near_17 ?_
  exact cg_iret C ⟨rfl, rfl⟩ dL_near_18 (by decide) (by decide)
set_option maxHeartbeats 4000000 in
set_option maxRecDepth 100000 in
theorem z269_X11_near (l : Launch) (hlt : l.stackTraces = false) (S : cS) (dp : Nat) (o1 : Nat) (n1 : Nat) (x1 : Int32) (h1 : n1 ≤ 1) (h2 : x1 < 0) : cMetX "java/lang/IllegalArgumentException" (fun u_ => u_ = S) l yX11_near cX11_near 5 (some .int) 6 1 6 82 [.ref o1, .int (nI n1), .int x1, .int (nI 0)] S dp := by
  intro D Y tp sz
  refine cg_bodyX (by decide +kernel) (Nat.le_of_ble_eq_true rfl) ?_
  intro p e s m args below meth c C hne
  generalize va_A (cWd Y S) sz = A at C ⊢
  have C : cC p s m args meth c cX11_near 5 (some .int) A D Y tp dp RX11 := C
  refine cg_lv (lv' := [(0, .ref o1), (1, .int (nI n1)), (2, .int x1), (3, .int (nI 0))]) rfl ?_
  refine cg_iload_n C (i := 1) rfl 1 rfl dX11_near_0 ?_
  refine cg_callsv C (z30_X11_checkField l hlt S dp n1 (by omega)) cc_X11_152 rfl ⟨by decide, by decide⟩ ⟨by decide, by decide⟩ rfl (Nat.le_of_ble_eq_true rfl) dX11_near_1 (fun u_1 h_1 => ?_)
  have hu_1 := h_1
  have hw_1 := hu_1.symm
  subst hw_1
  refine cg_iload_n C (i := 2) rfl 2 rfl dX11_near_4 ?_
  refine cg_iconst C (x := nI 1) rfl dX11_near_5 ?_
  refine cg_icmp_lt C 15 (by decide) dX11_near_6 (fun c_6 => ?_) (fun c_ => absurd (cneg_lt h2 (by omega)) c_)
  exact cg_throw1W C hlt hne "the distance is out of range" ce_X11_100 cei_1 (by decide) dX11_near_15 dX11_near_18 dX11_near_19 dX11_near_22 dX11_near_25 (by decide) (by decide) ⟨by decide, by decide⟩ ⟨by decide, by decide⟩ rfl
set_option maxHeartbeats 4000000 in
set_option maxRecDepth 100000 in
theorem z270_L_near (l : Launch) (hlt : l.stackTraces = false) (S : cS) (dp : Nat) (o1 o2 : Nat) (n1 : Nat) (x1 : Int32) (h1 : n1 ≤ 1) (h2 : x1 < 0) (h3 : o1 ∈ cL S) (h4 : cK S o1 = 11) : cMetW (cQi (fun r_ u_ => r_ = (nI 2) ∧ u_ = S)) l yL_near cL_near 6 (some .int) [(0, 12, 15, 28), (0, 12, 19, 13), (0, 12, 23, 15)] 7 1 6 106 [.ref o1, .int (nI n1), .int x1, .int (nI 0), .ref o2] S dp := by
  intro D Y tp sz
  refine cg_bodyW (by decide +kernel) (Nat.le_of_ble_eq_true rfl) ?_
  intro p e s m args below meth c C htab
  generalize va_A (cWd Y S) sz = A at C ⊢
  have C : cC p s m args meth c cL_near 6 (some .int) A D Y tp dp RL := C
  refine cg_lv (lv' := [(0, .ref o1), (1, .int (nI n1)), (2, .int x1), (3, .int (nI 0)), (4, .ref o2)]) rfl ?_
  refine cg_aload C 4 rfl dL_near_0 ?_
  refine cg_iconst C (x := nI 0) rfl dL_near_2 ?_
  refine cg_aload_n C (i := 0) rfl 0 rfl dL_near_3 ?_
  refine cg_iload_n C (i := 1) rfl 1 rfl dL_near_4 ?_
  refine cg_iload_n C (i := 2) rfl 2 rfl dL_near_5 ?_
  refine cg_iload_n C (i := 3) rfl 3 rfl dL_near_6 ?_
  refine cg_callx_catch C htab (z269_X11_near l hlt S dp o1 n1 x1 (by omega) h2) cc_L_125 h3 h4 (by decide) rfl rfl ⟨by decide, by decide⟩ ⟨by decide, by decide⟩ rfl (Nat.le_of_ble_eq_true rfl) dL_near_7 (tableOf [(0, 12, 15, 28)]) ⟨0, 12, 19, 13⟩ (tableOf [(0, 12, 23, 15)]) rfl (fun z hz => by
        rcases List.mem_cons.mp hz with rfl | hz
        · exact ⟨by decide, "java/lang/IndexOutOfBoundsException", ce_L_28, by decide⟩
        exact nomatch hz) (by decide) (by decide) (name := "java/lang/IllegalArgumentException") ce_L_13 (by decide) 19 rfl (fun x_7 u_7 h_7 => ?_)
  have hu_7 := h_7
  have hw_7 := hu_7.symm
  subst hw_7
  refine cg_astore (lv' := [(5, .ref x_7), (0, .ref o1), (1, .int (nI n1)), (2, .int x1), (3, .int (nI 0)), (4, .ref o2)]) C (Nat.le_of_ble_eq_true rfl) rfl dL_near_19 ?_
  refine cg_iconst C (x := nI 2) rfl dL_near_21 ?_
  exact cg_iret C ⟨rfl, rfl⟩ dL_near_22 (by decide) (by decide)
set_option maxHeartbeats 4000000 in
set_option maxRecDepth 100000 in
theorem z271_X11_near (l : Launch) (hlt : l.stackTraces = false) (S : cS) (dp : Nat) (o1 : Nat) (n1 : Nat) (h1 : n1 ≤ 1) : cMetX "java/lang/IllegalArgumentException" (fun u_ => u_ = S) l yX11_near cX11_near 5 (some .int) 6 1 6 82 [.ref o1, .int (nI n1), .int (nI 0), .int (nI 0)] S dp := by
  intro D Y tp sz
  refine cg_bodyX (by decide +kernel) (Nat.le_of_ble_eq_true rfl) ?_
  intro p e s m args below meth c C hne
  generalize va_A (cWd Y S) sz = A at C ⊢
  have C : cC p s m args meth c cX11_near 5 (some .int) A D Y tp dp RX11 := C
  refine cg_lv (lv' := [(0, .ref o1), (1, .int (nI n1)), (2, .int (nI 0)), (3, .int (nI 0))]) rfl ?_
  refine cg_iload_n C (i := 1) rfl 1 rfl dX11_near_0 ?_
  refine cg_callsv C (z30_X11_checkField l hlt S dp n1 (by omega)) cc_X11_152 rfl ⟨by decide, by decide⟩ ⟨by decide, by decide⟩ rfl (Nat.le_of_ble_eq_true rfl) dX11_near_1 (fun u_1 h_1 => ?_)
  have hu_1 := h_1
  have hw_1 := hu_1.symm
  subst hw_1
  refine cg_iload_n C (i := 2) rfl 2 rfl dX11_near_4 ?_
  refine cg_iconst C (x := nI 1) rfl dX11_near_5 ?_
  refine cg_icmp_ltN C (by omega) (by omega) 15 (by decide) dX11_near_6 (fun c_6 => ?_) (fun c_ => absurd c_ (by omega))
  exact cg_throw1W C hlt hne "the distance is out of range" ce_X11_100 cei_1 (by decide) dX11_near_15 dX11_near_18 dX11_near_19 dX11_near_22 dX11_near_25 (by decide) (by decide) ⟨by decide, by decide⟩ ⟨by decide, by decide⟩ rfl
set_option maxHeartbeats 4000000 in
set_option maxRecDepth 100000 in
theorem z272_L_near (l : Launch) (hlt : l.stackTraces = false) (S : cS) (dp : Nat) (o1 o2 : Nat) (n1 : Nat) (h1 : n1 ≤ 1) (h2 : o1 ∈ cL S) (h3 : cK S o1 = 11) : cMetW (cQi (fun r_ u_ => r_ = (nI 2) ∧ u_ = S)) l yL_near cL_near 6 (some .int) [(0, 12, 15, 28), (0, 12, 19, 13), (0, 12, 23, 15)] 7 1 6 106 [.ref o1, .int (nI n1), .int (nI 0), .int (nI 0), .ref o2] S dp := by
  intro D Y tp sz
  refine cg_bodyW (by decide +kernel) (Nat.le_of_ble_eq_true rfl) ?_
  intro p e s m args below meth c C htab
  generalize va_A (cWd Y S) sz = A at C ⊢
  have C : cC p s m args meth c cL_near 6 (some .int) A D Y tp dp RL := C
  refine cg_lv (lv' := [(0, .ref o1), (1, .int (nI n1)), (2, .int (nI 0)), (3, .int (nI 0)), (4, .ref o2)]) rfl ?_
  refine cg_aload C 4 rfl dL_near_0 ?_
  refine cg_iconst C (x := nI 0) rfl dL_near_2 ?_
  refine cg_aload_n C (i := 0) rfl 0 rfl dL_near_3 ?_
  refine cg_iload_n C (i := 1) rfl 1 rfl dL_near_4 ?_
  refine cg_iload_n C (i := 2) rfl 2 rfl dL_near_5 ?_
  refine cg_iload_n C (i := 3) rfl 3 rfl dL_near_6 ?_
  refine cg_callx_catch C htab (z271_X11_near l hlt S dp o1 n1 (by omega)) cc_L_125 h2 h3 (by decide) rfl rfl ⟨by decide, by decide⟩ ⟨by decide, by decide⟩ rfl (Nat.le_of_ble_eq_true rfl) dL_near_7 (tableOf [(0, 12, 15, 28)]) ⟨0, 12, 19, 13⟩ (tableOf [(0, 12, 23, 15)]) rfl (fun z hz => by
        rcases List.mem_cons.mp hz with rfl | hz
        · exact ⟨by decide, "java/lang/IndexOutOfBoundsException", ce_L_28, by decide⟩
        exact nomatch hz) (by decide) (by decide) (name := "java/lang/IllegalArgumentException") ce_L_13 (by decide) 19 rfl (fun x_7 u_7 h_7 => ?_)
  have hu_7 := h_7
  have hw_7 := hu_7.symm
  subst hw_7
  refine cg_astore (lv' := [(5, .ref x_7), (0, .ref o1), (1, .int (nI n1)), (2, .int (nI 0)), (3, .int (nI 0)), (4, .ref o2)]) C (Nat.le_of_ble_eq_true rfl) rfl dL_near_19 ?_
  refine cg_iconst C (x := nI 2) rfl dL_near_21 ?_
  exact cg_iret C ⟨rfl, rfl⟩ dL_near_22 (by decide) (by decide)
set_option maxHeartbeats 4000000 in
set_option maxRecDepth 100000 in
theorem z273_X11_near (l : Launch) (hlt : l.stackTraces = false) (S : cS) (dp : Nat) (o1 o2 o3 : Nat) (n1 n2 : Nat) (h1 : n1 ≤ 1) (h2 : 1 ≤ n2) (h3 : n2 ≤ 20) (h4 : cr S 352 o1 = (some o2)) (h5 : cK S o1 = 11) (h6 : o1 ∈ cL S) (h7 : cr S 96 o2 = (some o3)) (h8 : cK S o2 = 3) (h9 : o2 ∈ cL S) (h10 : ci S 289 o3 = (nI 0)) (h11 : cK S o3 = 9) (h12 : o3 ∈ cL S) : cMetX "java/lang/IllegalStateException" (fun u_ => ∃ (S1 : cS), S1 = cSi S 98 o2 (nI 0) ∧ ∃ (S2 : cS), S2 = cSi S1 292 o3 (nI 0) ∧ u_ = S2) l yX11_near cX11_near 5 (some .int) 7 1 6 103 [.ref o1, .int (nI n1), .int (nI n2), .int (nI 0)] S dp := by
  intro D Y tp sz
  refine cg_bodyX (by decide +kernel) (Nat.le_of_ble_eq_true rfl) ?_
  intro p e s m args below meth c C hne
  generalize va_A (cWd Y S) sz = A at C ⊢
  have C : cC p s m args meth c cX11_near 5 (some .int) A D Y tp dp RX11 := C
  refine cg_lv (lv' := [(0, .ref o1), (1, .int (nI n1)), (2, .int (nI n2)), (3, .int (nI 0))]) rfl ?_
  refine cg_iload_n C (i := 1) rfl 1 rfl dX11_near_0 ?_
  refine cg_callsv C (z30_X11_checkField l hlt S dp n1 (by omega)) cc_X11_152 rfl ⟨by decide, by decide⟩ ⟨by decide, by decide⟩ rfl (Nat.le_of_ble_eq_true rfl) dX11_near_1 (fun u_1 h_1 => ?_)
  have hu_1 := h_1
  have hw_1 := hu_1.symm
  subst hw_1
  refine cg_iload_n C (i := 2) rfl 2 rfl dX11_near_4 ?_
  refine cg_iconst C (x := nI 1) rfl dX11_near_5 ?_
  refine cg_icmp_ltN C (by omega) (by omega) 15 (by decide) dX11_near_6 (fun c_ => absurd c_ (by omega)) (fun c_6 => ?_)
  refine cg_iload_n C (i := 2) rfl 2 rfl dX11_near_9 ?_
  refine cg_bipush C (x := nI 20) rfl dX11_near_10 ?_
  refine cg_icmp_leN C (by omega) (by omega) 26 (by decide) dX11_near_12 (fun c_12 => ?_) (fun c_ => absurd c_ (by omega))
  refine cg_aload_n C (i := 0) rfl 0 rfl dX11_near_26 ?_
  refine cg_aload_n C (i := 0) rfl 0 rfl dX11_near_27 ?_
  refine cg_get C (k := 11) (j := 0) (.ref o2) h6 h5 (by decide) rfl (by decide) rfl (show cV _ 11 0 o1 = _ from congrArg va_rf h4) cWs_wsX110 cl_X11_10 rfl dX11_near_28 ?_
  refine cg_calli C (z187_X3_readPadTokens l hlt S dp o2 o3 h7 h8 h9 h10 h11 h12) cc_X11_324 h9 h8 (by decide) rfl rfl ⟨by decide, by decide⟩ ⟨by decide, by decide⟩ rfl (Nat.le_of_ble_eq_true rfl) dX11_near_31 (fun r_31 u_31 h_31 => ?_)
  obtain ⟨S1, hS1, S2, hS2, hr_31, hu_31⟩ := h_31
  have hw_31 := hu_31.symm
  subst hw_31
  have hx_31 := hr_31.symm
  subst hx_31
  refine cg_iconst C (x := nI 2) rfl dX11_near_34 ?_
  refine cg_icmp_neN C (by omega) (by omega) 42 (by decide) dX11_near_35 (fun c_35 => ?_) (fun c_ => absurd c_ (by omega))
  refine cg_iconst C (x := nI 0) rfl dX11_near_42 ?_
  exact cg_callx C hne (z188_X11_checkLeaf l hlt S2 dp o1) cc_X11_327 (hm_Si hS2 (hm_Si hS1 h6)) (hk_Si hS2 (hk_Si hS1 h5)) (by decide) rfl rfl ⟨by decide, by decide⟩ ⟨by decide, by decide⟩ rfl (Nat.le_of_ble_eq_true rfl) dX11_near_43 ⟨by decide, by decide⟩ (fun u_ h_ => by
      have hu_ := h_
      exact ⟨S1, hS1, S2, hS2, hu_⟩)
set_option maxHeartbeats 4000000 in
set_option maxRecDepth 100000 in
theorem z274_L_near (l : Launch) (hlt : l.stackTraces = false) (S : cS) (dp : Nat) (o1 o2 o3 o4 : Nat) (n1 n2 : Nat) (h1 : n1 ≤ 1) (h2 : 1 ≤ n2) (h3 : n2 ≤ 20) (h4 : cr S 352 o1 = (some o3)) (h5 : cK S o1 = 11) (h6 : o1 ∈ cL S) (h7 : cr S 96 o3 = (some o4)) (h8 : cK S o3 = 3) (h9 : o3 ∈ cL S) (h10 : ci S 289 o4 = (nI 0)) (h11 : cK S o4 = 9) (h12 : o4 ∈ cL S) : cMetW (cQi (fun r_ u_ => ∃ (S1 : cS), S1 = cSi S 98 o3 (nI 0) ∧ ∃ (S2 : cS), S2 = cSi S1 292 o4 (nI 0) ∧ r_ = (nI 3) ∧ u_ = S2)) l yL_near cL_near 6 (some .int) [(0, 12, 15, 28), (0, 12, 19, 13), (0, 12, 23, 15)] 8 1 6 127 [.ref o1, .int (nI n1), .int (nI n2), .int (nI 0), .ref o2] S dp := by
  intro D Y tp sz
  refine cg_bodyW (by decide +kernel) (Nat.le_of_ble_eq_true rfl) ?_
  intro p e s m args below meth c C htab
  generalize va_A (cWd Y S) sz = A at C ⊢
  have C : cC p s m args meth c cL_near 6 (some .int) A D Y tp dp RL := C
  refine cg_lv (lv' := [(0, .ref o1), (1, .int (nI n1)), (2, .int (nI n2)), (3, .int (nI 0)), (4, .ref o2)]) rfl ?_
  refine cg_aload C 4 rfl dL_near_0 ?_
  refine cg_iconst C (x := nI 0) rfl dL_near_2 ?_
  refine cg_aload_n C (i := 0) rfl 0 rfl dL_near_3 ?_
  refine cg_iload_n C (i := 1) rfl 1 rfl dL_near_4 ?_
  refine cg_iload_n C (i := 2) rfl 2 rfl dL_near_5 ?_
  refine cg_iload_n C (i := 3) rfl 3 rfl dL_near_6 ?_
  refine cg_callx_catch C htab (z273_X11_near l hlt S dp o1 o3 o4 n1 n2 (by omega) (by omega) (by omega) h4 h5 h6 h7 h8 h9 h10 h11 h12) cc_L_125 h6 h5 (by decide) rfl rfl ⟨by decide, by decide⟩ ⟨by decide, by decide⟩ rfl (Nat.le_of_ble_eq_true rfl) dL_near_7 (tableOf [(0, 12, 15, 28), (0, 12, 19, 13)]) ⟨0, 12, 23, 15⟩ (tableOf []) rfl (fun z hz => by
        rcases List.mem_cons.mp hz with rfl | hz
        · exact ⟨by decide, "java/lang/IndexOutOfBoundsException", ce_L_28, by decide⟩
        rcases List.mem_cons.mp hz with rfl | hz
        · exact ⟨by decide, "java/lang/IllegalArgumentException", ce_L_13, by decide⟩
        exact nomatch hz) (by decide) (by decide) (name := "java/lang/IllegalStateException") ce_L_15 (by decide) 23 rfl (fun x_7 u_7 h_7 => ?_)
  obtain ⟨S1, hS1, S2, hS2, hu_7⟩ := h_7
  have hw_7 := hu_7.symm
  subst hw_7
  refine cg_astore (lv' := [(5, .ref x_7), (0, .ref o1), (1, .int (nI n1)), (2, .int (nI n2)), (3, .int (nI 0)), (4, .ref o2)]) C (Nat.le_of_ble_eq_true rfl) rfl dL_near_23 ?_
  refine cg_iconst C (x := nI 3) rfl dL_near_25 ?_
  exact cg_iret C ⟨S1, hS1, S2, hS2, rfl, rfl⟩ dL_near_26 (by decide) (by decide)
set_option maxHeartbeats 4000000 in
set_option maxRecDepth 100000 in
theorem z275_X11_near (l : Launch) (hlt : l.stackTraces = false) (S : cS) (dp : Nat) (o1 : Nat) (n1 n2 : Nat) (h1 : n1 ≤ 1) (h2 : 21 ≤ n2) (h3 : n2 ≤ 2147483647) : cMetX "java/lang/IllegalArgumentException" (fun u_ => u_ = S) l yX11_near cX11_near 5 (some .int) 6 1 6 82 [.ref o1, .int (nI n1), .int (nI n2), .int (nI 0)] S dp := by
  intro D Y tp sz
  refine cg_bodyX (by decide +kernel) (Nat.le_of_ble_eq_true rfl) ?_
  intro p e s m args below meth c C hne
  generalize va_A (cWd Y S) sz = A at C ⊢
  have C : cC p s m args meth c cX11_near 5 (some .int) A D Y tp dp RX11 := C
  refine cg_lv (lv' := [(0, .ref o1), (1, .int (nI n1)), (2, .int (nI n2)), (3, .int (nI 0))]) rfl ?_
  refine cg_iload_n C (i := 1) rfl 1 rfl dX11_near_0 ?_
  refine cg_callsv C (z30_X11_checkField l hlt S dp n1 (by omega)) cc_X11_152 rfl ⟨by decide, by decide⟩ ⟨by decide, by decide⟩ rfl (Nat.le_of_ble_eq_true rfl) dX11_near_1 (fun u_1 h_1 => ?_)
  have hu_1 := h_1
  have hw_1 := hu_1.symm
  subst hw_1
  refine cg_iload_n C (i := 2) rfl 2 rfl dX11_near_4 ?_
  refine cg_iconst C (x := nI 1) rfl dX11_near_5 ?_
  refine cg_icmp_ltN C (by omega) (by omega) 15 (by decide) dX11_near_6 (fun c_ => absurd c_ (by omega)) (fun c_6 => ?_)
  refine cg_iload_n C (i := 2) rfl 2 rfl dX11_near_9 ?_
  refine cg_bipush C (x := nI 20) rfl dX11_near_10 ?_
  refine cg_icmp_leN C (by omega) (by omega) 26 (by decide) dX11_near_12 (fun c_ => absurd c_ (by omega)) (fun c_12 => ?_)
  exact cg_throw1W C hlt hne "the distance is out of range" ce_X11_100 cei_1 (by decide) dX11_near_15 dX11_near_18 dX11_near_19 dX11_near_22 dX11_near_25 (by decide) (by decide) ⟨by decide, by decide⟩ ⟨by decide, by decide⟩ rfl
set_option maxHeartbeats 4000000 in
set_option maxRecDepth 100000 in
theorem z276_L_near (l : Launch) (hlt : l.stackTraces = false) (S : cS) (dp : Nat) (o1 o2 : Nat) (n1 n2 : Nat) (h1 : n1 ≤ 1) (h2 : 21 ≤ n2) (h3 : n2 ≤ 2147483647) (h4 : o1 ∈ cL S) (h5 : cK S o1 = 11) : cMetW (cQi (fun r_ u_ => r_ = (nI 2) ∧ u_ = S)) l yL_near cL_near 6 (some .int) [(0, 12, 15, 28), (0, 12, 19, 13), (0, 12, 23, 15)] 7 1 6 106 [.ref o1, .int (nI n1), .int (nI n2), .int (nI 0), .ref o2] S dp := by
  intro D Y tp sz
  refine cg_bodyW (by decide +kernel) (Nat.le_of_ble_eq_true rfl) ?_
  intro p e s m args below meth c C htab
  generalize va_A (cWd Y S) sz = A at C ⊢
  have C : cC p s m args meth c cL_near 6 (some .int) A D Y tp dp RL := C
  refine cg_lv (lv' := [(0, .ref o1), (1, .int (nI n1)), (2, .int (nI n2)), (3, .int (nI 0)), (4, .ref o2)]) rfl ?_
  refine cg_aload C 4 rfl dL_near_0 ?_
  refine cg_iconst C (x := nI 0) rfl dL_near_2 ?_
  refine cg_aload_n C (i := 0) rfl 0 rfl dL_near_3 ?_
  refine cg_iload_n C (i := 1) rfl 1 rfl dL_near_4 ?_
  refine cg_iload_n C (i := 2) rfl 2 rfl dL_near_5 ?_
  refine cg_iload_n C (i := 3) rfl 3 rfl dL_near_6 ?_
  refine cg_callx_catch C htab (z275_X11_near l hlt S dp o1 n1 n2 (by omega) (by omega) (by omega)) cc_L_125 h4 h5 (by decide) rfl rfl ⟨by decide, by decide⟩ ⟨by decide, by decide⟩ rfl (Nat.le_of_ble_eq_true rfl) dL_near_7 (tableOf [(0, 12, 15, 28)]) ⟨0, 12, 19, 13⟩ (tableOf [(0, 12, 23, 15)]) rfl (fun z hz => by
        rcases List.mem_cons.mp hz with rfl | hz
        · exact ⟨by decide, "java/lang/IndexOutOfBoundsException", ce_L_28, by decide⟩
        exact nomatch hz) (by decide) (by decide) (name := "java/lang/IllegalArgumentException") ce_L_13 (by decide) 19 rfl (fun x_7 u_7 h_7 => ?_)
  have hu_7 := h_7
  have hw_7 := hu_7.symm
  subst hw_7
  refine cg_astore (lv' := [(5, .ref x_7), (0, .ref o1), (1, .int (nI n1)), (2, .int (nI n2)), (3, .int (nI 0)), (4, .ref o2)]) C (Nat.le_of_ble_eq_true rfl) rfl dL_near_19 ?_
  refine cg_iconst C (x := nI 2) rfl dL_near_21 ?_
  exact cg_iret C ⟨rfl, rfl⟩ dL_near_22 (by decide) (by decide)
set_option maxHeartbeats 4000000 in
set_option maxRecDepth 100000 in
theorem z277_X11_near (l : Launch) (hlt : l.stackTraces = false) (S : cS) (dp : Nat) (o1 : Nat) (n1 : Nat) (x1 : Int32) (h1 : 2 ≤ n1) (h2 : n1 ≤ 2147483647) : cMetX "java/lang/IndexOutOfBoundsException" (fun u_ => u_ = S) l yX11_near cX11_near 5 (some .int) 7 1 6 102 [.ref o1, .int (nI n1), .int x1, .int (nI 0)] S dp := by
  intro D Y tp sz
  refine cg_bodyX (by decide +kernel) (Nat.le_of_ble_eq_true rfl) ?_
  intro p e s m args below meth c C hne
  generalize va_A (cWd Y S) sz = A at C ⊢
  have C : cC p s m args meth c cX11_near 5 (some .int) A D Y tp dp RX11 := C
  refine cg_lv (lv' := [(0, .ref o1), (1, .int (nI n1)), (2, .int x1), (3, .int (nI 0))]) rfl ?_
  refine cg_iload_n C (i := 1) rfl 1 rfl dX11_near_0 ?_
  exact cg_callsx C hne (z40_X11_checkField l hlt S dp n1 (by omega) (by omega)) cc_X11_152 rfl ⟨by decide, by decide⟩ ⟨by decide, by decide⟩ rfl (Nat.le_of_ble_eq_true rfl) dX11_near_1 ⟨by decide, by decide⟩ (fun u_ h_ => by
      have hu_ := h_
      exact hu_)
set_option maxHeartbeats 4000000 in
set_option maxRecDepth 100000 in
theorem z278_L_near (l : Launch) (hlt : l.stackTraces = false) (S : cS) (dp : Nat) (o1 o2 : Nat) (n1 : Nat) (x1 : Int32) (h1 : 2 ≤ n1) (h2 : n1 ≤ 2147483647) (h3 : o1 ∈ cL S) (h4 : cK S o1 = 11) : cMetW (cQi (fun r_ u_ => r_ = (nI 1) ∧ u_ = S)) l yL_near cL_near 6 (some .int) [(0, 12, 15, 28), (0, 12, 19, 13), (0, 12, 23, 15)] 8 1 6 126 [.ref o1, .int (nI n1), .int x1, .int (nI 0), .ref o2] S dp := by
  intro D Y tp sz
  refine cg_bodyW (by decide +kernel) (Nat.le_of_ble_eq_true rfl) ?_
  intro p e s m args below meth c C htab
  generalize va_A (cWd Y S) sz = A at C ⊢
  have C : cC p s m args meth c cL_near 6 (some .int) A D Y tp dp RL := C
  refine cg_lv (lv' := [(0, .ref o1), (1, .int (nI n1)), (2, .int x1), (3, .int (nI 0)), (4, .ref o2)]) rfl ?_
  refine cg_aload C 4 rfl dL_near_0 ?_
  refine cg_iconst C (x := nI 0) rfl dL_near_2 ?_
  refine cg_aload_n C (i := 0) rfl 0 rfl dL_near_3 ?_
  refine cg_iload_n C (i := 1) rfl 1 rfl dL_near_4 ?_
  refine cg_iload_n C (i := 2) rfl 2 rfl dL_near_5 ?_
  refine cg_iload_n C (i := 3) rfl 3 rfl dL_near_6 ?_
  refine cg_callx_catch C htab (z277_X11_near l hlt S dp o1 n1 x1 (by omega) (by omega)) cc_L_125 h3 h4 (by decide) rfl rfl ⟨by decide, by decide⟩ ⟨by decide, by decide⟩ rfl (Nat.le_of_ble_eq_true rfl) dL_near_7 (tableOf []) ⟨0, 12, 15, 28⟩ (tableOf [(0, 12, 19, 13), (0, 12, 23, 15)]) rfl (fun z hz => nomatch hz) (by decide) (by decide) (name := "java/lang/IndexOutOfBoundsException") ce_L_28 (by decide) 15 rfl (fun x_7 u_7 h_7 => ?_)
  have hu_7 := h_7
  have hw_7 := hu_7.symm
  subst hw_7
  refine cg_astore (lv' := [(5, .ref x_7), (0, .ref o1), (1, .int (nI n1)), (2, .int x1), (3, .int (nI 0)), (4, .ref o2)]) C (Nat.le_of_ble_eq_true rfl) rfl dL_near_15 ?_
  refine cg_iconst C (x := nI 1) rfl dL_near_17 ?_
  exact cg_iret C ⟨rfl, rfl⟩ dL_near_18 (by decide) (by decide)
set_option maxHeartbeats 4000000 in
set_option maxRecDepth 100000 in
theorem z279_X11_near (l : Launch) (hlt : l.stackTraces = false) (S : cS) (dp : Nat) (o1 : Nat) (n1 : Nat) (x1 : Int32) (h1 : 2 ≤ n1) (h2 : n1 ≤ 2147483647) (h3 : x1 < 0) : cMetX "java/lang/IndexOutOfBoundsException" (fun u_ => u_ = S) l yX11_near cX11_near 5 (some .int) 7 1 6 102 [.ref o1, .int (nI n1), .int x1, .int (nI 0)] S dp := by
  intro D Y tp sz
  refine cg_bodyX (by decide +kernel) (Nat.le_of_ble_eq_true rfl) ?_
  intro p e s m args below meth c C hne
  generalize va_A (cWd Y S) sz = A at C ⊢
  have C : cC p s m args meth c cX11_near 5 (some .int) A D Y tp dp RX11 := C
  refine cg_lv (lv' := [(0, .ref o1), (1, .int (nI n1)), (2, .int x1), (3, .int (nI 0))]) rfl ?_
  refine cg_iload_n C (i := 1) rfl 1 rfl dX11_near_0 ?_
  exact cg_callsx C hne (z40_X11_checkField l hlt S dp n1 (by omega) (by omega)) cc_X11_152 rfl ⟨by decide, by decide⟩ ⟨by decide, by decide⟩ rfl (Nat.le_of_ble_eq_true rfl) dX11_near_1 ⟨by decide, by decide⟩ (fun u_ h_ => by
      have hu_ := h_
      exact hu_)
set_option maxHeartbeats 4000000 in
set_option maxRecDepth 100000 in
theorem z280_L_near (l : Launch) (hlt : l.stackTraces = false) (S : cS) (dp : Nat) (o1 o2 : Nat) (n1 : Nat) (x1 : Int32) (h1 : 2 ≤ n1) (h2 : n1 ≤ 2147483647) (h3 : x1 < 0) (h4 : o1 ∈ cL S) (h5 : cK S o1 = 11) : cMetW (cQi (fun r_ u_ => r_ = (nI 1) ∧ u_ = S)) l yL_near cL_near 6 (some .int) [(0, 12, 15, 28), (0, 12, 19, 13), (0, 12, 23, 15)] 8 1 6 126 [.ref o1, .int (nI n1), .int x1, .int (nI 0), .ref o2] S dp := by
  intro D Y tp sz
  refine cg_bodyW (by decide +kernel) (Nat.le_of_ble_eq_true rfl) ?_
  intro p e s m args below meth c C htab
  generalize va_A (cWd Y S) sz = A at C ⊢
  have C : cC p s m args meth c cL_near 6 (some .int) A D Y tp dp RL := C
  refine cg_lv (lv' := [(0, .ref o1), (1, .int (nI n1)), (2, .int x1), (3, .int (nI 0)), (4, .ref o2)]) rfl ?_
  refine cg_aload C 4 rfl dL_near_0 ?_
  refine cg_iconst C (x := nI 0) rfl dL_near_2 ?_
  refine cg_aload_n C (i := 0) rfl 0 rfl dL_near_3 ?_
  refine cg_iload_n C (i := 1) rfl 1 rfl dL_near_4 ?_
  refine cg_iload_n C (i := 2) rfl 2 rfl dL_near_5 ?_
  refine cg_iload_n C (i := 3) rfl 3 rfl dL_near_6 ?_
  refine cg_callx_catch C htab (z279_X11_near l hlt S dp o1 n1 x1 (by omega) (by omega) h3) cc_L_125 h4 h5 (by decide) rfl rfl ⟨by decide, by decide⟩ ⟨by decide, by decide⟩ rfl (Nat.le_of_ble_eq_true rfl) dL_near_7 (tableOf []) ⟨0, 12, 15, 28⟩ (tableOf [(0, 12, 19, 13), (0, 12, 23, 15)]) rfl (fun z hz => nomatch hz) (by decide) (by decide) (name := "java/lang/IndexOutOfBoundsException") ce_L_28 (by decide) 15 rfl (fun x_7 u_7 h_7 => ?_)
  have hu_7 := h_7
  have hw_7 := hu_7.symm
  subst hw_7
  refine cg_astore (lv' := [(5, .ref x_7), (0, .ref o1), (1, .int (nI n1)), (2, .int x1), (3, .int (nI 0)), (4, .ref o2)]) C (Nat.le_of_ble_eq_true rfl) rfl dL_near_15 ?_
  refine cg_iconst C (x := nI 1) rfl dL_near_17 ?_
  exact cg_iret C ⟨rfl, rfl⟩ dL_near_18 (by decide) (by decide)
set_option maxHeartbeats 4000000 in
set_option maxRecDepth 100000 in
theorem z281_X11_near (l : Launch) (hlt : l.stackTraces = false) (S : cS) (dp : Nat) (o1 : Nat) (n1 n2 : Nat) (h1 : 2 ≤ n1) (h2 : n1 ≤ 2147483647) (h3 : n2 ≤ 2147483647) : cMetX "java/lang/IndexOutOfBoundsException" (fun u_ => u_ = S) l yX11_near cX11_near 5 (some .int) 7 1 6 102 [.ref o1, .int (nI n1), .int (nI n2), .int (nI 0)] S dp := by
  intro D Y tp sz
  refine cg_bodyX (by decide +kernel) (Nat.le_of_ble_eq_true rfl) ?_
  intro p e s m args below meth c C hne
  generalize va_A (cWd Y S) sz = A at C ⊢
  have C : cC p s m args meth c cX11_near 5 (some .int) A D Y tp dp RX11 := C
  refine cg_lv (lv' := [(0, .ref o1), (1, .int (nI n1)), (2, .int (nI n2)), (3, .int (nI 0))]) rfl ?_
  refine cg_iload_n C (i := 1) rfl 1 rfl dX11_near_0 ?_
  exact cg_callsx C hne (z40_X11_checkField l hlt S dp n1 (by omega) (by omega)) cc_X11_152 rfl ⟨by decide, by decide⟩ ⟨by decide, by decide⟩ rfl (Nat.le_of_ble_eq_true rfl) dX11_near_1 ⟨by decide, by decide⟩ (fun u_ h_ => by
      have hu_ := h_
      exact hu_)
set_option maxHeartbeats 4000000 in
set_option maxRecDepth 100000 in
theorem z282_L_near (l : Launch) (hlt : l.stackTraces = false) (S : cS) (dp : Nat) (o1 o2 : Nat) (n1 n2 : Nat) (h1 : 2 ≤ n1) (h2 : n1 ≤ 2147483647) (h3 : n2 ≤ 2147483647) (h4 : o1 ∈ cL S) (h5 : cK S o1 = 11) : cMetW (cQi (fun r_ u_ => r_ = (nI 1) ∧ u_ = S)) l yL_near cL_near 6 (some .int) [(0, 12, 15, 28), (0, 12, 19, 13), (0, 12, 23, 15)] 8 1 6 126 [.ref o1, .int (nI n1), .int (nI n2), .int (nI 0), .ref o2] S dp := by
  intro D Y tp sz
  refine cg_bodyW (by decide +kernel) (Nat.le_of_ble_eq_true rfl) ?_
  intro p e s m args below meth c C htab
  generalize va_A (cWd Y S) sz = A at C ⊢
  have C : cC p s m args meth c cL_near 6 (some .int) A D Y tp dp RL := C
  refine cg_lv (lv' := [(0, .ref o1), (1, .int (nI n1)), (2, .int (nI n2)), (3, .int (nI 0)), (4, .ref o2)]) rfl ?_
  refine cg_aload C 4 rfl dL_near_0 ?_
  refine cg_iconst C (x := nI 0) rfl dL_near_2 ?_
  refine cg_aload_n C (i := 0) rfl 0 rfl dL_near_3 ?_
  refine cg_iload_n C (i := 1) rfl 1 rfl dL_near_4 ?_
  refine cg_iload_n C (i := 2) rfl 2 rfl dL_near_5 ?_
  refine cg_iload_n C (i := 3) rfl 3 rfl dL_near_6 ?_
  refine cg_callx_catch C htab (z281_X11_near l hlt S dp o1 n1 n2 (by omega) (by omega) (by omega)) cc_L_125 h4 h5 (by decide) rfl rfl ⟨by decide, by decide⟩ ⟨by decide, by decide⟩ rfl (Nat.le_of_ble_eq_true rfl) dL_near_7 (tableOf []) ⟨0, 12, 15, 28⟩ (tableOf [(0, 12, 19, 13), (0, 12, 23, 15)]) rfl (fun z hz => nomatch hz) (by decide) (by decide) (name := "java/lang/IndexOutOfBoundsException") ce_L_28 (by decide) 15 rfl (fun x_7 u_7 h_7 => ?_)
  have hu_7 := h_7
  have hw_7 := hu_7.symm
  subst hw_7
  refine cg_astore (lv' := [(5, .ref x_7), (0, .ref o1), (1, .int (nI n1)), (2, .int (nI n2)), (3, .int (nI 0)), (4, .ref o2)]) C (Nat.le_of_ble_eq_true rfl) rfl dL_near_15 ?_
  refine cg_iconst C (x := nI 1) rfl dL_near_17 ?_
  exact cg_iret C ⟨rfl, rfl⟩ dL_near_18 (by decide) (by decide)
set_option maxHeartbeats 4000000 in
set_option maxRecDepth 100000 in
theorem z283_X11_near (l : Launch) (hlt : l.stackTraces = false) (S : cS) (dp : Nat) (o1 : Nat) (n1 : Nat) (h1 : 2 ≤ n1) (h2 : n1 ≤ 2147483647) : cMetX "java/lang/IndexOutOfBoundsException" (fun u_ => u_ = S) l yX11_near cX11_near 5 (some .int) 7 1 6 102 [.ref o1, .int (nI n1), .int (nI 0), .int (nI 0)] S dp := by
  intro D Y tp sz
  refine cg_bodyX (by decide +kernel) (Nat.le_of_ble_eq_true rfl) ?_
  intro p e s m args below meth c C hne
  generalize va_A (cWd Y S) sz = A at C ⊢
  have C : cC p s m args meth c cX11_near 5 (some .int) A D Y tp dp RX11 := C
  refine cg_lv (lv' := [(0, .ref o1), (1, .int (nI n1)), (2, .int (nI 0)), (3, .int (nI 0))]) rfl ?_
  refine cg_iload_n C (i := 1) rfl 1 rfl dX11_near_0 ?_
  exact cg_callsx C hne (z40_X11_checkField l hlt S dp n1 (by omega) (by omega)) cc_X11_152 rfl ⟨by decide, by decide⟩ ⟨by decide, by decide⟩ rfl (Nat.le_of_ble_eq_true rfl) dX11_near_1 ⟨by decide, by decide⟩ (fun u_ h_ => by
      have hu_ := h_
      exact hu_)
set_option maxHeartbeats 4000000 in
set_option maxRecDepth 100000 in
theorem z284_L_near (l : Launch) (hlt : l.stackTraces = false) (S : cS) (dp : Nat) (o1 o2 : Nat) (n1 : Nat) (h1 : 2 ≤ n1) (h2 : n1 ≤ 2147483647) (h3 : o1 ∈ cL S) (h4 : cK S o1 = 11) : cMetW (cQi (fun r_ u_ => r_ = (nI 1) ∧ u_ = S)) l yL_near cL_near 6 (some .int) [(0, 12, 15, 28), (0, 12, 19, 13), (0, 12, 23, 15)] 8 1 6 126 [.ref o1, .int (nI n1), .int (nI 0), .int (nI 0), .ref o2] S dp := by
  intro D Y tp sz
  refine cg_bodyW (by decide +kernel) (Nat.le_of_ble_eq_true rfl) ?_
  intro p e s m args below meth c C htab
  generalize va_A (cWd Y S) sz = A at C ⊢
  have C : cC p s m args meth c cL_near 6 (some .int) A D Y tp dp RL := C
  refine cg_lv (lv' := [(0, .ref o1), (1, .int (nI n1)), (2, .int (nI 0)), (3, .int (nI 0)), (4, .ref o2)]) rfl ?_
  refine cg_aload C 4 rfl dL_near_0 ?_
  refine cg_iconst C (x := nI 0) rfl dL_near_2 ?_
  refine cg_aload_n C (i := 0) rfl 0 rfl dL_near_3 ?_
  refine cg_iload_n C (i := 1) rfl 1 rfl dL_near_4 ?_
  refine cg_iload_n C (i := 2) rfl 2 rfl dL_near_5 ?_
  refine cg_iload_n C (i := 3) rfl 3 rfl dL_near_6 ?_
  refine cg_callx_catch C htab (z283_X11_near l hlt S dp o1 n1 (by omega) (by omega)) cc_L_125 h3 h4 (by decide) rfl rfl ⟨by decide, by decide⟩ ⟨by decide, by decide⟩ rfl (Nat.le_of_ble_eq_true rfl) dL_near_7 (tableOf []) ⟨0, 12, 15, 28⟩ (tableOf [(0, 12, 19, 13), (0, 12, 23, 15)]) rfl (fun z hz => nomatch hz) (by decide) (by decide) (name := "java/lang/IndexOutOfBoundsException") ce_L_28 (by decide) 15 rfl (fun x_7 u_7 h_7 => ?_)
  have hu_7 := h_7
  have hw_7 := hu_7.symm
  subst hw_7
  refine cg_astore (lv' := [(5, .ref x_7), (0, .ref o1), (1, .int (nI n1)), (2, .int (nI 0)), (3, .int (nI 0)), (4, .ref o2)]) C (Nat.le_of_ble_eq_true rfl) rfl dL_near_15 ?_
  refine cg_iconst C (x := nI 1) rfl dL_near_17 ?_
  exact cg_iret C ⟨rfl, rfl⟩ dL_near_18 (by decide) (by decide)
set_option maxHeartbeats 4000000 in
set_option maxRecDepth 100000 in
theorem z285_X11_near (l : Launch) (hlt : l.stackTraces = false) (S : cS) (dp : Nat) (o1 : Nat) (n1 n2 : Nat) (h1 : 2 ≤ n1) (h2 : n1 ≤ 2147483647) (h3 : 1 ≤ n2) (h4 : n2 ≤ 2147483647) : cMetX "java/lang/IndexOutOfBoundsException" (fun u_ => u_ = S) l yX11_near cX11_near 5 (some .int) 7 1 6 102 [.ref o1, .int (nI n1), .int (nI n2), .int (nI 0)] S dp := by
  intro D Y tp sz
  refine cg_bodyX (by decide +kernel) (Nat.le_of_ble_eq_true rfl) ?_
  intro p e s m args below meth c C hne
  generalize va_A (cWd Y S) sz = A at C ⊢
  have C : cC p s m args meth c cX11_near 5 (some .int) A D Y tp dp RX11 := C
  refine cg_lv (lv' := [(0, .ref o1), (1, .int (nI n1)), (2, .int (nI n2)), (3, .int (nI 0))]) rfl ?_
  refine cg_iload_n C (i := 1) rfl 1 rfl dX11_near_0 ?_
  exact cg_callsx C hne (z40_X11_checkField l hlt S dp n1 (by omega) (by omega)) cc_X11_152 rfl ⟨by decide, by decide⟩ ⟨by decide, by decide⟩ rfl (Nat.le_of_ble_eq_true rfl) dX11_near_1 ⟨by decide, by decide⟩ (fun u_ h_ => by
      have hu_ := h_
      exact hu_)
set_option maxHeartbeats 4000000 in
set_option maxRecDepth 100000 in
theorem z286_L_near (l : Launch) (hlt : l.stackTraces = false) (S : cS) (dp : Nat) (o1 o2 : Nat) (n1 n2 : Nat) (h1 : 2 ≤ n1) (h2 : n1 ≤ 2147483647) (h3 : 1 ≤ n2) (h4 : n2 ≤ 2147483647) (h5 : o1 ∈ cL S) (h6 : cK S o1 = 11) : cMetW (cQi (fun r_ u_ => r_ = (nI 1) ∧ u_ = S)) l yL_near cL_near 6 (some .int) [(0, 12, 15, 28), (0, 12, 19, 13), (0, 12, 23, 15)] 8 1 6 126 [.ref o1, .int (nI n1), .int (nI n2), .int (nI 0), .ref o2] S dp := by
  intro D Y tp sz
  refine cg_bodyW (by decide +kernel) (Nat.le_of_ble_eq_true rfl) ?_
  intro p e s m args below meth c C htab
  generalize va_A (cWd Y S) sz = A at C ⊢
  have C : cC p s m args meth c cL_near 6 (some .int) A D Y tp dp RL := C
  refine cg_lv (lv' := [(0, .ref o1), (1, .int (nI n1)), (2, .int (nI n2)), (3, .int (nI 0)), (4, .ref o2)]) rfl ?_
  refine cg_aload C 4 rfl dL_near_0 ?_
  refine cg_iconst C (x := nI 0) rfl dL_near_2 ?_
  refine cg_aload_n C (i := 0) rfl 0 rfl dL_near_3 ?_
  refine cg_iload_n C (i := 1) rfl 1 rfl dL_near_4 ?_
  refine cg_iload_n C (i := 2) rfl 2 rfl dL_near_5 ?_
  refine cg_iload_n C (i := 3) rfl 3 rfl dL_near_6 ?_
  refine cg_callx_catch C htab (z285_X11_near l hlt S dp o1 n1 n2 (by omega) (by omega) (by omega) (by omega)) cc_L_125 h5 h6 (by decide) rfl rfl ⟨by decide, by decide⟩ ⟨by decide, by decide⟩ rfl (Nat.le_of_ble_eq_true rfl) dL_near_7 (tableOf []) ⟨0, 12, 15, 28⟩ (tableOf [(0, 12, 19, 13), (0, 12, 23, 15)]) rfl (fun z hz => nomatch hz) (by decide) (by decide) (name := "java/lang/IndexOutOfBoundsException") ce_L_28 (by decide) 15 rfl (fun x_7 u_7 h_7 => ?_)
  have hu_7 := h_7
  have hw_7 := hu_7.symm
  subst hw_7
  refine cg_astore (lv' := [(5, .ref x_7), (0, .ref o1), (1, .int (nI n1)), (2, .int (nI n2)), (3, .int (nI 0)), (4, .ref o2)]) C (Nat.le_of_ble_eq_true rfl) rfl dL_near_15 ?_
  refine cg_iconst C (x := nI 1) rfl dL_near_17 ?_
  exact cg_iret C ⟨rfl, rfl⟩ dL_near_18 (by decide) (by decide)
set_option maxHeartbeats 4000000 in
set_option maxRecDepth 100000 in
theorem z287_X11_near (l : Launch) (hlt : l.stackTraces = false) (S : cS) (dp : Nat) (o1 : Nat) (n1 n2 : Nat) (h1 : 2 ≤ n1) (h2 : n1 ≤ 2147483647) (h3 : 1 ≤ n2) (h4 : n2 ≤ 20) : cMetX "java/lang/IndexOutOfBoundsException" (fun u_ => u_ = S) l yX11_near cX11_near 5 (some .int) 7 1 6 102 [.ref o1, .int (nI n1), .int (nI n2), .int (nI 0)] S dp := by
  intro D Y tp sz
  refine cg_bodyX (by decide +kernel) (Nat.le_of_ble_eq_true rfl) ?_
  intro p e s m args below meth c C hne
  generalize va_A (cWd Y S) sz = A at C ⊢
  have C : cC p s m args meth c cX11_near 5 (some .int) A D Y tp dp RX11 := C
  refine cg_lv (lv' := [(0, .ref o1), (1, .int (nI n1)), (2, .int (nI n2)), (3, .int (nI 0))]) rfl ?_
  refine cg_iload_n C (i := 1) rfl 1 rfl dX11_near_0 ?_
  exact cg_callsx C hne (z40_X11_checkField l hlt S dp n1 (by omega) (by omega)) cc_X11_152 rfl ⟨by decide, by decide⟩ ⟨by decide, by decide⟩ rfl (Nat.le_of_ble_eq_true rfl) dX11_near_1 ⟨by decide, by decide⟩ (fun u_ h_ => by
      have hu_ := h_
      exact hu_)
set_option maxHeartbeats 4000000 in
set_option maxRecDepth 100000 in
theorem z288_L_near (l : Launch) (hlt : l.stackTraces = false) (S : cS) (dp : Nat) (o1 o2 : Nat) (n1 n2 : Nat) (h1 : 2 ≤ n1) (h2 : n1 ≤ 2147483647) (h3 : 1 ≤ n2) (h4 : n2 ≤ 20) (h5 : o1 ∈ cL S) (h6 : cK S o1 = 11) : cMetW (cQi (fun r_ u_ => r_ = (nI 1) ∧ u_ = S)) l yL_near cL_near 6 (some .int) [(0, 12, 15, 28), (0, 12, 19, 13), (0, 12, 23, 15)] 8 1 6 126 [.ref o1, .int (nI n1), .int (nI n2), .int (nI 0), .ref o2] S dp := by
  intro D Y tp sz
  refine cg_bodyW (by decide +kernel) (Nat.le_of_ble_eq_true rfl) ?_
  intro p e s m args below meth c C htab
  generalize va_A (cWd Y S) sz = A at C ⊢
  have C : cC p s m args meth c cL_near 6 (some .int) A D Y tp dp RL := C
  refine cg_lv (lv' := [(0, .ref o1), (1, .int (nI n1)), (2, .int (nI n2)), (3, .int (nI 0)), (4, .ref o2)]) rfl ?_
  refine cg_aload C 4 rfl dL_near_0 ?_
  refine cg_iconst C (x := nI 0) rfl dL_near_2 ?_
  refine cg_aload_n C (i := 0) rfl 0 rfl dL_near_3 ?_
  refine cg_iload_n C (i := 1) rfl 1 rfl dL_near_4 ?_
  refine cg_iload_n C (i := 2) rfl 2 rfl dL_near_5 ?_
  refine cg_iload_n C (i := 3) rfl 3 rfl dL_near_6 ?_
  refine cg_callx_catch C htab (z287_X11_near l hlt S dp o1 n1 n2 (by omega) (by omega) (by omega) (by omega)) cc_L_125 h5 h6 (by decide) rfl rfl ⟨by decide, by decide⟩ ⟨by decide, by decide⟩ rfl (Nat.le_of_ble_eq_true rfl) dL_near_7 (tableOf []) ⟨0, 12, 15, 28⟩ (tableOf [(0, 12, 19, 13), (0, 12, 23, 15)]) rfl (fun z hz => nomatch hz) (by decide) (by decide) (name := "java/lang/IndexOutOfBoundsException") ce_L_28 (by decide) 15 rfl (fun x_7 u_7 h_7 => ?_)
  have hu_7 := h_7
  have hw_7 := hu_7.symm
  subst hw_7
  refine cg_astore (lv' := [(5, .ref x_7), (0, .ref o1), (1, .int (nI n1)), (2, .int (nI n2)), (3, .int (nI 0)), (4, .ref o2)]) C (Nat.le_of_ble_eq_true rfl) rfl dL_near_15 ?_
  refine cg_iconst C (x := nI 1) rfl dL_near_17 ?_
  exact cg_iret C ⟨rfl, rfl⟩ dL_near_18 (by decide) (by decide)
set_option maxHeartbeats 4000000 in
set_option maxRecDepth 100000 in
theorem z289_X11_near (l : Launch) (hlt : l.stackTraces = false) (S : cS) (dp : Nat) (o1 : Nat) (n1 n2 : Nat) (h1 : 2 ≤ n1) (h2 : n1 ≤ 2147483647) (h3 : 21 ≤ n2) (h4 : n2 ≤ 2147483647) : cMetX "java/lang/IndexOutOfBoundsException" (fun u_ => u_ = S) l yX11_near cX11_near 5 (some .int) 7 1 6 102 [.ref o1, .int (nI n1), .int (nI n2), .int (nI 0)] S dp := by
  intro D Y tp sz
  refine cg_bodyX (by decide +kernel) (Nat.le_of_ble_eq_true rfl) ?_
  intro p e s m args below meth c C hne
  generalize va_A (cWd Y S) sz = A at C ⊢
  have C : cC p s m args meth c cX11_near 5 (some .int) A D Y tp dp RX11 := C
  refine cg_lv (lv' := [(0, .ref o1), (1, .int (nI n1)), (2, .int (nI n2)), (3, .int (nI 0))]) rfl ?_
  refine cg_iload_n C (i := 1) rfl 1 rfl dX11_near_0 ?_
  exact cg_callsx C hne (z40_X11_checkField l hlt S dp n1 (by omega) (by omega)) cc_X11_152 rfl ⟨by decide, by decide⟩ ⟨by decide, by decide⟩ rfl (Nat.le_of_ble_eq_true rfl) dX11_near_1 ⟨by decide, by decide⟩ (fun u_ h_ => by
      have hu_ := h_
      exact hu_)
set_option maxHeartbeats 4000000 in
set_option maxRecDepth 100000 in
theorem z290_L_near (l : Launch) (hlt : l.stackTraces = false) (S : cS) (dp : Nat) (o1 o2 : Nat) (n1 n2 : Nat) (h1 : 2 ≤ n1) (h2 : n1 ≤ 2147483647) (h3 : 21 ≤ n2) (h4 : n2 ≤ 2147483647) (h5 : o1 ∈ cL S) (h6 : cK S o1 = 11) : cMetW (cQi (fun r_ u_ => r_ = (nI 1) ∧ u_ = S)) l yL_near cL_near 6 (some .int) [(0, 12, 15, 28), (0, 12, 19, 13), (0, 12, 23, 15)] 8 1 6 126 [.ref o1, .int (nI n1), .int (nI n2), .int (nI 0), .ref o2] S dp := by
  intro D Y tp sz
  refine cg_bodyW (by decide +kernel) (Nat.le_of_ble_eq_true rfl) ?_
  intro p e s m args below meth c C htab
  generalize va_A (cWd Y S) sz = A at C ⊢
  have C : cC p s m args meth c cL_near 6 (some .int) A D Y tp dp RL := C
  refine cg_lv (lv' := [(0, .ref o1), (1, .int (nI n1)), (2, .int (nI n2)), (3, .int (nI 0)), (4, .ref o2)]) rfl ?_
  refine cg_aload C 4 rfl dL_near_0 ?_
  refine cg_iconst C (x := nI 0) rfl dL_near_2 ?_
  refine cg_aload_n C (i := 0) rfl 0 rfl dL_near_3 ?_
  refine cg_iload_n C (i := 1) rfl 1 rfl dL_near_4 ?_
  refine cg_iload_n C (i := 2) rfl 2 rfl dL_near_5 ?_
  refine cg_iload_n C (i := 3) rfl 3 rfl dL_near_6 ?_
  refine cg_callx_catch C htab (z289_X11_near l hlt S dp o1 n1 n2 (by omega) (by omega) (by omega) (by omega)) cc_L_125 h5 h6 (by decide) rfl rfl ⟨by decide, by decide⟩ ⟨by decide, by decide⟩ rfl (Nat.le_of_ble_eq_true rfl) dL_near_7 (tableOf []) ⟨0, 12, 15, 28⟩ (tableOf [(0, 12, 19, 13), (0, 12, 23, 15)]) rfl (fun z hz => nomatch hz) (by decide) (by decide) (name := "java/lang/IndexOutOfBoundsException") ce_L_28 (by decide) 15 rfl (fun x_7 u_7 h_7 => ?_)
  have hu_7 := h_7
  have hw_7 := hu_7.symm
  subst hw_7
  refine cg_astore (lv' := [(5, .ref x_7), (0, .ref o1), (1, .int (nI n1)), (2, .int (nI n2)), (3, .int (nI 0)), (4, .ref o2)]) C (Nat.le_of_ble_eq_true rfl) rfl dL_near_15 ?_
  refine cg_iconst C (x := nI 1) rfl dL_near_17 ?_
  exact cg_iret C ⟨rfl, rfl⟩ dL_near_18 (by decide) (by decide)
set_option maxHeartbeats 4000000 in
set_option maxRecDepth 100000 in
theorem z291_X11_prefix (l : Launch) (hlt : l.stackTraces = false) (S : cS) (dp : Nat) (o1 : Nat) (x1 : Int32) (h1 : x1 < 0) : cMetX "java/lang/IndexOutOfBoundsException" (fun u_ => u_ = S) l yX11_prefix cX11_prefix 2 (some .int) 7 1 6 102 [.ref o1, .int x1] S dp := by
  intro D Y tp sz
  refine cg_bodyX (by decide +kernel) (Nat.le_of_ble_eq_true rfl) ?_
  intro p e s m args below meth c C hne
  generalize va_A (cWd Y S) sz = A at C ⊢
  have C : cC p s m args meth c cX11_prefix 2 (some .int) A D Y tp dp RX11 := C
  refine cg_lv (lv' := [(0, .ref o1), (1, .int x1)]) rfl ?_
  refine cg_iload_n C (i := 1) rfl 1 rfl dX11_prefix_0 ?_
  exact cg_callsx C hne (z27_X11_checkField l hlt S dp x1 h1) cc_X11_152 rfl ⟨by decide, by decide⟩ ⟨by decide, by decide⟩ rfl (Nat.le_of_ble_eq_true rfl) dX11_prefix_1 ⟨by decide, by decide⟩ (fun u_ h_ => by
      have hu_ := h_
      exact hu_)
set_option maxHeartbeats 4000000 in
set_option maxRecDepth 100000 in
theorem z292_L_prefix (l : Launch) (hlt : l.stackTraces = false) (S : cS) (dp : Nat) (o1 o2 : Nat) (x1 : Int32) (h1 : x1 < 0) (h2 : o1 ∈ cL S) (h3 : cK S o1 = 11) : cMetW (cQi (fun r_ u_ => r_ = (nI 1) ∧ u_ = S)) l yL_prefix cL_prefix 4 (some .int) [(0, 9, 12, 28), (0, 9, 15, 15)] 8 1 6 123 [.ref o1, .int x1, .ref o2] S dp := by
  intro D Y tp sz
  refine cg_bodyW (by decide +kernel) (Nat.le_of_ble_eq_true rfl) ?_
  intro p e s m args below meth c C htab
  generalize va_A (cWd Y S) sz = A at C ⊢
  have C : cC p s m args meth c cL_prefix 4 (some .int) A D Y tp dp RL := C
  refine cg_lv (lv' := [(0, .ref o1), (1, .int x1), (2, .ref o2)]) rfl ?_
  refine cg_aload_n C (i := 2) rfl 2 rfl dL_prefix_0 ?_
  refine cg_iconst C (x := nI 0) rfl dL_prefix_1 ?_
  refine cg_aload_n C (i := 0) rfl 0 rfl dL_prefix_2 ?_
  refine cg_iload_n C (i := 1) rfl 1 rfl dL_prefix_3 ?_
  refine cg_callx_catch C htab (z291_X11_prefix l hlt S dp o1 x1 h1) cc_L_129 h2 h3 (by decide) rfl rfl ⟨by decide, by decide⟩ ⟨by decide, by decide⟩ rfl (Nat.le_of_ble_eq_true rfl) dL_prefix_4 (tableOf []) ⟨0, 9, 12, 28⟩ (tableOf [(0, 9, 15, 15)]) rfl (fun z hz => nomatch hz) (by decide) (by decide) (name := "java/lang/IndexOutOfBoundsException") ce_L_28 (by decide) 12 rfl (fun x_4 u_4 h_4 => ?_)
  have hu_4 := h_4
  have hw_4 := hu_4.symm
  subst hw_4
  refine cg_astore_n (lv' := [(3, .ref x_4), (0, .ref o1), (1, .int x1), (2, .ref o2)]) C (i := 3) rfl (Nat.le_of_ble_eq_true rfl) rfl dL_prefix_12 ?_
  refine cg_iconst C (x := nI 1) rfl dL_prefix_13 ?_
  exact cg_iret C ⟨rfl, rfl⟩ dL_prefix_14 (by decide) (by decide)
set_option maxHeartbeats 4000000 in
set_option maxRecDepth 100000 in
theorem z293_X11_prefix (l : Launch) (hlt : l.stackTraces = false) (S : cS) (dp : Nat) (o1 o2 o3 : Nat) (n1 : Nat) (h1 : n1 ≤ 1) (h2 : cr S 352 o1 = (some o2)) (h3 : cK S o1 = 11) (h4 : o1 ∈ cL S) (h5 : cr S 96 o2 = (some o3)) (h6 : cK S o2 = 3) (h7 : o2 ∈ cL S) (h8 : ci S 289 o3 = (nI 0)) (h9 : cK S o3 = 9) (h10 : o3 ∈ cL S) : cMetX "java/lang/IllegalStateException" (fun u_ => ∃ (S1 : cS), S1 = cSi S 98 o2 (nI 0) ∧ u_ = S1) l yX11_prefix cX11_prefix 2 (some .int) 7 1 6 103 [.ref o1, .int (nI n1)] S dp := by
  intro D Y tp sz
  refine cg_bodyX (by decide +kernel) (Nat.le_of_ble_eq_true rfl) ?_
  intro p e s m args below meth c C hne
  generalize va_A (cWd Y S) sz = A at C ⊢
  have C : cC p s m args meth c cX11_prefix 2 (some .int) A D Y tp dp RX11 := C
  refine cg_lv (lv' := [(0, .ref o1), (1, .int (nI n1))]) rfl ?_
  refine cg_iload_n C (i := 1) rfl 1 rfl dX11_prefix_0 ?_
  refine cg_callsv C (z30_X11_checkField l hlt S dp n1 (by omega)) cc_X11_152 rfl ⟨by decide, by decide⟩ ⟨by decide, by decide⟩ rfl (Nat.le_of_ble_eq_true rfl) dX11_prefix_1 (fun u_1 h_1 => ?_)
  have hu_1 := h_1
  have hw_1 := hu_1.symm
  subst hw_1
  refine cg_aload_n C (i := 0) rfl 0 rfl dX11_prefix_4 ?_
  refine cg_aload_n C (i := 0) rfl 0 rfl dX11_prefix_5 ?_
  refine cg_get C (k := 11) (j := 0) (.ref o2) h4 h3 (by decide) rfl (by decide) rfl (show cV _ 11 0 o1 = _ from congrArg va_rf h2) cWs_wsX110 cl_X11_10 rfl dX11_prefix_6 ?_
  refine cg_calli C (z22_X3_readPad l hlt S dp o2 o3 h5 h6 h7 h8 h9 h10) cc_X11_129 h7 h6 (by decide) rfl rfl ⟨by decide, by decide⟩ ⟨by decide, by decide⟩ rfl (Nat.le_of_ble_eq_true rfl) dX11_prefix_9 (fun r_9 u_9 h_9 => ?_)
  obtain ⟨S1, hS1, hr_9, hu_9⟩ := h_9
  have hw_9 := hu_9.symm
  subst hw_9
  have hx_9 := hr_9.symm
  subst hx_9
  refine cg_iconst C (x := nI 1) rfl dX11_prefix_12 ?_
  refine cg_icmp_neN C (by omega) (by omega) 20 (by decide) dX11_prefix_13 (fun c_13 => ?_) (fun c_ => absurd c_ (by omega))
  refine cg_iconst C (x := nI 0) rfl dX11_prefix_20 ?_
  exact cg_callx C hne (z188_X11_checkLeaf l hlt S1 dp o1) cc_X11_327 (hm_Si hS1 h4) (hk_Si hS1 h3) (by decide) rfl rfl ⟨by decide, by decide⟩ ⟨by decide, by decide⟩ rfl (Nat.le_of_ble_eq_true rfl) dX11_prefix_21 ⟨by decide, by decide⟩ (fun u_ h_ => by
      have hu_ := h_
      exact ⟨S1, hS1, hu_⟩)
set_option maxHeartbeats 4000000 in
set_option maxRecDepth 100000 in
theorem z294_L_prefix (l : Launch) (hlt : l.stackTraces = false) (S : cS) (dp : Nat) (o1 o2 o3 o4 : Nat) (n1 : Nat) (h1 : n1 ≤ 1) (h2 : cr S 352 o1 = (some o3)) (h3 : cK S o1 = 11) (h4 : o1 ∈ cL S) (h5 : cr S 96 o3 = (some o4)) (h6 : cK S o3 = 3) (h7 : o3 ∈ cL S) (h8 : ci S 289 o4 = (nI 0)) (h9 : cK S o4 = 9) (h10 : o4 ∈ cL S) : cMetW (cQi (fun r_ u_ => ∃ (S1 : cS), S1 = cSi S 98 o3 (nI 0) ∧ r_ = (nI 2) ∧ u_ = S1)) l yL_prefix cL_prefix 4 (some .int) [(0, 9, 12, 28), (0, 9, 15, 15)] 8 1 6 124 [.ref o1, .int (nI n1), .ref o2] S dp := by
  intro D Y tp sz
  refine cg_bodyW (by decide +kernel) (Nat.le_of_ble_eq_true rfl) ?_
  intro p e s m args below meth c C htab
  generalize va_A (cWd Y S) sz = A at C ⊢
  have C : cC p s m args meth c cL_prefix 4 (some .int) A D Y tp dp RL := C
  refine cg_lv (lv' := [(0, .ref o1), (1, .int (nI n1)), (2, .ref o2)]) rfl ?_
  refine cg_aload_n C (i := 2) rfl 2 rfl dL_prefix_0 ?_
  refine cg_iconst C (x := nI 0) rfl dL_prefix_1 ?_
  refine cg_aload_n C (i := 0) rfl 0 rfl dL_prefix_2 ?_
  refine cg_iload_n C (i := 1) rfl 1 rfl dL_prefix_3 ?_
  refine cg_callx_catch C htab (z293_X11_prefix l hlt S dp o1 o3 o4 n1 (by omega) h2 h3 h4 h5 h6 h7 h8 h9 h10) cc_L_129 h4 h3 (by decide) rfl rfl ⟨by decide, by decide⟩ ⟨by decide, by decide⟩ rfl (Nat.le_of_ble_eq_true rfl) dL_prefix_4 (tableOf [(0, 9, 12, 28)]) ⟨0, 9, 15, 15⟩ (tableOf []) rfl (fun z hz => by
        rcases List.mem_cons.mp hz with rfl | hz
        · exact ⟨by decide, "java/lang/IndexOutOfBoundsException", ce_L_28, by decide⟩
        exact nomatch hz) (by decide) (by decide) (name := "java/lang/IllegalStateException") ce_L_15 (by decide) 15 rfl (fun x_4 u_4 h_4 => ?_)
  obtain ⟨S1, hS1, hu_4⟩ := h_4
  have hw_4 := hu_4.symm
  subst hw_4
  refine cg_astore_n (lv' := [(3, .ref x_4), (0, .ref o1), (1, .int (nI n1)), (2, .ref o2)]) C (i := 3) rfl (Nat.le_of_ble_eq_true rfl) rfl dL_prefix_15 ?_
  refine cg_iconst C (x := nI 2) rfl dL_prefix_16 ?_
  exact cg_iret C ⟨S1, hS1, rfl, rfl⟩ dL_prefix_17 (by decide) (by decide)
set_option maxHeartbeats 4000000 in
set_option maxRecDepth 100000 in
theorem z295_X11_prefix (l : Launch) (hlt : l.stackTraces = false) (S : cS) (dp : Nat) (o1 : Nat) (n1 : Nat) (h1 : 2 ≤ n1) (h2 : n1 ≤ 2147483647) : cMetX "java/lang/IndexOutOfBoundsException" (fun u_ => u_ = S) l yX11_prefix cX11_prefix 2 (some .int) 7 1 6 102 [.ref o1, .int (nI n1)] S dp := by
  intro D Y tp sz
  refine cg_bodyX (by decide +kernel) (Nat.le_of_ble_eq_true rfl) ?_
  intro p e s m args below meth c C hne
  generalize va_A (cWd Y S) sz = A at C ⊢
  have C : cC p s m args meth c cX11_prefix 2 (some .int) A D Y tp dp RX11 := C
  refine cg_lv (lv' := [(0, .ref o1), (1, .int (nI n1))]) rfl ?_
  refine cg_iload_n C (i := 1) rfl 1 rfl dX11_prefix_0 ?_
  exact cg_callsx C hne (z40_X11_checkField l hlt S dp n1 (by omega) (by omega)) cc_X11_152 rfl ⟨by decide, by decide⟩ ⟨by decide, by decide⟩ rfl (Nat.le_of_ble_eq_true rfl) dX11_prefix_1 ⟨by decide, by decide⟩ (fun u_ h_ => by
      have hu_ := h_
      exact hu_)
set_option maxHeartbeats 4000000 in
set_option maxRecDepth 100000 in
theorem z296_L_prefix (l : Launch) (hlt : l.stackTraces = false) (S : cS) (dp : Nat) (o1 o2 : Nat) (n1 : Nat) (h1 : 2 ≤ n1) (h2 : n1 ≤ 2147483647) (h3 : o1 ∈ cL S) (h4 : cK S o1 = 11) : cMetW (cQi (fun r_ u_ => r_ = (nI 1) ∧ u_ = S)) l yL_prefix cL_prefix 4 (some .int) [(0, 9, 12, 28), (0, 9, 15, 15)] 8 1 6 123 [.ref o1, .int (nI n1), .ref o2] S dp := by
  intro D Y tp sz
  refine cg_bodyW (by decide +kernel) (Nat.le_of_ble_eq_true rfl) ?_
  intro p e s m args below meth c C htab
  generalize va_A (cWd Y S) sz = A at C ⊢
  have C : cC p s m args meth c cL_prefix 4 (some .int) A D Y tp dp RL := C
  refine cg_lv (lv' := [(0, .ref o1), (1, .int (nI n1)), (2, .ref o2)]) rfl ?_
  refine cg_aload_n C (i := 2) rfl 2 rfl dL_prefix_0 ?_
  refine cg_iconst C (x := nI 0) rfl dL_prefix_1 ?_
  refine cg_aload_n C (i := 0) rfl 0 rfl dL_prefix_2 ?_
  refine cg_iload_n C (i := 1) rfl 1 rfl dL_prefix_3 ?_
  refine cg_callx_catch C htab (z295_X11_prefix l hlt S dp o1 n1 (by omega) (by omega)) cc_L_129 h3 h4 (by decide) rfl rfl ⟨by decide, by decide⟩ ⟨by decide, by decide⟩ rfl (Nat.le_of_ble_eq_true rfl) dL_prefix_4 (tableOf []) ⟨0, 9, 12, 28⟩ (tableOf [(0, 9, 15, 15)]) rfl (fun z hz => nomatch hz) (by decide) (by decide) (name := "java/lang/IndexOutOfBoundsException") ce_L_28 (by decide) 12 rfl (fun x_4 u_4 h_4 => ?_)
  have hu_4 := h_4
  have hw_4 := hu_4.symm
  subst hw_4
  refine cg_astore_n (lv' := [(3, .ref x_4), (0, .ref o1), (1, .int (nI n1)), (2, .ref o2)]) C (i := 3) rfl (Nat.le_of_ble_eq_true rfl) rfl dL_prefix_12 ?_
  refine cg_iconst C (x := nI 1) rfl dL_prefix_13 ?_
  exact cg_iret C ⟨rfl, rfl⟩ dL_prefix_14 (by decide) (by decide)
set_option maxHeartbeats 4000000 in
set_option maxRecDepth 100000 in
theorem z297_X11_wild (l : Launch) (hlt : l.stackTraces = false) (S : cS) (dp : Nat) (o1 : Nat) (x1 : Int32) (h1 : x1 < 0) : cMetX "java/lang/IndexOutOfBoundsException" (fun u_ => u_ = S) l yX11_wild cX11_wild 2 (some .int) 7 1 6 102 [.ref o1, .int x1] S dp := by
  intro D Y tp sz
  refine cg_bodyX (by decide +kernel) (Nat.le_of_ble_eq_true rfl) ?_
  intro p e s m args below meth c C hne
  generalize va_A (cWd Y S) sz = A at C ⊢
  have C : cC p s m args meth c cX11_wild 2 (some .int) A D Y tp dp RX11 := C
  refine cg_lv (lv' := [(0, .ref o1), (1, .int x1)]) rfl ?_
  refine cg_iload_n C (i := 1) rfl 1 rfl dX11_wild_0 ?_
  exact cg_callsx C hne (z27_X11_checkField l hlt S dp x1 h1) cc_X11_152 rfl ⟨by decide, by decide⟩ ⟨by decide, by decide⟩ rfl (Nat.le_of_ble_eq_true rfl) dX11_wild_1 ⟨by decide, by decide⟩ (fun u_ h_ => by
      have hu_ := h_
      exact hu_)
set_option maxHeartbeats 4000000 in
set_option maxRecDepth 100000 in
theorem z298_L_wild (l : Launch) (hlt : l.stackTraces = false) (S : cS) (dp : Nat) (o1 o2 : Nat) (x1 : Int32) (h1 : x1 < 0) (h2 : o1 ∈ cL S) (h3 : cK S o1 = 11) : cMetW (cQi (fun r_ u_ => r_ = (nI 1) ∧ u_ = S)) l yL_wild cL_wild 4 (some .int) [(0, 9, 12, 28), (0, 9, 15, 15)] 8 1 6 123 [.ref o1, .int x1, .ref o2] S dp := by
  intro D Y tp sz
  refine cg_bodyW (by decide +kernel) (Nat.le_of_ble_eq_true rfl) ?_
  intro p e s m args below meth c C htab
  generalize va_A (cWd Y S) sz = A at C ⊢
  have C : cC p s m args meth c cL_wild 4 (some .int) A D Y tp dp RL := C
  refine cg_lv (lv' := [(0, .ref o1), (1, .int x1), (2, .ref o2)]) rfl ?_
  refine cg_aload_n C (i := 2) rfl 2 rfl dL_wild_0 ?_
  refine cg_iconst C (x := nI 0) rfl dL_wild_1 ?_
  refine cg_aload_n C (i := 0) rfl 0 rfl dL_wild_2 ?_
  refine cg_iload_n C (i := 1) rfl 1 rfl dL_wild_3 ?_
  refine cg_callx_catch C htab (z297_X11_wild l hlt S dp o1 x1 h1) cc_L_132 h2 h3 (by decide) rfl rfl ⟨by decide, by decide⟩ ⟨by decide, by decide⟩ rfl (Nat.le_of_ble_eq_true rfl) dL_wild_4 (tableOf []) ⟨0, 9, 12, 28⟩ (tableOf [(0, 9, 15, 15)]) rfl (fun z hz => nomatch hz) (by decide) (by decide) (name := "java/lang/IndexOutOfBoundsException") ce_L_28 (by decide) 12 rfl (fun x_4 u_4 h_4 => ?_)
  have hu_4 := h_4
  have hw_4 := hu_4.symm
  subst hw_4
  refine cg_astore_n (lv' := [(3, .ref x_4), (0, .ref o1), (1, .int x1), (2, .ref o2)]) C (i := 3) rfl (Nat.le_of_ble_eq_true rfl) rfl dL_wild_12 ?_
  refine cg_iconst C (x := nI 1) rfl dL_wild_13 ?_
  exact cg_iret C ⟨rfl, rfl⟩ dL_wild_14 (by decide) (by decide)
set_option maxHeartbeats 4000000 in
set_option maxRecDepth 100000 in
theorem z299_X4_isPattern (l : Launch) (hlt : l.stackTraces = false) (S : cS) (dp : Nat) (o1 : Nat) (h1 : ci S 289 o1 = (nI 0)) (h2 : cK S o1 = 9) (h3 : o1 ∈ cL S) : cMet (cQi (fun r_ u_ => r_ = (bI false) ∧ u_ = S)) l yX4_isPattern cX4_isPattern 2 (some .boolean) 0 0 0 0 [.ref o1] S dp := by
  intro D Y tp sz
  refine cg_body (by decide +kernel) (Nat.le_of_ble_eq_true rfl) ?_
  intro p e s m args below meth c C
  generalize va_A (cWd Y S) sz = A at C ⊢
  have C : cC p s m args meth c cX4_isPattern 2 (some .boolean) A D Y tp dp RX4 := C
  refine cg_lv (lv' := [(0, .ref o1)]) rfl ?_
  refine cg_aload_n C (i := 0) rfl 0 rfl dX4_isPattern_0 ?_
  refine cg_get C (k := 9) (j := 1) (.int (nI 0)) h3 h2 (by decide) rfl (by decide) rfl (show cV _ 9 1 o1 = _ from congrArg Value.int h1) cWs_wsX90 cl_X4_82 rfl dX4_isPattern_1 ?_
  refine cg_iconst C (x := nI 1) rfl dX4_isPattern_4 ?_
  refine cg_icmp_ltN C (by omega) (by omega) 17 (by decide) dX4_isPattern_5 (fun c_5 => ?_) (fun c_ => absurd c_ (by omega))
  refine cg_iconst C (x := nI 0) rfl dX4_isPattern_17 ?_
  refine cg_cast (.int (bI false)) rfl ?_
  exact cg_zret C (bI_nar _) ⟨rfl, rfl⟩ dX4_isPattern_18 (by decide) (by decide)
set_option maxHeartbeats 4000000 in
set_option maxRecDepth 100000 in
theorem z300_X11_checkLeaf (l : Launch) (hlt : l.stackTraces = false) (S : cS) (dp : Nat) (o1 : Nat) : cMetX "java/lang/IllegalStateException" (fun u_ => u_ = S) l yX11_checkLeaf cX11_checkLeaf 2 none 6 1 6 82 [.ref o1, .int (bI false)] S dp := by
  intro D Y tp sz
  refine cg_bodyX (by decide +kernel) (Nat.le_of_ble_eq_true rfl) ?_
  intro p e s m args below meth c C hne
  generalize va_A (cWd Y S) sz = A at C ⊢
  have C : cC p s m args meth c cX11_checkLeaf 2 none A D Y tp dp RX11 := C
  refine cg_lv (lv' := [(0, .ref o1), (1, .int (bI false))]) rfl ?_
  refine cg_iload_n C (i := 1) rfl 1 rfl dX11_checkLeaf_0 ?_
  refine cg_if_eqB C 31 (by decide) dX11_checkLeaf_1 (fun c_1 => ?_) (fun c_ => absurd c_ (by decide))
  exact cg_throw2W C hlt hne "no such leaf can be put now" ce_X11_116 cei_2 (by decide) dX11_checkLeaf_31 dX11_checkLeaf_34 dX11_checkLeaf_35 dX11_checkLeaf_38 dX11_checkLeaf_41 (by decide) (by decide) ⟨by decide, by decide⟩ ⟨by decide, by decide⟩ rfl
set_option maxHeartbeats 4000000 in
set_option maxRecDepth 100000 in
theorem z301_X11_wild (l : Launch) (hlt : l.stackTraces = false) (S : cS) (dp : Nat) (o1 o2 o3 : Nat) (n1 : Nat) (h1 : n1 ≤ 1) (h2 : cr S 352 o1 = (some o2)) (h3 : cK S o1 = 11) (h4 : o1 ∈ cL S) (h5 : cr S 96 o2 = (some o3)) (h6 : cK S o2 = 3) (h7 : o2 ∈ cL S) (h8 : ci S 289 o3 = (nI 0)) (h9 : cK S o3 = 9) (h10 : o3 ∈ cL S) : cMetX "java/lang/IllegalStateException" (fun u_ => u_ = S) l yX11_wild cX11_wild 2 (some .int) 7 1 6 103 [.ref o1, .int (nI n1)] S dp := by
  intro D Y tp sz
  refine cg_bodyX (by decide +kernel) (Nat.le_of_ble_eq_true rfl) ?_
  intro p e s m args below meth c C hne
  generalize va_A (cWd Y S) sz = A at C ⊢
  have C : cC p s m args meth c cX11_wild 2 (some .int) A D Y tp dp RX11 := C
  refine cg_lv (lv' := [(0, .ref o1), (1, .int (nI n1))]) rfl ?_
  refine cg_iload_n C (i := 1) rfl 1 rfl dX11_wild_0 ?_
  refine cg_callsv C (z30_X11_checkField l hlt S dp n1 (by omega)) cc_X11_152 rfl ⟨by decide, by decide⟩ ⟨by decide, by decide⟩ rfl (Nat.le_of_ble_eq_true rfl) dX11_wild_1 (fun u_1 h_1 => ?_)
  have hu_1 := h_1
  have hw_1 := hu_1.symm
  subst hw_1
  refine cg_aload_n C (i := 0) rfl 0 rfl dX11_wild_4 ?_
  refine cg_aload_n C (i := 0) rfl 0 rfl dX11_wild_5 ?_
  refine cg_get C (k := 11) (j := 0) (.ref o2) h4 h3 (by decide) rfl (by decide) rfl (show cV _ 11 0 o1 = _ from congrArg va_rf h2) cWs_wsX110 cl_X11_10 rfl dX11_wild_6 ?_
  refine cg_get C (k := 3) (j := 0) (.ref o3) h7 h6 (by decide) rfl (by decide) rfl (show cV _ 3 0 o2 = _ from congrArg va_rf h5) cWs_wsX30 cl_X11_107 rfl dX11_wild_9 ?_
  refine cg_callsi C (z299_X4_isPattern l hlt S dp o3 h8 h9 h10) cc_X11_356 rfl ⟨by decide, by decide⟩ ⟨by decide, by decide⟩ rfl (Nat.le_of_ble_eq_true rfl) dX11_wild_12 (fun r_12 u_12 h_12 => ?_)
  obtain ⟨hr_12, hu_12⟩ := h_12
  have hw_12 := hu_12.symm
  subst hw_12
  have hx_12 := hr_12.symm
  subst hx_12
  exact cg_callx C hne (z300_X11_checkLeaf l hlt S dp o1) cc_X11_327 h4 h3 (by decide) rfl rfl ⟨by decide, by decide⟩ ⟨by decide, by decide⟩ rfl (Nat.le_of_ble_eq_true rfl) dX11_wild_15 ⟨by decide, by decide⟩ (fun u_ h_ => by
      have hu_ := h_
      exact hu_)
set_option maxHeartbeats 4000000 in
set_option maxRecDepth 100000 in
theorem z302_L_wild (l : Launch) (hlt : l.stackTraces = false) (S : cS) (dp : Nat) (o1 o2 o3 o4 : Nat) (n1 : Nat) (h1 : n1 ≤ 1) (h2 : cr S 352 o1 = (some o3)) (h3 : cK S o1 = 11) (h4 : o1 ∈ cL S) (h5 : cr S 96 o3 = (some o4)) (h6 : cK S o3 = 3) (h7 : o3 ∈ cL S) (h8 : ci S 289 o4 = (nI 0)) (h9 : cK S o4 = 9) (h10 : o4 ∈ cL S) : cMetW (cQi (fun r_ u_ => r_ = (nI 2) ∧ u_ = S)) l yL_wild cL_wild 4 (some .int) [(0, 9, 12, 28), (0, 9, 15, 15)] 8 1 6 124 [.ref o1, .int (nI n1), .ref o2] S dp := by
  intro D Y tp sz
  refine cg_bodyW (by decide +kernel) (Nat.le_of_ble_eq_true rfl) ?_
  intro p e s m args below meth c C htab
  generalize va_A (cWd Y S) sz = A at C ⊢
  have C : cC p s m args meth c cL_wild 4 (some .int) A D Y tp dp RL := C
  refine cg_lv (lv' := [(0, .ref o1), (1, .int (nI n1)), (2, .ref o2)]) rfl ?_
  refine cg_aload_n C (i := 2) rfl 2 rfl dL_wild_0 ?_
  refine cg_iconst C (x := nI 0) rfl dL_wild_1 ?_
  refine cg_aload_n C (i := 0) rfl 0 rfl dL_wild_2 ?_
  refine cg_iload_n C (i := 1) rfl 1 rfl dL_wild_3 ?_
  refine cg_callx_catch C htab (z301_X11_wild l hlt S dp o1 o3 o4 n1 (by omega) h2 h3 h4 h5 h6 h7 h8 h9 h10) cc_L_132 h4 h3 (by decide) rfl rfl ⟨by decide, by decide⟩ ⟨by decide, by decide⟩ rfl (Nat.le_of_ble_eq_true rfl) dL_wild_4 (tableOf [(0, 9, 12, 28)]) ⟨0, 9, 15, 15⟩ (tableOf []) rfl (fun z hz => by
        rcases List.mem_cons.mp hz with rfl | hz
        · exact ⟨by decide, "java/lang/IndexOutOfBoundsException", ce_L_28, by decide⟩
        exact nomatch hz) (by decide) (by decide) (name := "java/lang/IllegalStateException") ce_L_15 (by decide) 15 rfl (fun x_4 u_4 h_4 => ?_)
  have hu_4 := h_4
  have hw_4 := hu_4.symm
  subst hw_4
  refine cg_astore_n (lv' := [(3, .ref x_4), (0, .ref o1), (1, .int (nI n1)), (2, .ref o2)]) C (i := 3) rfl (Nat.le_of_ble_eq_true rfl) rfl dL_wild_15 ?_
  refine cg_iconst C (x := nI 2) rfl dL_wild_16 ?_
  exact cg_iret C ⟨rfl, rfl⟩ dL_wild_17 (by decide) (by decide)
set_option maxHeartbeats 4000000 in
set_option maxRecDepth 100000 in
theorem z303_X11_wild (l : Launch) (hlt : l.stackTraces = false) (S : cS) (dp : Nat) (o1 : Nat) (n1 : Nat) (h1 : 2 ≤ n1) (h2 : n1 ≤ 2147483647) : cMetX "java/lang/IndexOutOfBoundsException" (fun u_ => u_ = S) l yX11_wild cX11_wild 2 (some .int) 7 1 6 102 [.ref o1, .int (nI n1)] S dp := by
  intro D Y tp sz
  refine cg_bodyX (by decide +kernel) (Nat.le_of_ble_eq_true rfl) ?_
  intro p e s m args below meth c C hne
  generalize va_A (cWd Y S) sz = A at C ⊢
  have C : cC p s m args meth c cX11_wild 2 (some .int) A D Y tp dp RX11 := C
  refine cg_lv (lv' := [(0, .ref o1), (1, .int (nI n1))]) rfl ?_
  refine cg_iload_n C (i := 1) rfl 1 rfl dX11_wild_0 ?_
  exact cg_callsx C hne (z40_X11_checkField l hlt S dp n1 (by omega) (by omega)) cc_X11_152 rfl ⟨by decide, by decide⟩ ⟨by decide, by decide⟩ rfl (Nat.le_of_ble_eq_true rfl) dX11_wild_1 ⟨by decide, by decide⟩ (fun u_ h_ => by
      have hu_ := h_
      exact hu_)
set_option maxHeartbeats 4000000 in
set_option maxRecDepth 100000 in
theorem z304_L_wild (l : Launch) (hlt : l.stackTraces = false) (S : cS) (dp : Nat) (o1 o2 : Nat) (n1 : Nat) (h1 : 2 ≤ n1) (h2 : n1 ≤ 2147483647) (h3 : o1 ∈ cL S) (h4 : cK S o1 = 11) : cMetW (cQi (fun r_ u_ => r_ = (nI 1) ∧ u_ = S)) l yL_wild cL_wild 4 (some .int) [(0, 9, 12, 28), (0, 9, 15, 15)] 8 1 6 123 [.ref o1, .int (nI n1), .ref o2] S dp := by
  intro D Y tp sz
  refine cg_bodyW (by decide +kernel) (Nat.le_of_ble_eq_true rfl) ?_
  intro p e s m args below meth c C htab
  generalize va_A (cWd Y S) sz = A at C ⊢
  have C : cC p s m args meth c cL_wild 4 (some .int) A D Y tp dp RL := C
  refine cg_lv (lv' := [(0, .ref o1), (1, .int (nI n1)), (2, .ref o2)]) rfl ?_
  refine cg_aload_n C (i := 2) rfl 2 rfl dL_wild_0 ?_
  refine cg_iconst C (x := nI 0) rfl dL_wild_1 ?_
  refine cg_aload_n C (i := 0) rfl 0 rfl dL_wild_2 ?_
  refine cg_iload_n C (i := 1) rfl 1 rfl dL_wild_3 ?_
  refine cg_callx_catch C htab (z303_X11_wild l hlt S dp o1 n1 (by omega) (by omega)) cc_L_132 h3 h4 (by decide) rfl rfl ⟨by decide, by decide⟩ ⟨by decide, by decide⟩ rfl (Nat.le_of_ble_eq_true rfl) dL_wild_4 (tableOf []) ⟨0, 9, 12, 28⟩ (tableOf [(0, 9, 15, 15)]) rfl (fun z hz => nomatch hz) (by decide) (by decide) (name := "java/lang/IndexOutOfBoundsException") ce_L_28 (by decide) 12 rfl (fun x_4 u_4 h_4 => ?_)
  have hu_4 := h_4
  have hw_4 := hu_4.symm
  subst hw_4
  refine cg_astore_n (lv' := [(3, .ref x_4), (0, .ref o1), (1, .int (nI n1)), (2, .ref o2)]) C (i := 3) rfl (Nat.le_of_ble_eq_true rfl) rfl dL_wild_12 ?_
  refine cg_iconst C (x := nI 1) rfl dL_wild_13 ?_
  exact cg_iret C ⟨rfl, rfl⟩ dL_wild_14 (by decide) (by decide)
set_option maxHeartbeats 4000000 in
set_option maxRecDepth 100000 in
theorem z305_X11_fuzzy (l : Launch) (hlt : l.stackTraces = false) (S : cS) (dp : Nat) (o1 : Nat) (x1 x2 : Int32) (h1 : x1 < 0) : cMetX "java/lang/IndexOutOfBoundsException" (fun u_ => u_ = S) l yX11_fuzzy cX11_fuzzy 3 (some .int) 7 1 6 102 [.ref o1, .int x1, .int x2] S dp := by
  intro D Y tp sz
  refine cg_bodyX (by decide +kernel) (Nat.le_of_ble_eq_true rfl) ?_
  intro p e s m args below meth c C hne
  generalize va_A (cWd Y S) sz = A at C ⊢
  have C : cC p s m args meth c cX11_fuzzy 3 (some .int) A D Y tp dp RX11 := C
  refine cg_lv (lv' := [(0, .ref o1), (1, .int x1), (2, .int x2)]) rfl ?_
  refine cg_iload_n C (i := 1) rfl 1 rfl dX11_fuzzy_0 ?_
  exact cg_callsx C hne (z27_X11_checkField l hlt S dp x1 h1) cc_X11_152 rfl ⟨by decide, by decide⟩ ⟨by decide, by decide⟩ rfl (Nat.le_of_ble_eq_true rfl) dX11_fuzzy_1 ⟨by decide, by decide⟩ (fun u_ h_ => by
      have hu_ := h_
      exact hu_)
set_option maxHeartbeats 4000000 in
set_option maxRecDepth 100000 in
theorem z306_L_fuzzy (l : Launch) (hlt : l.stackTraces = false) (S : cS) (dp : Nat) (o1 o2 : Nat) (x1 x2 : Int32) (h1 : x1 < 0) (h2 : o1 ∈ cL S) (h3 : cK S o1 = 11) : cMetW (cQi (fun r_ u_ => r_ = (nI 1) ∧ u_ = S)) l yL_fuzzy cL_fuzzy 5 (some .int) [(0, 10, 13, 28), (0, 10, 17, 13), (0, 10, 21, 15)] 8 1 6 124 [.ref o1, .int x1, .int x2, .ref o2] S dp := by
  intro D Y tp sz
  refine cg_bodyW (by decide +kernel) (Nat.le_of_ble_eq_true rfl) ?_
  intro p e s m args below meth c C htab
  generalize va_A (cWd Y S) sz = A at C ⊢
  have C : cC p s m args meth c cL_fuzzy 5 (some .int) A D Y tp dp RL := C
  refine cg_lv (lv' := [(0, .ref o1), (1, .int x1), (2, .int x2), (3, .ref o2)]) rfl ?_
  refine cg_aload_n C (i := 3) rfl 3 rfl dL_fuzzy_0 ?_
  refine cg_iconst C (x := nI 0) rfl dL_fuzzy_1 ?_
  refine cg_aload_n C (i := 0) rfl 0 rfl dL_fuzzy_2 ?_
  refine cg_iload_n C (i := 1) rfl 1 rfl dL_fuzzy_3 ?_
  refine cg_iload_n C (i := 2) rfl 2 rfl dL_fuzzy_4 ?_
  refine cg_callx_catch C htab (z305_X11_fuzzy l hlt S dp o1 x1 x2 h1) cc_L_135 h2 h3 (by decide) rfl rfl ⟨by decide, by decide⟩ ⟨by decide, by decide⟩ rfl (Nat.le_of_ble_eq_true rfl) dL_fuzzy_5 (tableOf []) ⟨0, 10, 13, 28⟩ (tableOf [(0, 10, 17, 13), (0, 10, 21, 15)]) rfl (fun z hz => nomatch hz) (by decide) (by decide) (name := "java/lang/IndexOutOfBoundsException") ce_L_28 (by decide) 13 rfl (fun x_5 u_5 h_5 => ?_)
  have hu_5 := h_5
  have hw_5 := hu_5.symm
  subst hw_5
  refine cg_astore (lv' := [(4, .ref x_5), (0, .ref o1), (1, .int x1), (2, .int x2), (3, .ref o2)]) C (Nat.le_of_ble_eq_true rfl) rfl dL_fuzzy_13 ?_
  refine cg_iconst C (x := nI 1) rfl dL_fuzzy_15 ?_
  exact cg_iret C ⟨rfl, rfl⟩ dL_fuzzy_16 (by decide) (by decide)
set_option maxHeartbeats 4000000 in
set_option maxRecDepth 100000 in
theorem z307_X11_fuzzy (l : Launch) (hlt : l.stackTraces = false) (S : cS) (dp : Nat) (o1 : Nat) (x1 x2 : Int32) (h1 : x1 < 0) (h2 : x2 < 0) : cMetX "java/lang/IndexOutOfBoundsException" (fun u_ => u_ = S) l yX11_fuzzy cX11_fuzzy 3 (some .int) 7 1 6 102 [.ref o1, .int x1, .int x2] S dp := by
  intro D Y tp sz
  refine cg_bodyX (by decide +kernel) (Nat.le_of_ble_eq_true rfl) ?_
  intro p e s m args below meth c C hne
  generalize va_A (cWd Y S) sz = A at C ⊢
  have C : cC p s m args meth c cX11_fuzzy 3 (some .int) A D Y tp dp RX11 := C
  refine cg_lv (lv' := [(0, .ref o1), (1, .int x1), (2, .int x2)]) rfl ?_
  refine cg_iload_n C (i := 1) rfl 1 rfl dX11_fuzzy_0 ?_
  exact cg_callsx C hne (z27_X11_checkField l hlt S dp x1 h1) cc_X11_152 rfl ⟨by decide, by decide⟩ ⟨by decide, by decide⟩ rfl (Nat.le_of_ble_eq_true rfl) dX11_fuzzy_1 ⟨by decide, by decide⟩ (fun u_ h_ => by
      have hu_ := h_
      exact hu_)
set_option maxHeartbeats 4000000 in
set_option maxRecDepth 100000 in
theorem z308_L_fuzzy (l : Launch) (hlt : l.stackTraces = false) (S : cS) (dp : Nat) (o1 o2 : Nat) (x1 x2 : Int32) (h1 : x1 < 0) (h2 : x2 < 0) (h3 : o1 ∈ cL S) (h4 : cK S o1 = 11) : cMetW (cQi (fun r_ u_ => r_ = (nI 1) ∧ u_ = S)) l yL_fuzzy cL_fuzzy 5 (some .int) [(0, 10, 13, 28), (0, 10, 17, 13), (0, 10, 21, 15)] 8 1 6 124 [.ref o1, .int x1, .int x2, .ref o2] S dp := by
  intro D Y tp sz
  refine cg_bodyW (by decide +kernel) (Nat.le_of_ble_eq_true rfl) ?_
  intro p e s m args below meth c C htab
  generalize va_A (cWd Y S) sz = A at C ⊢
  have C : cC p s m args meth c cL_fuzzy 5 (some .int) A D Y tp dp RL := C
  refine cg_lv (lv' := [(0, .ref o1), (1, .int x1), (2, .int x2), (3, .ref o2)]) rfl ?_
  refine cg_aload_n C (i := 3) rfl 3 rfl dL_fuzzy_0 ?_
  refine cg_iconst C (x := nI 0) rfl dL_fuzzy_1 ?_
  refine cg_aload_n C (i := 0) rfl 0 rfl dL_fuzzy_2 ?_
  refine cg_iload_n C (i := 1) rfl 1 rfl dL_fuzzy_3 ?_
  refine cg_iload_n C (i := 2) rfl 2 rfl dL_fuzzy_4 ?_
  refine cg_callx_catch C htab (z307_X11_fuzzy l hlt S dp o1 x1 x2 h1 h2) cc_L_135 h3 h4 (by decide) rfl rfl ⟨by decide, by decide⟩ ⟨by decide, by decide⟩ rfl (Nat.le_of_ble_eq_true rfl) dL_fuzzy_5 (tableOf []) ⟨0, 10, 13, 28⟩ (tableOf [(0, 10, 17, 13), (0, 10, 21, 15)]) rfl (fun z hz => nomatch hz) (by decide) (by decide) (name := "java/lang/IndexOutOfBoundsException") ce_L_28 (by decide) 13 rfl (fun x_5 u_5 h_5 => ?_)
  have hu_5 := h_5
  have hw_5 := hu_5.symm
  subst hw_5
  refine cg_astore (lv' := [(4, .ref x_5), (0, .ref o1), (1, .int x1), (2, .int x2), (3, .ref o2)]) C (Nat.le_of_ble_eq_true rfl) rfl dL_fuzzy_13 ?_
  refine cg_iconst C (x := nI 1) rfl dL_fuzzy_15 ?_
  exact cg_iret C ⟨rfl, rfl⟩ dL_fuzzy_16 (by decide) (by decide)
set_option maxHeartbeats 4000000 in
set_option maxRecDepth 100000 in
theorem z309_X11_fuzzy (l : Launch) (hlt : l.stackTraces = false) (S : cS) (dp : Nat) (o1 : Nat) (n1 : Nat) (x1 : Int32) (h1 : x1 < 0) (h2 : n1 ≤ 2147483647) : cMetX "java/lang/IndexOutOfBoundsException" (fun u_ => u_ = S) l yX11_fuzzy cX11_fuzzy 3 (some .int) 7 1 6 102 [.ref o1, .int x1, .int (nI n1)] S dp := by
  intro D Y tp sz
  refine cg_bodyX (by decide +kernel) (Nat.le_of_ble_eq_true rfl) ?_
  intro p e s m args below meth c C hne
  generalize va_A (cWd Y S) sz = A at C ⊢
  have C : cC p s m args meth c cX11_fuzzy 3 (some .int) A D Y tp dp RX11 := C
  refine cg_lv (lv' := [(0, .ref o1), (1, .int x1), (2, .int (nI n1))]) rfl ?_
  refine cg_iload_n C (i := 1) rfl 1 rfl dX11_fuzzy_0 ?_
  exact cg_callsx C hne (z27_X11_checkField l hlt S dp x1 h1) cc_X11_152 rfl ⟨by decide, by decide⟩ ⟨by decide, by decide⟩ rfl (Nat.le_of_ble_eq_true rfl) dX11_fuzzy_1 ⟨by decide, by decide⟩ (fun u_ h_ => by
      have hu_ := h_
      exact hu_)
set_option maxHeartbeats 4000000 in
set_option maxRecDepth 100000 in
theorem z310_L_fuzzy (l : Launch) (hlt : l.stackTraces = false) (S : cS) (dp : Nat) (o1 o2 : Nat) (n1 : Nat) (x1 : Int32) (h1 : x1 < 0) (h2 : n1 ≤ 2147483647) (h3 : o1 ∈ cL S) (h4 : cK S o1 = 11) : cMetW (cQi (fun r_ u_ => r_ = (nI 1) ∧ u_ = S)) l yL_fuzzy cL_fuzzy 5 (some .int) [(0, 10, 13, 28), (0, 10, 17, 13), (0, 10, 21, 15)] 8 1 6 124 [.ref o1, .int x1, .int (nI n1), .ref o2] S dp := by
  intro D Y tp sz
  refine cg_bodyW (by decide +kernel) (Nat.le_of_ble_eq_true rfl) ?_
  intro p e s m args below meth c C htab
  generalize va_A (cWd Y S) sz = A at C ⊢
  have C : cC p s m args meth c cL_fuzzy 5 (some .int) A D Y tp dp RL := C
  refine cg_lv (lv' := [(0, .ref o1), (1, .int x1), (2, .int (nI n1)), (3, .ref o2)]) rfl ?_
  refine cg_aload_n C (i := 3) rfl 3 rfl dL_fuzzy_0 ?_
  refine cg_iconst C (x := nI 0) rfl dL_fuzzy_1 ?_
  refine cg_aload_n C (i := 0) rfl 0 rfl dL_fuzzy_2 ?_
  refine cg_iload_n C (i := 1) rfl 1 rfl dL_fuzzy_3 ?_
  refine cg_iload_n C (i := 2) rfl 2 rfl dL_fuzzy_4 ?_
  refine cg_callx_catch C htab (z309_X11_fuzzy l hlt S dp o1 n1 x1 h1 (by omega)) cc_L_135 h3 h4 (by decide) rfl rfl ⟨by decide, by decide⟩ ⟨by decide, by decide⟩ rfl (Nat.le_of_ble_eq_true rfl) dL_fuzzy_5 (tableOf []) ⟨0, 10, 13, 28⟩ (tableOf [(0, 10, 17, 13), (0, 10, 21, 15)]) rfl (fun z hz => nomatch hz) (by decide) (by decide) (name := "java/lang/IndexOutOfBoundsException") ce_L_28 (by decide) 13 rfl (fun x_5 u_5 h_5 => ?_)
  have hu_5 := h_5
  have hw_5 := hu_5.symm
  subst hw_5
  refine cg_astore (lv' := [(4, .ref x_5), (0, .ref o1), (1, .int x1), (2, .int (nI n1)), (3, .ref o2)]) C (Nat.le_of_ble_eq_true rfl) rfl dL_fuzzy_13 ?_
  refine cg_iconst C (x := nI 1) rfl dL_fuzzy_15 ?_
  exact cg_iret C ⟨rfl, rfl⟩ dL_fuzzy_16 (by decide) (by decide)
set_option maxHeartbeats 4000000 in
set_option maxRecDepth 100000 in
theorem z311_X11_fuzzy (l : Launch) (hlt : l.stackTraces = false) (S : cS) (dp : Nat) (o1 : Nat) (n1 : Nat) (x1 : Int32) (h1 : x1 < 0) (h2 : n1 ≤ 2) : cMetX "java/lang/IndexOutOfBoundsException" (fun u_ => u_ = S) l yX11_fuzzy cX11_fuzzy 3 (some .int) 7 1 6 102 [.ref o1, .int x1, .int (nI n1)] S dp := by
  intro D Y tp sz
  refine cg_bodyX (by decide +kernel) (Nat.le_of_ble_eq_true rfl) ?_
  intro p e s m args below meth c C hne
  generalize va_A (cWd Y S) sz = A at C ⊢
  have C : cC p s m args meth c cX11_fuzzy 3 (some .int) A D Y tp dp RX11 := C
  refine cg_lv (lv' := [(0, .ref o1), (1, .int x1), (2, .int (nI n1))]) rfl ?_
  refine cg_iload_n C (i := 1) rfl 1 rfl dX11_fuzzy_0 ?_
  exact cg_callsx C hne (z27_X11_checkField l hlt S dp x1 h1) cc_X11_152 rfl ⟨by decide, by decide⟩ ⟨by decide, by decide⟩ rfl (Nat.le_of_ble_eq_true rfl) dX11_fuzzy_1 ⟨by decide, by decide⟩ (fun u_ h_ => by
      have hu_ := h_
      exact hu_)
set_option maxHeartbeats 4000000 in
set_option maxRecDepth 100000 in
theorem z312_L_fuzzy (l : Launch) (hlt : l.stackTraces = false) (S : cS) (dp : Nat) (o1 o2 : Nat) (n1 : Nat) (x1 : Int32) (h1 : x1 < 0) (h2 : n1 ≤ 2) (h3 : o1 ∈ cL S) (h4 : cK S o1 = 11) : cMetW (cQi (fun r_ u_ => r_ = (nI 1) ∧ u_ = S)) l yL_fuzzy cL_fuzzy 5 (some .int) [(0, 10, 13, 28), (0, 10, 17, 13), (0, 10, 21, 15)] 8 1 6 124 [.ref o1, .int x1, .int (nI n1), .ref o2] S dp := by
  intro D Y tp sz
  refine cg_bodyW (by decide +kernel) (Nat.le_of_ble_eq_true rfl) ?_
  intro p e s m args below meth c C htab
  generalize va_A (cWd Y S) sz = A at C ⊢
  have C : cC p s m args meth c cL_fuzzy 5 (some .int) A D Y tp dp RL := C
  refine cg_lv (lv' := [(0, .ref o1), (1, .int x1), (2, .int (nI n1)), (3, .ref o2)]) rfl ?_
  refine cg_aload_n C (i := 3) rfl 3 rfl dL_fuzzy_0 ?_
  refine cg_iconst C (x := nI 0) rfl dL_fuzzy_1 ?_
  refine cg_aload_n C (i := 0) rfl 0 rfl dL_fuzzy_2 ?_
  refine cg_iload_n C (i := 1) rfl 1 rfl dL_fuzzy_3 ?_
  refine cg_iload_n C (i := 2) rfl 2 rfl dL_fuzzy_4 ?_
  refine cg_callx_catch C htab (z311_X11_fuzzy l hlt S dp o1 n1 x1 h1 (by omega)) cc_L_135 h3 h4 (by decide) rfl rfl ⟨by decide, by decide⟩ ⟨by decide, by decide⟩ rfl (Nat.le_of_ble_eq_true rfl) dL_fuzzy_5 (tableOf []) ⟨0, 10, 13, 28⟩ (tableOf [(0, 10, 17, 13), (0, 10, 21, 15)]) rfl (fun z hz => nomatch hz) (by decide) (by decide) (name := "java/lang/IndexOutOfBoundsException") ce_L_28 (by decide) 13 rfl (fun x_5 u_5 h_5 => ?_)
  have hu_5 := h_5
  have hw_5 := hu_5.symm
  subst hw_5
  refine cg_astore (lv' := [(4, .ref x_5), (0, .ref o1), (1, .int x1), (2, .int (nI n1)), (3, .ref o2)]) C (Nat.le_of_ble_eq_true rfl) rfl dL_fuzzy_13 ?_
  refine cg_iconst C (x := nI 1) rfl dL_fuzzy_15 ?_
  exact cg_iret C ⟨rfl, rfl⟩ dL_fuzzy_16 (by decide) (by decide)
set_option maxHeartbeats 4000000 in
set_option maxRecDepth 100000 in
theorem z313_X11_fuzzy (l : Launch) (hlt : l.stackTraces = false) (S : cS) (dp : Nat) (o1 : Nat) (n1 : Nat) (x1 : Int32) (h1 : x1 < 0) (h2 : 3 ≤ n1) (h3 : n1 ≤ 2147483647) : cMetX "java/lang/IndexOutOfBoundsException" (fun u_ => u_ = S) l yX11_fuzzy cX11_fuzzy 3 (some .int) 7 1 6 102 [.ref o1, .int x1, .int (nI n1)] S dp := by
  intro D Y tp sz
  refine cg_bodyX (by decide +kernel) (Nat.le_of_ble_eq_true rfl) ?_
  intro p e s m args below meth c C hne
  generalize va_A (cWd Y S) sz = A at C ⊢
  have C : cC p s m args meth c cX11_fuzzy 3 (some .int) A D Y tp dp RX11 := C
  refine cg_lv (lv' := [(0, .ref o1), (1, .int x1), (2, .int (nI n1))]) rfl ?_
  refine cg_iload_n C (i := 1) rfl 1 rfl dX11_fuzzy_0 ?_
  exact cg_callsx C hne (z27_X11_checkField l hlt S dp x1 h1) cc_X11_152 rfl ⟨by decide, by decide⟩ ⟨by decide, by decide⟩ rfl (Nat.le_of_ble_eq_true rfl) dX11_fuzzy_1 ⟨by decide, by decide⟩ (fun u_ h_ => by
      have hu_ := h_
      exact hu_)
set_option maxHeartbeats 4000000 in
set_option maxRecDepth 100000 in
theorem z314_L_fuzzy (l : Launch) (hlt : l.stackTraces = false) (S : cS) (dp : Nat) (o1 o2 : Nat) (n1 : Nat) (x1 : Int32) (h1 : x1 < 0) (h2 : 3 ≤ n1) (h3 : n1 ≤ 2147483647) (h4 : o1 ∈ cL S) (h5 : cK S o1 = 11) : cMetW (cQi (fun r_ u_ => r_ = (nI 1) ∧ u_ = S)) l yL_fuzzy cL_fuzzy 5 (some .int) [(0, 10, 13, 28), (0, 10, 17, 13), (0, 10, 21, 15)] 8 1 6 124 [.ref o1, .int x1, .int (nI n1), .ref o2] S dp := by
  intro D Y tp sz
  refine cg_bodyW (by decide +kernel) (Nat.le_of_ble_eq_true rfl) ?_
  intro p e s m args below meth c C htab
  generalize va_A (cWd Y S) sz = A at C ⊢
  have C : cC p s m args meth c cL_fuzzy 5 (some .int) A D Y tp dp RL := C
  refine cg_lv (lv' := [(0, .ref o1), (1, .int x1), (2, .int (nI n1)), (3, .ref o2)]) rfl ?_
  refine cg_aload_n C (i := 3) rfl 3 rfl dL_fuzzy_0 ?_
  refine cg_iconst C (x := nI 0) rfl dL_fuzzy_1 ?_
  refine cg_aload_n C (i := 0) rfl 0 rfl dL_fuzzy_2 ?_
  refine cg_iload_n C (i := 1) rfl 1 rfl dL_fuzzy_3 ?_
  refine cg_iload_n C (i := 2) rfl 2 rfl dL_fuzzy_4 ?_
  refine cg_callx_catch C htab (z313_X11_fuzzy l hlt S dp o1 n1 x1 h1 (by omega) (by omega)) cc_L_135 h4 h5 (by decide) rfl rfl ⟨by decide, by decide⟩ ⟨by decide, by decide⟩ rfl (Nat.le_of_ble_eq_true rfl) dL_fuzzy_5 (tableOf []) ⟨0, 10, 13, 28⟩ (tableOf [(0, 10, 17, 13), (0, 10, 21, 15)]) rfl (fun z hz => nomatch hz) (by decide) (by decide) (name := "java/lang/IndexOutOfBoundsException") ce_L_28 (by decide) 13 rfl (fun x_5 u_5 h_5 => ?_)
  have hu_5 := h_5
  have hw_5 := hu_5.symm
  subst hw_5
  refine cg_astore (lv' := [(4, .ref x_5), (0, .ref o1), (1, .int x1), (2, .int (nI n1)), (3, .ref o2)]) C (Nat.le_of_ble_eq_true rfl) rfl dL_fuzzy_13 ?_
  refine cg_iconst C (x := nI 1) rfl dL_fuzzy_15 ?_
  exact cg_iret C ⟨rfl, rfl⟩ dL_fuzzy_16 (by decide) (by decide)
set_option maxHeartbeats 4000000 in
set_option maxRecDepth 100000 in
theorem z315_X11_fuzzy (l : Launch) (hlt : l.stackTraces = false) (S : cS) (dp : Nat) (o1 : Nat) (n1 : Nat) (x1 : Int32) (h1 : n1 ≤ 1) (h2 : x1 < 0) : cMetX "java/lang/IllegalArgumentException" (fun u_ => u_ = S) l yX11_fuzzy cX11_fuzzy 3 (some .int) 6 1 6 82 [.ref o1, .int (nI n1), .int x1] S dp := by
  intro D Y tp sz
  refine cg_bodyX (by decide +kernel) (Nat.le_of_ble_eq_true rfl) ?_
  intro p e s m args below meth c C hne
  generalize va_A (cWd Y S) sz = A at C ⊢
  have C : cC p s m args meth c cX11_fuzzy 3 (some .int) A D Y tp dp RX11 := C
  refine cg_lv (lv' := [(0, .ref o1), (1, .int (nI n1)), (2, .int x1)]) rfl ?_
  refine cg_iload_n C (i := 1) rfl 1 rfl dX11_fuzzy_0 ?_
  refine cg_callsv C (z30_X11_checkField l hlt S dp n1 (by omega)) cc_X11_152 rfl ⟨by decide, by decide⟩ ⟨by decide, by decide⟩ rfl (Nat.le_of_ble_eq_true rfl) dX11_fuzzy_1 (fun u_1 h_1 => ?_)
  have hu_1 := h_1
  have hw_1 := hu_1.symm
  subst hw_1
  refine cg_iload_n C (i := 2) rfl 2 rfl dX11_fuzzy_4 ?_
  refine cg_if_lt C 13 (by decide) dX11_fuzzy_5 (fun c_5 => ?_) (fun c_ => absurd (cneg0_lt h2) c_)
  exact cg_throw1W C hlt hne "the number of edits is out of range" ce_X11_100 cei_1 (by decide) dX11_fuzzy_13 dX11_fuzzy_16 dX11_fuzzy_17 dX11_fuzzy_20 dX11_fuzzy_23 (by decide) (by decide) ⟨by decide, by decide⟩ ⟨by decide, by decide⟩ rfl
set_option maxHeartbeats 4000000 in
set_option maxRecDepth 100000 in
theorem z316_L_fuzzy (l : Launch) (hlt : l.stackTraces = false) (S : cS) (dp : Nat) (o1 o2 : Nat) (n1 : Nat) (x1 : Int32) (h1 : n1 ≤ 1) (h2 : x1 < 0) (h3 : o1 ∈ cL S) (h4 : cK S o1 = 11) : cMetW (cQi (fun r_ u_ => r_ = (nI 2) ∧ u_ = S)) l yL_fuzzy cL_fuzzy 5 (some .int) [(0, 10, 13, 28), (0, 10, 17, 13), (0, 10, 21, 15)] 7 1 6 104 [.ref o1, .int (nI n1), .int x1, .ref o2] S dp := by
  intro D Y tp sz
  refine cg_bodyW (by decide +kernel) (Nat.le_of_ble_eq_true rfl) ?_
  intro p e s m args below meth c C htab
  generalize va_A (cWd Y S) sz = A at C ⊢
  have C : cC p s m args meth c cL_fuzzy 5 (some .int) A D Y tp dp RL := C
  refine cg_lv (lv' := [(0, .ref o1), (1, .int (nI n1)), (2, .int x1), (3, .ref o2)]) rfl ?_
  refine cg_aload_n C (i := 3) rfl 3 rfl dL_fuzzy_0 ?_
  refine cg_iconst C (x := nI 0) rfl dL_fuzzy_1 ?_
  refine cg_aload_n C (i := 0) rfl 0 rfl dL_fuzzy_2 ?_
  refine cg_iload_n C (i := 1) rfl 1 rfl dL_fuzzy_3 ?_
  refine cg_iload_n C (i := 2) rfl 2 rfl dL_fuzzy_4 ?_
  refine cg_callx_catch C htab (z315_X11_fuzzy l hlt S dp o1 n1 x1 (by omega) h2) cc_L_135 h3 h4 (by decide) rfl rfl ⟨by decide, by decide⟩ ⟨by decide, by decide⟩ rfl (Nat.le_of_ble_eq_true rfl) dL_fuzzy_5 (tableOf [(0, 10, 13, 28)]) ⟨0, 10, 17, 13⟩ (tableOf [(0, 10, 21, 15)]) rfl (fun z hz => by
        rcases List.mem_cons.mp hz with rfl | hz
        · exact ⟨by decide, "java/lang/IndexOutOfBoundsException", ce_L_28, by decide⟩
        exact nomatch hz) (by decide) (by decide) (name := "java/lang/IllegalArgumentException") ce_L_13 (by decide) 17 rfl (fun x_5 u_5 h_5 => ?_)
  have hu_5 := h_5
  have hw_5 := hu_5.symm
  subst hw_5
  refine cg_astore (lv' := [(4, .ref x_5), (0, .ref o1), (1, .int (nI n1)), (2, .int x1), (3, .ref o2)]) C (Nat.le_of_ble_eq_true rfl) rfl dL_fuzzy_17 ?_
  refine cg_iconst C (x := nI 2) rfl dL_fuzzy_19 ?_
  exact cg_iret C ⟨rfl, rfl⟩ dL_fuzzy_20 (by decide) (by decide)
set_option maxHeartbeats 4000000 in
set_option maxRecDepth 100000 in
theorem z317_X11_fuzzy (l : Launch) (hlt : l.stackTraces = false) (S : cS) (dp : Nat) (o1 o2 o3 : Nat) (n1 n2 : Nat) (h1 : n1 ≤ 1) (h2 : n2 ≤ 2) (h3 : cr S 352 o1 = (some o2)) (h4 : cK S o1 = 11) (h5 : o1 ∈ cL S) (h6 : cr S 96 o2 = (some o3)) (h7 : cK S o2 = 3) (h8 : o2 ∈ cL S) (h9 : ci S 289 o3 = (nI 0)) (h10 : cK S o3 = 9) (h11 : o3 ∈ cL S) : cMetX "java/lang/IllegalStateException" (fun u_ => ∃ (S1 : cS), S1 = cSi S 98 o2 (nI 0) ∧ u_ = S1) l yX11_fuzzy cX11_fuzzy 3 (some .int) 7 1 6 103 [.ref o1, .int (nI n1), .int (nI n2)] S dp := by
  intro D Y tp sz
  refine cg_bodyX (by decide +kernel) (Nat.le_of_ble_eq_true rfl) ?_
  intro p e s m args below meth c C hne
  generalize va_A (cWd Y S) sz = A at C ⊢
  have C : cC p s m args meth c cX11_fuzzy 3 (some .int) A D Y tp dp RX11 := C
  refine cg_lv (lv' := [(0, .ref o1), (1, .int (nI n1)), (2, .int (nI n2))]) rfl ?_
  refine cg_iload_n C (i := 1) rfl 1 rfl dX11_fuzzy_0 ?_
  refine cg_callsv C (z30_X11_checkField l hlt S dp n1 (by omega)) cc_X11_152 rfl ⟨by decide, by decide⟩ ⟨by decide, by decide⟩ rfl (Nat.le_of_ble_eq_true rfl) dX11_fuzzy_1 (fun u_1 h_1 => ?_)
  have hu_1 := h_1
  have hw_1 := hu_1.symm
  subst hw_1
  refine cg_iload_n C (i := 2) rfl 2 rfl dX11_fuzzy_4 ?_
  refine cg_if_ltN C (by omega) 13 (by decide) dX11_fuzzy_5 ?_
  refine cg_iload_n C (i := 2) rfl 2 rfl dX11_fuzzy_8 ?_
  refine cg_iconst C (x := nI 2) rfl dX11_fuzzy_9 ?_
  refine cg_icmp_leN C (by omega) (by omega) 24 (by decide) dX11_fuzzy_10 (fun c_10 => ?_) (fun c_ => absurd c_ (by omega))
  refine cg_aload_n C (i := 0) rfl 0 rfl dX11_fuzzy_24 ?_
  refine cg_aload_n C (i := 0) rfl 0 rfl dX11_fuzzy_25 ?_
  refine cg_get C (k := 11) (j := 0) (.ref o2) h5 h4 (by decide) rfl (by decide) rfl (show cV _ 11 0 o1 = _ from congrArg va_rf h3) cWs_wsX110 cl_X11_10 rfl dX11_fuzzy_26 ?_
  refine cg_calli C (z22_X3_readPad l hlt S dp o2 o3 h6 h7 h8 h9 h10 h11) cc_X11_129 h8 h7 (by decide) rfl rfl ⟨by decide, by decide⟩ ⟨by decide, by decide⟩ rfl (Nat.le_of_ble_eq_true rfl) dX11_fuzzy_29 (fun r_29 u_29 h_29 => ?_)
  obtain ⟨S1, hS1, hr_29, hu_29⟩ := h_29
  have hw_29 := hu_29.symm
  subst hw_29
  have hx_29 := hr_29.symm
  subst hx_29
  refine cg_iconst C (x := nI 1) rfl dX11_fuzzy_32 ?_
  refine cg_icmp_neN C (by omega) (by omega) 40 (by decide) dX11_fuzzy_33 (fun c_33 => ?_) (fun c_ => absurd c_ (by omega))
  refine cg_iconst C (x := nI 0) rfl dX11_fuzzy_40 ?_
  exact cg_callx C hne (z188_X11_checkLeaf l hlt S1 dp o1) cc_X11_327 (hm_Si hS1 h5) (hk_Si hS1 h4) (by decide) rfl rfl ⟨by decide, by decide⟩ ⟨by decide, by decide⟩ rfl (Nat.le_of_ble_eq_true rfl) dX11_fuzzy_41 ⟨by decide, by decide⟩ (fun u_ h_ => by
      have hu_ := h_
      exact ⟨S1, hS1, hu_⟩)
set_option maxHeartbeats 4000000 in
set_option maxRecDepth 100000 in
theorem z318_L_fuzzy (l : Launch) (hlt : l.stackTraces = false) (S : cS) (dp : Nat) (o1 o2 o3 o4 : Nat) (n1 n2 : Nat) (h1 : n1 ≤ 1) (h2 : n2 ≤ 2) (h3 : cr S 352 o1 = (some o3)) (h4 : cK S o1 = 11) (h5 : o1 ∈ cL S) (h6 : cr S 96 o3 = (some o4)) (h7 : cK S o3 = 3) (h8 : o3 ∈ cL S) (h9 : ci S 289 o4 = (nI 0)) (h10 : cK S o4 = 9) (h11 : o4 ∈ cL S) : cMetW (cQi (fun r_ u_ => ∃ (S1 : cS), S1 = cSi S 98 o3 (nI 0) ∧ r_ = (nI 3) ∧ u_ = S1)) l yL_fuzzy cL_fuzzy 5 (some .int) [(0, 10, 13, 28), (0, 10, 17, 13), (0, 10, 21, 15)] 8 1 6 125 [.ref o1, .int (nI n1), .int (nI n2), .ref o2] S dp := by
  intro D Y tp sz
  refine cg_bodyW (by decide +kernel) (Nat.le_of_ble_eq_true rfl) ?_
  intro p e s m args below meth c C htab
  generalize va_A (cWd Y S) sz = A at C ⊢
  have C : cC p s m args meth c cL_fuzzy 5 (some .int) A D Y tp dp RL := C
  refine cg_lv (lv' := [(0, .ref o1), (1, .int (nI n1)), (2, .int (nI n2)), (3, .ref o2)]) rfl ?_
  refine cg_aload_n C (i := 3) rfl 3 rfl dL_fuzzy_0 ?_
  refine cg_iconst C (x := nI 0) rfl dL_fuzzy_1 ?_
  refine cg_aload_n C (i := 0) rfl 0 rfl dL_fuzzy_2 ?_
  refine cg_iload_n C (i := 1) rfl 1 rfl dL_fuzzy_3 ?_
  refine cg_iload_n C (i := 2) rfl 2 rfl dL_fuzzy_4 ?_
  refine cg_callx_catch C htab (z317_X11_fuzzy l hlt S dp o1 o3 o4 n1 n2 (by omega) (by omega) h3 h4 h5 h6 h7 h8 h9 h10 h11) cc_L_135 h5 h4 (by decide) rfl rfl ⟨by decide, by decide⟩ ⟨by decide, by decide⟩ rfl (Nat.le_of_ble_eq_true rfl) dL_fuzzy_5 (tableOf [(0, 10, 13, 28), (0, 10, 17, 13)]) ⟨0, 10, 21, 15⟩ (tableOf []) rfl (fun z hz => by
        rcases List.mem_cons.mp hz with rfl | hz
        · exact ⟨by decide, "java/lang/IndexOutOfBoundsException", ce_L_28, by decide⟩
        rcases List.mem_cons.mp hz with rfl | hz
        · exact ⟨by decide, "java/lang/IllegalArgumentException", ce_L_13, by decide⟩
        exact nomatch hz) (by decide) (by decide) (name := "java/lang/IllegalStateException") ce_L_15 (by decide) 21 rfl (fun x_5 u_5 h_5 => ?_)
  obtain ⟨S1, hS1, hu_5⟩ := h_5
  have hw_5 := hu_5.symm
  subst hw_5
  refine cg_astore (lv' := [(4, .ref x_5), (0, .ref o1), (1, .int (nI n1)), (2, .int (nI n2)), (3, .ref o2)]) C (Nat.le_of_ble_eq_true rfl) rfl dL_fuzzy_21 ?_
  refine cg_iconst C (x := nI 3) rfl dL_fuzzy_23 ?_
  exact cg_iret C ⟨S1, hS1, rfl, rfl⟩ dL_fuzzy_24 (by decide) (by decide)
set_option maxHeartbeats 4000000 in
set_option maxRecDepth 100000 in
theorem z319_X11_fuzzy (l : Launch) (hlt : l.stackTraces = false) (S : cS) (dp : Nat) (o1 : Nat) (n1 n2 : Nat) (h1 : n1 ≤ 1) (h2 : 3 ≤ n2) (h3 : n2 ≤ 2147483647) : cMetX "java/lang/IllegalArgumentException" (fun u_ => u_ = S) l yX11_fuzzy cX11_fuzzy 3 (some .int) 6 1 6 82 [.ref o1, .int (nI n1), .int (nI n2)] S dp := by
  intro D Y tp sz
  refine cg_bodyX (by decide +kernel) (Nat.le_of_ble_eq_true rfl) ?_
  intro p e s m args below meth c C hne
  generalize va_A (cWd Y S) sz = A at C ⊢
  have C : cC p s m args meth c cX11_fuzzy 3 (some .int) A D Y tp dp RX11 := C
  refine cg_lv (lv' := [(0, .ref o1), (1, .int (nI n1)), (2, .int (nI n2))]) rfl ?_
  refine cg_iload_n C (i := 1) rfl 1 rfl dX11_fuzzy_0 ?_
  refine cg_callsv C (z30_X11_checkField l hlt S dp n1 (by omega)) cc_X11_152 rfl ⟨by decide, by decide⟩ ⟨by decide, by decide⟩ rfl (Nat.le_of_ble_eq_true rfl) dX11_fuzzy_1 (fun u_1 h_1 => ?_)
  have hu_1 := h_1
  have hw_1 := hu_1.symm
  subst hw_1
  refine cg_iload_n C (i := 2) rfl 2 rfl dX11_fuzzy_4 ?_
  refine cg_if_ltN C (by omega) 13 (by decide) dX11_fuzzy_5 ?_
  refine cg_iload_n C (i := 2) rfl 2 rfl dX11_fuzzy_8 ?_
  refine cg_iconst C (x := nI 2) rfl dX11_fuzzy_9 ?_
  refine cg_icmp_leN C (by omega) (by omega) 24 (by decide) dX11_fuzzy_10 (fun c_ => absurd c_ (by omega)) (fun c_10 => ?_)
  exact cg_throw1W C hlt hne "the number of edits is out of range" ce_X11_100 cei_1 (by decide) dX11_fuzzy_13 dX11_fuzzy_16 dX11_fuzzy_17 dX11_fuzzy_20 dX11_fuzzy_23 (by decide) (by decide) ⟨by decide, by decide⟩ ⟨by decide, by decide⟩ rfl
set_option maxHeartbeats 4000000 in
set_option maxRecDepth 100000 in
theorem z320_L_fuzzy (l : Launch) (hlt : l.stackTraces = false) (S : cS) (dp : Nat) (o1 o2 : Nat) (n1 n2 : Nat) (h1 : n1 ≤ 1) (h2 : 3 ≤ n2) (h3 : n2 ≤ 2147483647) (h4 : o1 ∈ cL S) (h5 : cK S o1 = 11) : cMetW (cQi (fun r_ u_ => r_ = (nI 2) ∧ u_ = S)) l yL_fuzzy cL_fuzzy 5 (some .int) [(0, 10, 13, 28), (0, 10, 17, 13), (0, 10, 21, 15)] 7 1 6 104 [.ref o1, .int (nI n1), .int (nI n2), .ref o2] S dp := by
  intro D Y tp sz
  refine cg_bodyW (by decide +kernel) (Nat.le_of_ble_eq_true rfl) ?_
  intro p e s m args below meth c C htab
  generalize va_A (cWd Y S) sz = A at C ⊢
  have C : cC p s m args meth c cL_fuzzy 5 (some .int) A D Y tp dp RL := C
  refine cg_lv (lv' := [(0, .ref o1), (1, .int (nI n1)), (2, .int (nI n2)), (3, .ref o2)]) rfl ?_
  refine cg_aload_n C (i := 3) rfl 3 rfl dL_fuzzy_0 ?_
  refine cg_iconst C (x := nI 0) rfl dL_fuzzy_1 ?_
  refine cg_aload_n C (i := 0) rfl 0 rfl dL_fuzzy_2 ?_
  refine cg_iload_n C (i := 1) rfl 1 rfl dL_fuzzy_3 ?_
  refine cg_iload_n C (i := 2) rfl 2 rfl dL_fuzzy_4 ?_
  refine cg_callx_catch C htab (z319_X11_fuzzy l hlt S dp o1 n1 n2 (by omega) (by omega) (by omega)) cc_L_135 h4 h5 (by decide) rfl rfl ⟨by decide, by decide⟩ ⟨by decide, by decide⟩ rfl (Nat.le_of_ble_eq_true rfl) dL_fuzzy_5 (tableOf [(0, 10, 13, 28)]) ⟨0, 10, 17, 13⟩ (tableOf [(0, 10, 21, 15)]) rfl (fun z hz => by
        rcases List.mem_cons.mp hz with rfl | hz
        · exact ⟨by decide, "java/lang/IndexOutOfBoundsException", ce_L_28, by decide⟩
        exact nomatch hz) (by decide) (by decide) (name := "java/lang/IllegalArgumentException") ce_L_13 (by decide) 17 rfl (fun x_5 u_5 h_5 => ?_)
  have hu_5 := h_5
  have hw_5 := hu_5.symm
  subst hw_5
  refine cg_astore (lv' := [(4, .ref x_5), (0, .ref o1), (1, .int (nI n1)), (2, .int (nI n2)), (3, .ref o2)]) C (Nat.le_of_ble_eq_true rfl) rfl dL_fuzzy_17 ?_
  refine cg_iconst C (x := nI 2) rfl dL_fuzzy_19 ?_
  exact cg_iret C ⟨rfl, rfl⟩ dL_fuzzy_20 (by decide) (by decide)
set_option maxHeartbeats 4000000 in
set_option maxRecDepth 100000 in
theorem z321_X11_fuzzy (l : Launch) (hlt : l.stackTraces = false) (S : cS) (dp : Nat) (o1 : Nat) (n1 : Nat) (x1 : Int32) (h1 : 2 ≤ n1) (h2 : n1 ≤ 2147483647) : cMetX "java/lang/IndexOutOfBoundsException" (fun u_ => u_ = S) l yX11_fuzzy cX11_fuzzy 3 (some .int) 7 1 6 102 [.ref o1, .int (nI n1), .int x1] S dp := by
  intro D Y tp sz
  refine cg_bodyX (by decide +kernel) (Nat.le_of_ble_eq_true rfl) ?_
  intro p e s m args below meth c C hne
  generalize va_A (cWd Y S) sz = A at C ⊢
  have C : cC p s m args meth c cX11_fuzzy 3 (some .int) A D Y tp dp RX11 := C
  refine cg_lv (lv' := [(0, .ref o1), (1, .int (nI n1)), (2, .int x1)]) rfl ?_
  refine cg_iload_n C (i := 1) rfl 1 rfl dX11_fuzzy_0 ?_
  exact cg_callsx C hne (z40_X11_checkField l hlt S dp n1 (by omega) (by omega)) cc_X11_152 rfl ⟨by decide, by decide⟩ ⟨by decide, by decide⟩ rfl (Nat.le_of_ble_eq_true rfl) dX11_fuzzy_1 ⟨by decide, by decide⟩ (fun u_ h_ => by
      have hu_ := h_
      exact hu_)
set_option maxHeartbeats 4000000 in
set_option maxRecDepth 100000 in
theorem z322_L_fuzzy (l : Launch) (hlt : l.stackTraces = false) (S : cS) (dp : Nat) (o1 o2 : Nat) (n1 : Nat) (x1 : Int32) (h1 : 2 ≤ n1) (h2 : n1 ≤ 2147483647) (h3 : o1 ∈ cL S) (h4 : cK S o1 = 11) : cMetW (cQi (fun r_ u_ => r_ = (nI 1) ∧ u_ = S)) l yL_fuzzy cL_fuzzy 5 (some .int) [(0, 10, 13, 28), (0, 10, 17, 13), (0, 10, 21, 15)] 8 1 6 124 [.ref o1, .int (nI n1), .int x1, .ref o2] S dp := by
  intro D Y tp sz
  refine cg_bodyW (by decide +kernel) (Nat.le_of_ble_eq_true rfl) ?_
  intro p e s m args below meth c C htab
  generalize va_A (cWd Y S) sz = A at C ⊢
  have C : cC p s m args meth c cL_fuzzy 5 (some .int) A D Y tp dp RL := C
  refine cg_lv (lv' := [(0, .ref o1), (1, .int (nI n1)), (2, .int x1), (3, .ref o2)]) rfl ?_
  refine cg_aload_n C (i := 3) rfl 3 rfl dL_fuzzy_0 ?_
  refine cg_iconst C (x := nI 0) rfl dL_fuzzy_1 ?_
  refine cg_aload_n C (i := 0) rfl 0 rfl dL_fuzzy_2 ?_
  refine cg_iload_n C (i := 1) rfl 1 rfl dL_fuzzy_3 ?_
  refine cg_iload_n C (i := 2) rfl 2 rfl dL_fuzzy_4 ?_
  refine cg_callx_catch C htab (z321_X11_fuzzy l hlt S dp o1 n1 x1 (by omega) (by omega)) cc_L_135 h3 h4 (by decide) rfl rfl ⟨by decide, by decide⟩ ⟨by decide, by decide⟩ rfl (Nat.le_of_ble_eq_true rfl) dL_fuzzy_5 (tableOf []) ⟨0, 10, 13, 28⟩ (tableOf [(0, 10, 17, 13), (0, 10, 21, 15)]) rfl (fun z hz => nomatch hz) (by decide) (by decide) (name := "java/lang/IndexOutOfBoundsException") ce_L_28 (by decide) 13 rfl (fun x_5 u_5 h_5 => ?_)
  have hu_5 := h_5
  have hw_5 := hu_5.symm
  subst hw_5
  refine cg_astore (lv' := [(4, .ref x_5), (0, .ref o1), (1, .int (nI n1)), (2, .int x1), (3, .ref o2)]) C (Nat.le_of_ble_eq_true rfl) rfl dL_fuzzy_13 ?_
  refine cg_iconst C (x := nI 1) rfl dL_fuzzy_15 ?_
  exact cg_iret C ⟨rfl, rfl⟩ dL_fuzzy_16 (by decide) (by decide)
set_option maxHeartbeats 4000000 in
set_option maxRecDepth 100000 in
theorem z323_X11_fuzzy (l : Launch) (hlt : l.stackTraces = false) (S : cS) (dp : Nat) (o1 : Nat) (n1 : Nat) (x1 : Int32) (h1 : 2 ≤ n1) (h2 : n1 ≤ 2147483647) (h3 : x1 < 0) : cMetX "java/lang/IndexOutOfBoundsException" (fun u_ => u_ = S) l yX11_fuzzy cX11_fuzzy 3 (some .int) 7 1 6 102 [.ref o1, .int (nI n1), .int x1] S dp := by
  intro D Y tp sz
  refine cg_bodyX (by decide +kernel) (Nat.le_of_ble_eq_true rfl) ?_
  intro p e s m args below meth c C hne
  generalize va_A (cWd Y S) sz = A at C ⊢
  have C : cC p s m args meth c cX11_fuzzy 3 (some .int) A D Y tp dp RX11 := C
  refine cg_lv (lv' := [(0, .ref o1), (1, .int (nI n1)), (2, .int x1)]) rfl ?_
  refine cg_iload_n C (i := 1) rfl 1 rfl dX11_fuzzy_0 ?_
  exact cg_callsx C hne (z40_X11_checkField l hlt S dp n1 (by omega) (by omega)) cc_X11_152 rfl ⟨by decide, by decide⟩ ⟨by decide, by decide⟩ rfl (Nat.le_of_ble_eq_true rfl) dX11_fuzzy_1 ⟨by decide, by decide⟩ (fun u_ h_ => by
      have hu_ := h_
      exact hu_)
set_option maxHeartbeats 4000000 in
set_option maxRecDepth 100000 in
theorem z324_L_fuzzy (l : Launch) (hlt : l.stackTraces = false) (S : cS) (dp : Nat) (o1 o2 : Nat) (n1 : Nat) (x1 : Int32) (h1 : 2 ≤ n1) (h2 : n1 ≤ 2147483647) (h3 : x1 < 0) (h4 : o1 ∈ cL S) (h5 : cK S o1 = 11) : cMetW (cQi (fun r_ u_ => r_ = (nI 1) ∧ u_ = S)) l yL_fuzzy cL_fuzzy 5 (some .int) [(0, 10, 13, 28), (0, 10, 17, 13), (0, 10, 21, 15)] 8 1 6 124 [.ref o1, .int (nI n1), .int x1, .ref o2] S dp := by
  intro D Y tp sz
  refine cg_bodyW (by decide +kernel) (Nat.le_of_ble_eq_true rfl) ?_
  intro p e s m args below meth c C htab
  generalize va_A (cWd Y S) sz = A at C ⊢
  have C : cC p s m args meth c cL_fuzzy 5 (some .int) A D Y tp dp RL := C
  refine cg_lv (lv' := [(0, .ref o1), (1, .int (nI n1)), (2, .int x1), (3, .ref o2)]) rfl ?_
  refine cg_aload_n C (i := 3) rfl 3 rfl dL_fuzzy_0 ?_
  refine cg_iconst C (x := nI 0) rfl dL_fuzzy_1 ?_
  refine cg_aload_n C (i := 0) rfl 0 rfl dL_fuzzy_2 ?_
  refine cg_iload_n C (i := 1) rfl 1 rfl dL_fuzzy_3 ?_
  refine cg_iload_n C (i := 2) rfl 2 rfl dL_fuzzy_4 ?_
  refine cg_callx_catch C htab (z323_X11_fuzzy l hlt S dp o1 n1 x1 (by omega) (by omega) h3) cc_L_135 h4 h5 (by decide) rfl rfl ⟨by decide, by decide⟩ ⟨by decide, by decide⟩ rfl (Nat.le_of_ble_eq_true rfl) dL_fuzzy_5 (tableOf []) ⟨0, 10, 13, 28⟩ (tableOf [(0, 10, 17, 13), (0, 10, 21, 15)]) rfl (fun z hz => nomatch hz) (by decide) (by decide) (name := "java/lang/IndexOutOfBoundsException") ce_L_28 (by decide) 13 rfl (fun x_5 u_5 h_5 => ?_)
  have hu_5 := h_5
  have hw_5 := hu_5.symm
  subst hw_5
  refine cg_astore (lv' := [(4, .ref x_5), (0, .ref o1), (1, .int (nI n1)), (2, .int x1), (3, .ref o2)]) C (Nat.le_of_ble_eq_true rfl) rfl dL_fuzzy_13 ?_
  refine cg_iconst C (x := nI 1) rfl dL_fuzzy_15 ?_
  exact cg_iret C ⟨rfl, rfl⟩ dL_fuzzy_16 (by decide) (by decide)
set_option maxHeartbeats 4000000 in
set_option maxRecDepth 100000 in
theorem z325_X11_fuzzy (l : Launch) (hlt : l.stackTraces = false) (S : cS) (dp : Nat) (o1 : Nat) (n1 n2 : Nat) (h1 : 2 ≤ n1) (h2 : n1 ≤ 2147483647) (h3 : n2 ≤ 2147483647) : cMetX "java/lang/IndexOutOfBoundsException" (fun u_ => u_ = S) l yX11_fuzzy cX11_fuzzy 3 (some .int) 7 1 6 102 [.ref o1, .int (nI n1), .int (nI n2)] S dp := by
  intro D Y tp sz
  refine cg_bodyX (by decide +kernel) (Nat.le_of_ble_eq_true rfl) ?_
  intro p e s m args below meth c C hne
  generalize va_A (cWd Y S) sz = A at C ⊢
  have C : cC p s m args meth c cX11_fuzzy 3 (some .int) A D Y tp dp RX11 := C
  refine cg_lv (lv' := [(0, .ref o1), (1, .int (nI n1)), (2, .int (nI n2))]) rfl ?_
  refine cg_iload_n C (i := 1) rfl 1 rfl dX11_fuzzy_0 ?_
  exact cg_callsx C hne (z40_X11_checkField l hlt S dp n1 (by omega) (by omega)) cc_X11_152 rfl ⟨by decide, by decide⟩ ⟨by decide, by decide⟩ rfl (Nat.le_of_ble_eq_true rfl) dX11_fuzzy_1 ⟨by decide, by decide⟩ (fun u_ h_ => by
      have hu_ := h_
      exact hu_)
set_option maxHeartbeats 4000000 in
set_option maxRecDepth 100000 in
theorem z326_L_fuzzy (l : Launch) (hlt : l.stackTraces = false) (S : cS) (dp : Nat) (o1 o2 : Nat) (n1 n2 : Nat) (h1 : 2 ≤ n1) (h2 : n1 ≤ 2147483647) (h3 : n2 ≤ 2147483647) (h4 : o1 ∈ cL S) (h5 : cK S o1 = 11) : cMetW (cQi (fun r_ u_ => r_ = (nI 1) ∧ u_ = S)) l yL_fuzzy cL_fuzzy 5 (some .int) [(0, 10, 13, 28), (0, 10, 17, 13), (0, 10, 21, 15)] 8 1 6 124 [.ref o1, .int (nI n1), .int (nI n2), .ref o2] S dp := by
  intro D Y tp sz
  refine cg_bodyW (by decide +kernel) (Nat.le_of_ble_eq_true rfl) ?_
  intro p e s m args below meth c C htab
  generalize va_A (cWd Y S) sz = A at C ⊢
  have C : cC p s m args meth c cL_fuzzy 5 (some .int) A D Y tp dp RL := C
  refine cg_lv (lv' := [(0, .ref o1), (1, .int (nI n1)), (2, .int (nI n2)), (3, .ref o2)]) rfl ?_
  refine cg_aload_n C (i := 3) rfl 3 rfl dL_fuzzy_0 ?_
  refine cg_iconst C (x := nI 0) rfl dL_fuzzy_1 ?_
  refine cg_aload_n C (i := 0) rfl 0 rfl dL_fuzzy_2 ?_
  refine cg_iload_n C (i := 1) rfl 1 rfl dL_fuzzy_3 ?_
  refine cg_iload_n C (i := 2) rfl 2 rfl dL_fuzzy_4 ?_
  refine cg_callx_catch C htab (z325_X11_fuzzy l hlt S dp o1 n1 n2 (by omega) (by omega) (by omega)) cc_L_135 h4 h5 (by decide) rfl rfl ⟨by decide, by decide⟩ ⟨by decide, by decide⟩ rfl (Nat.le_of_ble_eq_true rfl) dL_fuzzy_5 (tableOf []) ⟨0, 10, 13, 28⟩ (tableOf [(0, 10, 17, 13), (0, 10, 21, 15)]) rfl (fun z hz => nomatch hz) (by decide) (by decide) (name := "java/lang/IndexOutOfBoundsException") ce_L_28 (by decide) 13 rfl (fun x_5 u_5 h_5 => ?_)
  have hu_5 := h_5
  have hw_5 := hu_5.symm
  subst hw_5
  refine cg_astore (lv' := [(4, .ref x_5), (0, .ref o1), (1, .int (nI n1)), (2, .int (nI n2)), (3, .ref o2)]) C (Nat.le_of_ble_eq_true rfl) rfl dL_fuzzy_13 ?_
  refine cg_iconst C (x := nI 1) rfl dL_fuzzy_15 ?_
  exact cg_iret C ⟨rfl, rfl⟩ dL_fuzzy_16 (by decide) (by decide)
set_option maxHeartbeats 4000000 in
set_option maxRecDepth 100000 in
theorem z327_X11_fuzzy (l : Launch) (hlt : l.stackTraces = false) (S : cS) (dp : Nat) (o1 : Nat) (n1 n2 : Nat) (h1 : 2 ≤ n1) (h2 : n1 ≤ 2147483647) (h3 : n2 ≤ 2) : cMetX "java/lang/IndexOutOfBoundsException" (fun u_ => u_ = S) l yX11_fuzzy cX11_fuzzy 3 (some .int) 7 1 6 102 [.ref o1, .int (nI n1), .int (nI n2)] S dp := by
  intro D Y tp sz
  refine cg_bodyX (by decide +kernel) (Nat.le_of_ble_eq_true rfl) ?_
  intro p e s m args below meth c C hne
  generalize va_A (cWd Y S) sz = A at C ⊢
  have C : cC p s m args meth c cX11_fuzzy 3 (some .int) A D Y tp dp RX11 := C
  refine cg_lv (lv' := [(0, .ref o1), (1, .int (nI n1)), (2, .int (nI n2))]) rfl ?_
  refine cg_iload_n C (i := 1) rfl 1 rfl dX11_fuzzy_0 ?_
  exact cg_callsx C hne (z40_X11_checkField l hlt S dp n1 (by omega) (by omega)) cc_X11_152 rfl ⟨by decide, by decide⟩ ⟨by decide, by decide⟩ rfl (Nat.le_of_ble_eq_true rfl) dX11_fuzzy_1 ⟨by decide, by decide⟩ (fun u_ h_ => by
      have hu_ := h_
      exact hu_)
set_option maxHeartbeats 4000000 in
set_option maxRecDepth 100000 in
theorem z328_L_fuzzy (l : Launch) (hlt : l.stackTraces = false) (S : cS) (dp : Nat) (o1 o2 : Nat) (n1 n2 : Nat) (h1 : 2 ≤ n1) (h2 : n1 ≤ 2147483647) (h3 : n2 ≤ 2) (h4 : o1 ∈ cL S) (h5 : cK S o1 = 11) : cMetW (cQi (fun r_ u_ => r_ = (nI 1) ∧ u_ = S)) l yL_fuzzy cL_fuzzy 5 (some .int) [(0, 10, 13, 28), (0, 10, 17, 13), (0, 10, 21, 15)] 8 1 6 124 [.ref o1, .int (nI n1), .int (nI n2), .ref o2] S dp := by
  intro D Y tp sz
  refine cg_bodyW (by decide +kernel) (Nat.le_of_ble_eq_true rfl) ?_
  intro p e s m args below meth c C htab
  generalize va_A (cWd Y S) sz = A at C ⊢
  have C : cC p s m args meth c cL_fuzzy 5 (some .int) A D Y tp dp RL := C
  refine cg_lv (lv' := [(0, .ref o1), (1, .int (nI n1)), (2, .int (nI n2)), (3, .ref o2)]) rfl ?_
  refine cg_aload_n C (i := 3) rfl 3 rfl dL_fuzzy_0 ?_
  refine cg_iconst C (x := nI 0) rfl dL_fuzzy_1 ?_
  refine cg_aload_n C (i := 0) rfl 0 rfl dL_fuzzy_2 ?_
  refine cg_iload_n C (i := 1) rfl 1 rfl dL_fuzzy_3 ?_
  refine cg_iload_n C (i := 2) rfl 2 rfl dL_fuzzy_4 ?_
  refine cg_callx_catch C htab (z327_X11_fuzzy l hlt S dp o1 n1 n2 (by omega) (by omega) (by omega)) cc_L_135 h4 h5 (by decide) rfl rfl ⟨by decide, by decide⟩ ⟨by decide, by decide⟩ rfl (Nat.le_of_ble_eq_true rfl) dL_fuzzy_5 (tableOf []) ⟨0, 10, 13, 28⟩ (tableOf [(0, 10, 17, 13), (0, 10, 21, 15)]) rfl (fun z hz => nomatch hz) (by decide) (by decide) (name := "java/lang/IndexOutOfBoundsException") ce_L_28 (by decide) 13 rfl (fun x_5 u_5 h_5 => ?_)
  have hu_5 := h_5
  have hw_5 := hu_5.symm
  subst hw_5
  refine cg_astore (lv' := [(4, .ref x_5), (0, .ref o1), (1, .int (nI n1)), (2, .int (nI n2)), (3, .ref o2)]) C (Nat.le_of_ble_eq_true rfl) rfl dL_fuzzy_13 ?_
  refine cg_iconst C (x := nI 1) rfl dL_fuzzy_15 ?_
  exact cg_iret C ⟨rfl, rfl⟩ dL_fuzzy_16 (by decide) (by decide)
set_option maxHeartbeats 4000000 in
set_option maxRecDepth 100000 in
theorem z329_X11_fuzzy (l : Launch) (hlt : l.stackTraces = false) (S : cS) (dp : Nat) (o1 : Nat) (n1 n2 : Nat) (h1 : 2 ≤ n1) (h2 : n1 ≤ 2147483647) (h3 : 3 ≤ n2) (h4 : n2 ≤ 2147483647) : cMetX "java/lang/IndexOutOfBoundsException" (fun u_ => u_ = S) l yX11_fuzzy cX11_fuzzy 3 (some .int) 7 1 6 102 [.ref o1, .int (nI n1), .int (nI n2)] S dp := by
  intro D Y tp sz
  refine cg_bodyX (by decide +kernel) (Nat.le_of_ble_eq_true rfl) ?_
  intro p e s m args below meth c C hne
  generalize va_A (cWd Y S) sz = A at C ⊢
  have C : cC p s m args meth c cX11_fuzzy 3 (some .int) A D Y tp dp RX11 := C
  refine cg_lv (lv' := [(0, .ref o1), (1, .int (nI n1)), (2, .int (nI n2))]) rfl ?_
  refine cg_iload_n C (i := 1) rfl 1 rfl dX11_fuzzy_0 ?_
  exact cg_callsx C hne (z40_X11_checkField l hlt S dp n1 (by omega) (by omega)) cc_X11_152 rfl ⟨by decide, by decide⟩ ⟨by decide, by decide⟩ rfl (Nat.le_of_ble_eq_true rfl) dX11_fuzzy_1 ⟨by decide, by decide⟩ (fun u_ h_ => by
      have hu_ := h_
      exact hu_)
set_option maxHeartbeats 4000000 in
set_option maxRecDepth 100000 in
theorem z330_L_fuzzy (l : Launch) (hlt : l.stackTraces = false) (S : cS) (dp : Nat) (o1 o2 : Nat) (n1 n2 : Nat) (h1 : 2 ≤ n1) (h2 : n1 ≤ 2147483647) (h3 : 3 ≤ n2) (h4 : n2 ≤ 2147483647) (h5 : o1 ∈ cL S) (h6 : cK S o1 = 11) : cMetW (cQi (fun r_ u_ => r_ = (nI 1) ∧ u_ = S)) l yL_fuzzy cL_fuzzy 5 (some .int) [(0, 10, 13, 28), (0, 10, 17, 13), (0, 10, 21, 15)] 8 1 6 124 [.ref o1, .int (nI n1), .int (nI n2), .ref o2] S dp := by
  intro D Y tp sz
  refine cg_bodyW (by decide +kernel) (Nat.le_of_ble_eq_true rfl) ?_
  intro p e s m args below meth c C htab
  generalize va_A (cWd Y S) sz = A at C ⊢
  have C : cC p s m args meth c cL_fuzzy 5 (some .int) A D Y tp dp RL := C
  refine cg_lv (lv' := [(0, .ref o1), (1, .int (nI n1)), (2, .int (nI n2)), (3, .ref o2)]) rfl ?_
  refine cg_aload_n C (i := 3) rfl 3 rfl dL_fuzzy_0 ?_
  refine cg_iconst C (x := nI 0) rfl dL_fuzzy_1 ?_
  refine cg_aload_n C (i := 0) rfl 0 rfl dL_fuzzy_2 ?_
  refine cg_iload_n C (i := 1) rfl 1 rfl dL_fuzzy_3 ?_
  refine cg_iload_n C (i := 2) rfl 2 rfl dL_fuzzy_4 ?_
  refine cg_callx_catch C htab (z329_X11_fuzzy l hlt S dp o1 n1 n2 (by omega) (by omega) (by omega) (by omega)) cc_L_135 h5 h6 (by decide) rfl rfl ⟨by decide, by decide⟩ ⟨by decide, by decide⟩ rfl (Nat.le_of_ble_eq_true rfl) dL_fuzzy_5 (tableOf []) ⟨0, 10, 13, 28⟩ (tableOf [(0, 10, 17, 13), (0, 10, 21, 15)]) rfl (fun z hz => nomatch hz) (by decide) (by decide) (name := "java/lang/IndexOutOfBoundsException") ce_L_28 (by decide) 13 rfl (fun x_5 u_5 h_5 => ?_)
  have hu_5 := h_5
  have hw_5 := hu_5.symm
  subst hw_5
  refine cg_astore (lv' := [(4, .ref x_5), (0, .ref o1), (1, .int (nI n1)), (2, .int (nI n2)), (3, .ref o2)]) C (Nat.le_of_ble_eq_true rfl) rfl dL_fuzzy_13 ?_
  refine cg_iconst C (x := nI 1) rfl dL_fuzzy_15 ?_
  exact cg_iret C ⟨rfl, rfl⟩ dL_fuzzy_16 (by decide) (by decide)
set_option maxHeartbeats 4000000 in
set_option maxRecDepth 100000 in
theorem z331_X11_least (l : Launch) (hlt : l.stackTraces = false) (S : cS) (dp : Nat) (o1 : Nat) (x1 x2 : Int32) (h1 : x1 < 0) : cMetX "java/lang/IllegalArgumentException" (fun u_ => u_ = S) l yX11_least cX11_least 3 (some .int) 6 1 6 82 [.ref o1, .int x1, .int x2] S dp := by
  intro D Y tp sz
  refine cg_bodyX (by decide +kernel) (Nat.le_of_ble_eq_true rfl) ?_
  intro p e s m args below meth c C hne
  generalize va_A (cWd Y S) sz = A at C ⊢
  have C : cC p s m args meth c cX11_least 3 (some .int) A D Y tp dp RX11 := C
  refine cg_lv (lv' := [(0, .ref o1), (1, .int x1), (2, .int x2)]) rfl ?_
  refine cg_iload_n C (i := 1) rfl 1 rfl dX11_least_0 ?_
  refine cg_iconst C (x := nI 2) rfl dX11_least_1 ?_
  refine cg_icmp_lt C 21 (by decide) dX11_least_2 (fun c_2 => ?_) (fun c_ => absurd (cneg_lt h1 (by omega)) c_)
  exact cg_throw1W C hlt hne "the number of parts is out of range" ce_X11_100 cei_1 (by decide) dX11_least_21 dX11_least_24 dX11_least_25 dX11_least_28 dX11_least_31 (by decide) (by decide) ⟨by decide, by decide⟩ ⟨by decide, by decide⟩ rfl
set_option maxHeartbeats 4000000 in
set_option maxRecDepth 100000 in
theorem z332_L_least (l : Launch) (hlt : l.stackTraces = false) (S : cS) (dp : Nat) (o1 o2 : Nat) (x1 x2 : Int32) (h1 : x1 < 0) (h2 : o1 ∈ cL S) (h3 : cK S o1 = 11) : cMetW (cQi (fun r_ u_ => r_ = (nI 1) ∧ u_ = S)) l yL_least cL_least 5 (some .int) [(0, 10, 13, 13), (0, 10, 17, 15)] 7 1 6 104 [.ref o1, .int x1, .int x2, .ref o2] S dp := by
  intro D Y tp sz
  refine cg_bodyW (by decide +kernel) (Nat.le_of_ble_eq_true rfl) ?_
  intro p e s m args below meth c C htab
  generalize va_A (cWd Y S) sz = A at C ⊢
  have C : cC p s m args meth c cL_least 5 (some .int) A D Y tp dp RL := C
  refine cg_lv (lv' := [(0, .ref o1), (1, .int x1), (2, .int x2), (3, .ref o2)]) rfl ?_
  refine cg_aload_n C (i := 3) rfl 3 rfl dL_least_0 ?_
  refine cg_iconst C (x := nI 0) rfl dL_least_1 ?_
  refine cg_aload_n C (i := 0) rfl 0 rfl dL_least_2 ?_
  refine cg_iload_n C (i := 1) rfl 1 rfl dL_least_3 ?_
  refine cg_iload_n C (i := 2) rfl 2 rfl dL_least_4 ?_
  refine cg_callx_catch C htab (z331_X11_least l hlt S dp o1 x1 x2 h1) cc_L_138 h2 h3 (by decide) rfl rfl ⟨by decide, by decide⟩ ⟨by decide, by decide⟩ rfl (Nat.le_of_ble_eq_true rfl) dL_least_5 (tableOf []) ⟨0, 10, 13, 13⟩ (tableOf [(0, 10, 17, 15)]) rfl (fun z hz => nomatch hz) (by decide) (by decide) (name := "java/lang/IllegalArgumentException") ce_L_13 (by decide) 13 rfl (fun x_5 u_5 h_5 => ?_)
  have hu_5 := h_5
  have hw_5 := hu_5.symm
  subst hw_5
  refine cg_astore (lv' := [(4, .ref x_5), (0, .ref o1), (1, .int x1), (2, .int x2), (3, .ref o2)]) C (Nat.le_of_ble_eq_true rfl) rfl dL_least_13 ?_
  refine cg_iconst C (x := nI 1) rfl dL_least_15 ?_
  exact cg_iret C ⟨rfl, rfl⟩ dL_least_16 (by decide) (by decide)
set_option maxHeartbeats 4000000 in
set_option maxRecDepth 100000 in
theorem z333_X11_least (l : Launch) (hlt : l.stackTraces = false) (S : cS) (dp : Nat) (o1 : Nat) (n1 : Nat) (x1 : Int32) (h1 : n1 ≤ 1) : cMetX "java/lang/IllegalArgumentException" (fun u_ => u_ = S) l yX11_least cX11_least 3 (some .int) 6 1 6 82 [.ref o1, .int (nI n1), .int x1] S dp := by
  intro D Y tp sz
  refine cg_bodyX (by decide +kernel) (Nat.le_of_ble_eq_true rfl) ?_
  intro p e s m args below meth c C hne
  generalize va_A (cWd Y S) sz = A at C ⊢
  have C : cC p s m args meth c cX11_least 3 (some .int) A D Y tp dp RX11 := C
  refine cg_lv (lv' := [(0, .ref o1), (1, .int (nI n1)), (2, .int x1)]) rfl ?_
  refine cg_iload_n C (i := 1) rfl 1 rfl dX11_least_0 ?_
  refine cg_iconst C (x := nI 2) rfl dX11_least_1 ?_
  refine cg_icmp_ltN C (by omega) (by omega) 21 (by decide) dX11_least_2 (fun c_2 => ?_) (fun c_ => absurd c_ (by omega))
  exact cg_throw1W C hlt hne "the number of parts is out of range" ce_X11_100 cei_1 (by decide) dX11_least_21 dX11_least_24 dX11_least_25 dX11_least_28 dX11_least_31 (by decide) (by decide) ⟨by decide, by decide⟩ ⟨by decide, by decide⟩ rfl
set_option maxHeartbeats 4000000 in
set_option maxRecDepth 100000 in
theorem z334_L_least (l : Launch) (hlt : l.stackTraces = false) (S : cS) (dp : Nat) (o1 o2 : Nat) (n1 : Nat) (x1 : Int32) (h1 : n1 ≤ 1) (h2 : o1 ∈ cL S) (h3 : cK S o1 = 11) : cMetW (cQi (fun r_ u_ => r_ = (nI 1) ∧ u_ = S)) l yL_least cL_least 5 (some .int) [(0, 10, 13, 13), (0, 10, 17, 15)] 7 1 6 104 [.ref o1, .int (nI n1), .int x1, .ref o2] S dp := by
  intro D Y tp sz
  refine cg_bodyW (by decide +kernel) (Nat.le_of_ble_eq_true rfl) ?_
  intro p e s m args below meth c C htab
  generalize va_A (cWd Y S) sz = A at C ⊢
  have C : cC p s m args meth c cL_least 5 (some .int) A D Y tp dp RL := C
  refine cg_lv (lv' := [(0, .ref o1), (1, .int (nI n1)), (2, .int x1), (3, .ref o2)]) rfl ?_
  refine cg_aload_n C (i := 3) rfl 3 rfl dL_least_0 ?_
  refine cg_iconst C (x := nI 0) rfl dL_least_1 ?_
  refine cg_aload_n C (i := 0) rfl 0 rfl dL_least_2 ?_
  refine cg_iload_n C (i := 1) rfl 1 rfl dL_least_3 ?_
  refine cg_iload_n C (i := 2) rfl 2 rfl dL_least_4 ?_
  refine cg_callx_catch C htab (z333_X11_least l hlt S dp o1 n1 x1 (by omega)) cc_L_138 h2 h3 (by decide) rfl rfl ⟨by decide, by decide⟩ ⟨by decide, by decide⟩ rfl (Nat.le_of_ble_eq_true rfl) dL_least_5 (tableOf []) ⟨0, 10, 13, 13⟩ (tableOf [(0, 10, 17, 15)]) rfl (fun z hz => nomatch hz) (by decide) (by decide) (name := "java/lang/IllegalArgumentException") ce_L_13 (by decide) 13 rfl (fun x_5 u_5 h_5 => ?_)
  have hu_5 := h_5
  have hw_5 := hu_5.symm
  subst hw_5
  refine cg_astore (lv' := [(4, .ref x_5), (0, .ref o1), (1, .int (nI n1)), (2, .int x1), (3, .ref o2)]) C (Nat.le_of_ble_eq_true rfl) rfl dL_least_13 ?_
  refine cg_iconst C (x := nI 1) rfl dL_least_15 ?_
  exact cg_iret C ⟨rfl, rfl⟩ dL_least_16 (by decide) (by decide)
set_option maxHeartbeats 4000000 in
set_option maxRecDepth 100000 in
theorem z335_X11_least (l : Launch) (hlt : l.stackTraces = false) (S : cS) (dp : Nat) (o1 : Nat) (x1 : Int32) : cMetX "java/lang/IllegalArgumentException" (fun u_ => u_ = S) l yX11_least cX11_least 3 (some .int) 6 1 6 82 [.ref o1, .int (nI 0), .int x1] S dp := by
  intro D Y tp sz
  refine cg_bodyX (by decide +kernel) (Nat.le_of_ble_eq_true rfl) ?_
  intro p e s m args below meth c C hne
  generalize va_A (cWd Y S) sz = A at C ⊢
  have C : cC p s m args meth c cX11_least 3 (some .int) A D Y tp dp RX11 := C
  refine cg_lv (lv' := [(0, .ref o1), (1, .int (nI 0)), (2, .int x1)]) rfl ?_
  refine cg_iload_n C (i := 1) rfl 1 rfl dX11_least_0 ?_
  refine cg_iconst C (x := nI 2) rfl dX11_least_1 ?_
  refine cg_icmp_ltN C (by omega) (by omega) 21 (by decide) dX11_least_2 (fun c_2 => ?_) (fun c_ => absurd c_ (by omega))
  exact cg_throw1W C hlt hne "the number of parts is out of range" ce_X11_100 cei_1 (by decide) dX11_least_21 dX11_least_24 dX11_least_25 dX11_least_28 dX11_least_31 (by decide) (by decide) ⟨by decide, by decide⟩ ⟨by decide, by decide⟩ rfl
set_option maxHeartbeats 4000000 in
set_option maxRecDepth 100000 in
theorem z336_L_least (l : Launch) (hlt : l.stackTraces = false) (S : cS) (dp : Nat) (o1 o2 : Nat) (x1 : Int32) (h1 : o1 ∈ cL S) (h2 : cK S o1 = 11) : cMetW (cQi (fun r_ u_ => r_ = (nI 1) ∧ u_ = S)) l yL_least cL_least 5 (some .int) [(0, 10, 13, 13), (0, 10, 17, 15)] 7 1 6 104 [.ref o1, .int (nI 0), .int x1, .ref o2] S dp := by
  intro D Y tp sz
  refine cg_bodyW (by decide +kernel) (Nat.le_of_ble_eq_true rfl) ?_
  intro p e s m args below meth c C htab
  generalize va_A (cWd Y S) sz = A at C ⊢
  have C : cC p s m args meth c cL_least 5 (some .int) A D Y tp dp RL := C
  refine cg_lv (lv' := [(0, .ref o1), (1, .int (nI 0)), (2, .int x1), (3, .ref o2)]) rfl ?_
  refine cg_aload_n C (i := 3) rfl 3 rfl dL_least_0 ?_
  refine cg_iconst C (x := nI 0) rfl dL_least_1 ?_
  refine cg_aload_n C (i := 0) rfl 0 rfl dL_least_2 ?_
  refine cg_iload_n C (i := 1) rfl 1 rfl dL_least_3 ?_
  refine cg_iload_n C (i := 2) rfl 2 rfl dL_least_4 ?_
  refine cg_callx_catch C htab (z335_X11_least l hlt S dp o1 x1) cc_L_138 h1 h2 (by decide) rfl rfl ⟨by decide, by decide⟩ ⟨by decide, by decide⟩ rfl (Nat.le_of_ble_eq_true rfl) dL_least_5 (tableOf []) ⟨0, 10, 13, 13⟩ (tableOf [(0, 10, 17, 15)]) rfl (fun z hz => nomatch hz) (by decide) (by decide) (name := "java/lang/IllegalArgumentException") ce_L_13 (by decide) 13 rfl (fun x_5 u_5 h_5 => ?_)
  have hu_5 := h_5
  have hw_5 := hu_5.symm
  subst hw_5
  refine cg_astore (lv' := [(4, .ref x_5), (0, .ref o1), (1, .int (nI 0)), (2, .int x1), (3, .ref o2)]) C (Nat.le_of_ble_eq_true rfl) rfl dL_least_13 ?_
  refine cg_iconst C (x := nI 1) rfl dL_least_15 ?_
  exact cg_iret C ⟨rfl, rfl⟩ dL_least_16 (by decide) (by decide)
set_option maxHeartbeats 4000000 in
set_option maxRecDepth 100000 in
theorem z337_X11_least (l : Launch) (hlt : l.stackTraces = false) (S : cS) (dp : Nat) (o1 : Nat) (x1 : Int32) : cMetX "java/lang/IllegalArgumentException" (fun u_ => u_ = S) l yX11_least cX11_least 3 (some .int) 6 1 6 82 [.ref o1, .int (nI 1), .int x1] S dp := by
  intro D Y tp sz
  refine cg_bodyX (by decide +kernel) (Nat.le_of_ble_eq_true rfl) ?_
  intro p e s m args below meth c C hne
  generalize va_A (cWd Y S) sz = A at C ⊢
  have C : cC p s m args meth c cX11_least 3 (some .int) A D Y tp dp RX11 := C
  refine cg_lv (lv' := [(0, .ref o1), (1, .int (nI 1)), (2, .int x1)]) rfl ?_
  refine cg_iload_n C (i := 1) rfl 1 rfl dX11_least_0 ?_
  refine cg_iconst C (x := nI 2) rfl dX11_least_1 ?_
  refine cg_icmp_ltN C (by omega) (by omega) 21 (by decide) dX11_least_2 (fun c_2 => ?_) (fun c_ => absurd c_ (by omega))
  exact cg_throw1W C hlt hne "the number of parts is out of range" ce_X11_100 cei_1 (by decide) dX11_least_21 dX11_least_24 dX11_least_25 dX11_least_28 dX11_least_31 (by decide) (by decide) ⟨by decide, by decide⟩ ⟨by decide, by decide⟩ rfl
set_option maxHeartbeats 4000000 in
set_option maxRecDepth 100000 in
theorem z338_L_least (l : Launch) (hlt : l.stackTraces = false) (S : cS) (dp : Nat) (o1 o2 : Nat) (x1 : Int32) (h1 : o1 ∈ cL S) (h2 : cK S o1 = 11) : cMetW (cQi (fun r_ u_ => r_ = (nI 1) ∧ u_ = S)) l yL_least cL_least 5 (some .int) [(0, 10, 13, 13), (0, 10, 17, 15)] 7 1 6 104 [.ref o1, .int (nI 1), .int x1, .ref o2] S dp := by
  intro D Y tp sz
  refine cg_bodyW (by decide +kernel) (Nat.le_of_ble_eq_true rfl) ?_
  intro p e s m args below meth c C htab
  generalize va_A (cWd Y S) sz = A at C ⊢
  have C : cC p s m args meth c cL_least 5 (some .int) A D Y tp dp RL := C
  refine cg_lv (lv' := [(0, .ref o1), (1, .int (nI 1)), (2, .int x1), (3, .ref o2)]) rfl ?_
  refine cg_aload_n C (i := 3) rfl 3 rfl dL_least_0 ?_
  refine cg_iconst C (x := nI 0) rfl dL_least_1 ?_
  refine cg_aload_n C (i := 0) rfl 0 rfl dL_least_2 ?_
  refine cg_iload_n C (i := 1) rfl 1 rfl dL_least_3 ?_
  refine cg_iload_n C (i := 2) rfl 2 rfl dL_least_4 ?_
  refine cg_callx_catch C htab (z337_X11_least l hlt S dp o1 x1) cc_L_138 h1 h2 (by decide) rfl rfl ⟨by decide, by decide⟩ ⟨by decide, by decide⟩ rfl (Nat.le_of_ble_eq_true rfl) dL_least_5 (tableOf []) ⟨0, 10, 13, 13⟩ (tableOf [(0, 10, 17, 15)]) rfl (fun z hz => nomatch hz) (by decide) (by decide) (name := "java/lang/IllegalArgumentException") ce_L_13 (by decide) 13 rfl (fun x_5 u_5 h_5 => ?_)
  have hu_5 := h_5
  have hw_5 := hu_5.symm
  subst hw_5
  refine cg_astore (lv' := [(4, .ref x_5), (0, .ref o1), (1, .int (nI 1)), (2, .int x1), (3, .ref o2)]) C (Nat.le_of_ble_eq_true rfl) rfl dL_least_13 ?_
  refine cg_iconst C (x := nI 1) rfl dL_least_15 ?_
  exact cg_iret C ⟨rfl, rfl⟩ dL_least_16 (by decide) (by decide)
set_option maxHeartbeats 4000000 in
set_option maxRecDepth 100000 in
theorem z339_X11_least (l : Launch) (hlt : l.stackTraces = false) (S : cS) (dp : Nat) (o1 : Nat) (n1 : Nat) (x1 : Int32) (h1 : 2 ≤ n1) (h2 : n1 ≤ 8) (h3 : x1 < 0) : cMetX "java/lang/IllegalArgumentException" (fun u_ => u_ = S) l yX11_least cX11_least 3 (some .int) 6 1 6 82 [.ref o1, .int (nI n1), .int x1] S dp := by
  intro D Y tp sz
  refine cg_bodyX (by decide +kernel) (Nat.le_of_ble_eq_true rfl) ?_
  intro p e s m args below meth c C hne
  generalize va_A (cWd Y S) sz = A at C ⊢
  have C : cC p s m args meth c cX11_least 3 (some .int) A D Y tp dp RX11 := C
  refine cg_lv (lv' := [(0, .ref o1), (1, .int (nI n1)), (2, .int x1)]) rfl ?_
  refine cg_iload_n C (i := 1) rfl 1 rfl dX11_least_0 ?_
  refine cg_iconst C (x := nI 2) rfl dX11_least_1 ?_
  refine cg_icmp_ltN C (by omega) (by omega) 21 (by decide) dX11_least_2 (fun c_ => absurd c_ (by omega)) (fun c_2 => ?_)
  refine cg_iload_n C (i := 1) rfl 1 rfl dX11_least_5 ?_
  refine cg_bipush C (x := nI 8) rfl dX11_least_6 ?_
  refine cg_icmp_gtN C (by omega) (by omega) 21 (by decide) dX11_least_8 (fun c_ => absurd c_ (by omega)) (fun c_8 => ?_)
  refine cg_iload_n C (i := 2) rfl 2 rfl dX11_least_11 ?_
  refine cg_iconst C (x := nI 1) rfl dX11_least_12 ?_
  refine cg_icmp_lt C 21 (by decide) dX11_least_13 (fun c_13 => ?_) (fun c_ => absurd (cneg_lt h3 (by omega)) c_)
  exact cg_throw1W C hlt hne "the number of parts is out of range" ce_X11_100 cei_1 (by decide) dX11_least_21 dX11_least_24 dX11_least_25 dX11_least_28 dX11_least_31 (by decide) (by decide) ⟨by decide, by decide⟩ ⟨by decide, by decide⟩ rfl
set_option maxHeartbeats 4000000 in
set_option maxRecDepth 100000 in
theorem z340_L_least (l : Launch) (hlt : l.stackTraces = false) (S : cS) (dp : Nat) (o1 o2 : Nat) (n1 : Nat) (x1 : Int32) (h1 : 2 ≤ n1) (h2 : n1 ≤ 8) (h3 : x1 < 0) (h4 : o1 ∈ cL S) (h5 : cK S o1 = 11) : cMetW (cQi (fun r_ u_ => r_ = (nI 1) ∧ u_ = S)) l yL_least cL_least 5 (some .int) [(0, 10, 13, 13), (0, 10, 17, 15)] 7 1 6 104 [.ref o1, .int (nI n1), .int x1, .ref o2] S dp := by
  intro D Y tp sz
  refine cg_bodyW (by decide +kernel) (Nat.le_of_ble_eq_true rfl) ?_
  intro p e s m args below meth c C htab
  generalize va_A (cWd Y S) sz = A at C ⊢
  have C : cC p s m args meth c cL_least 5 (some .int) A D Y tp dp RL := C
  refine cg_lv (lv' := [(0, .ref o1), (1, .int (nI n1)), (2, .int x1), (3, .ref o2)]) rfl ?_
  refine cg_aload_n C (i := 3) rfl 3 rfl dL_least_0 ?_
  refine cg_iconst C (x := nI 0) rfl dL_least_1 ?_
  refine cg_aload_n C (i := 0) rfl 0 rfl dL_least_2 ?_
  refine cg_iload_n C (i := 1) rfl 1 rfl dL_least_3 ?_
  refine cg_iload_n C (i := 2) rfl 2 rfl dL_least_4 ?_
  refine cg_callx_catch C htab (z339_X11_least l hlt S dp o1 n1 x1 (by omega) (by omega) h3) cc_L_138 h4 h5 (by decide) rfl rfl ⟨by decide, by decide⟩ ⟨by decide, by decide⟩ rfl (Nat.le_of_ble_eq_true rfl) dL_least_5 (tableOf []) ⟨0, 10, 13, 13⟩ (tableOf [(0, 10, 17, 15)]) rfl (fun z hz => nomatch hz) (by decide) (by decide) (name := "java/lang/IllegalArgumentException") ce_L_13 (by decide) 13 rfl (fun x_5 u_5 h_5 => ?_)
  have hu_5 := h_5
  have hw_5 := hu_5.symm
  subst hw_5
  refine cg_astore (lv' := [(4, .ref x_5), (0, .ref o1), (1, .int (nI n1)), (2, .int x1), (3, .ref o2)]) C (Nat.le_of_ble_eq_true rfl) rfl dL_least_13 ?_
  refine cg_iconst C (x := nI 1) rfl dL_least_15 ?_
  exact cg_iret C ⟨rfl, rfl⟩ dL_least_16 (by decide) (by decide)
set_option maxHeartbeats 4000000 in
set_option maxRecDepth 100000 in
theorem z341_X11_least (l : Launch) (hlt : l.stackTraces = false) (S : cS) (dp : Nat) (o1 : Nat) (n1 : Nat) (h1 : 2 ≤ n1) (h2 : n1 ≤ 8) : cMetX "java/lang/IllegalArgumentException" (fun u_ => u_ = S) l yX11_least cX11_least 3 (some .int) 6 1 6 82 [.ref o1, .int (nI n1), .int (nI 0)] S dp := by
  intro D Y tp sz
  refine cg_bodyX (by decide +kernel) (Nat.le_of_ble_eq_true rfl) ?_
  intro p e s m args below meth c C hne
  generalize va_A (cWd Y S) sz = A at C ⊢
  have C : cC p s m args meth c cX11_least 3 (some .int) A D Y tp dp RX11 := C
  refine cg_lv (lv' := [(0, .ref o1), (1, .int (nI n1)), (2, .int (nI 0))]) rfl ?_
  refine cg_iload_n C (i := 1) rfl 1 rfl dX11_least_0 ?_
  refine cg_iconst C (x := nI 2) rfl dX11_least_1 ?_
  refine cg_icmp_ltN C (by omega) (by omega) 21 (by decide) dX11_least_2 (fun c_ => absurd c_ (by omega)) (fun c_2 => ?_)
  refine cg_iload_n C (i := 1) rfl 1 rfl dX11_least_5 ?_
  refine cg_bipush C (x := nI 8) rfl dX11_least_6 ?_
  refine cg_icmp_gtN C (by omega) (by omega) 21 (by decide) dX11_least_8 (fun c_ => absurd c_ (by omega)) (fun c_8 => ?_)
  refine cg_iload_n C (i := 2) rfl 2 rfl dX11_least_11 ?_
  refine cg_iconst C (x := nI 1) rfl dX11_least_12 ?_
  refine cg_icmp_ltN C (by omega) (by omega) 21 (by decide) dX11_least_13 (fun c_13 => ?_) (fun c_ => absurd c_ (by omega))
  exact cg_throw1W C hlt hne "the number of parts is out of range" ce_X11_100 cei_1 (by decide) dX11_least_21 dX11_least_24 dX11_least_25 dX11_least_28 dX11_least_31 (by decide) (by decide) ⟨by decide, by decide⟩ ⟨by decide, by decide⟩ rfl
set_option maxHeartbeats 4000000 in
set_option maxRecDepth 100000 in
theorem z342_L_least (l : Launch) (hlt : l.stackTraces = false) (S : cS) (dp : Nat) (o1 o2 : Nat) (n1 : Nat) (h1 : 2 ≤ n1) (h2 : n1 ≤ 8) (h3 : o1 ∈ cL S) (h4 : cK S o1 = 11) : cMetW (cQi (fun r_ u_ => r_ = (nI 1) ∧ u_ = S)) l yL_least cL_least 5 (some .int) [(0, 10, 13, 13), (0, 10, 17, 15)] 7 1 6 104 [.ref o1, .int (nI n1), .int (nI 0), .ref o2] S dp := by
  intro D Y tp sz
  refine cg_bodyW (by decide +kernel) (Nat.le_of_ble_eq_true rfl) ?_
  intro p e s m args below meth c C htab
  generalize va_A (cWd Y S) sz = A at C ⊢
  have C : cC p s m args meth c cL_least 5 (some .int) A D Y tp dp RL := C
  refine cg_lv (lv' := [(0, .ref o1), (1, .int (nI n1)), (2, .int (nI 0)), (3, .ref o2)]) rfl ?_
  refine cg_aload_n C (i := 3) rfl 3 rfl dL_least_0 ?_
  refine cg_iconst C (x := nI 0) rfl dL_least_1 ?_
  refine cg_aload_n C (i := 0) rfl 0 rfl dL_least_2 ?_
  refine cg_iload_n C (i := 1) rfl 1 rfl dL_least_3 ?_
  refine cg_iload_n C (i := 2) rfl 2 rfl dL_least_4 ?_
  refine cg_callx_catch C htab (z341_X11_least l hlt S dp o1 n1 (by omega) (by omega)) cc_L_138 h3 h4 (by decide) rfl rfl ⟨by decide, by decide⟩ ⟨by decide, by decide⟩ rfl (Nat.le_of_ble_eq_true rfl) dL_least_5 (tableOf []) ⟨0, 10, 13, 13⟩ (tableOf [(0, 10, 17, 15)]) rfl (fun z hz => nomatch hz) (by decide) (by decide) (name := "java/lang/IllegalArgumentException") ce_L_13 (by decide) 13 rfl (fun x_5 u_5 h_5 => ?_)
  have hu_5 := h_5
  have hw_5 := hu_5.symm
  subst hw_5
  refine cg_astore (lv' := [(4, .ref x_5), (0, .ref o1), (1, .int (nI n1)), (2, .int (nI 0)), (3, .ref o2)]) C (Nat.le_of_ble_eq_true rfl) rfl dL_least_13 ?_
  refine cg_iconst C (x := nI 1) rfl dL_least_15 ?_
  exact cg_iret C ⟨rfl, rfl⟩ dL_least_16 (by decide) (by decide)
set_option maxHeartbeats 4000000 in
set_option maxRecDepth 100000 in
theorem z343_X11_least (l : Launch) (hlt : l.stackTraces = false) (S : cS) (dp : Nat) (o1 : Nat) (n1 n2 : Nat) (h1 : 2 ≤ n1) (h2 : n1 ≤ 8) (h3 : 1 ≤ n2) (h4 : n2 ≤ 2147483647) (h5 : n1 < n2) : cMetX "java/lang/IllegalArgumentException" (fun u_ => u_ = S) l yX11_least cX11_least 3 (some .int) 6 1 6 82 [.ref o1, .int (nI n1), .int (nI n2)] S dp := by
  intro D Y tp sz
  refine cg_bodyX (by decide +kernel) (Nat.le_of_ble_eq_true rfl) ?_
  intro p e s m args below meth c C hne
  generalize va_A (cWd Y S) sz = A at C ⊢
  have C : cC p s m args meth c cX11_least 3 (some .int) A D Y tp dp RX11 := C
  refine cg_lv (lv' := [(0, .ref o1), (1, .int (nI n1)), (2, .int (nI n2))]) rfl ?_
  refine cg_iload_n C (i := 1) rfl 1 rfl dX11_least_0 ?_
  refine cg_iconst C (x := nI 2) rfl dX11_least_1 ?_
  refine cg_icmp_ltN C (by omega) (by omega) 21 (by decide) dX11_least_2 (fun c_ => absurd c_ (by omega)) (fun c_2 => ?_)
  refine cg_iload_n C (i := 1) rfl 1 rfl dX11_least_5 ?_
  refine cg_bipush C (x := nI 8) rfl dX11_least_6 ?_
  refine cg_icmp_gtN C (by omega) (by omega) 21 (by decide) dX11_least_8 (fun c_ => absurd c_ (by omega)) (fun c_8 => ?_)
  refine cg_iload_n C (i := 2) rfl 2 rfl dX11_least_11 ?_
  refine cg_iconst C (x := nI 1) rfl dX11_least_12 ?_
  refine cg_icmp_ltN C (by omega) (by omega) 21 (by decide) dX11_least_13 (fun c_ => absurd c_ (by omega)) (fun c_13 => ?_)
  refine cg_iload_n C (i := 2) rfl 2 rfl dX11_least_16 ?_
  refine cg_iload_n C (i := 1) rfl 1 rfl dX11_least_17 ?_
  refine cg_icmp_leN C (by omega) (by omega) 32 (by decide) dX11_least_18 (fun c_ => absurd c_ (by omega)) (fun c_18 => ?_)
  exact cg_throw1W C hlt hne "the number of parts is out of range" ce_X11_100 cei_1 (by decide) dX11_least_21 dX11_least_24 dX11_least_25 dX11_least_28 dX11_least_31 (by decide) (by decide) ⟨by decide, by decide⟩ ⟨by decide, by decide⟩ rfl
set_option maxHeartbeats 4000000 in
set_option maxRecDepth 100000 in
theorem z344_L_least (l : Launch) (hlt : l.stackTraces = false) (S : cS) (dp : Nat) (o1 o2 : Nat) (n1 n2 : Nat) (h1 : 2 ≤ n1) (h2 : n1 ≤ 8) (h3 : 1 ≤ n2) (h4 : n2 ≤ 2147483647) (h5 : n1 < n2) (h6 : o1 ∈ cL S) (h7 : cK S o1 = 11) : cMetW (cQi (fun r_ u_ => r_ = (nI 1) ∧ u_ = S)) l yL_least cL_least 5 (some .int) [(0, 10, 13, 13), (0, 10, 17, 15)] 7 1 6 104 [.ref o1, .int (nI n1), .int (nI n2), .ref o2] S dp := by
  intro D Y tp sz
  refine cg_bodyW (by decide +kernel) (Nat.le_of_ble_eq_true rfl) ?_
  intro p e s m args below meth c C htab
  generalize va_A (cWd Y S) sz = A at C ⊢
  have C : cC p s m args meth c cL_least 5 (some .int) A D Y tp dp RL := C
  refine cg_lv (lv' := [(0, .ref o1), (1, .int (nI n1)), (2, .int (nI n2)), (3, .ref o2)]) rfl ?_
  refine cg_aload_n C (i := 3) rfl 3 rfl dL_least_0 ?_
  refine cg_iconst C (x := nI 0) rfl dL_least_1 ?_
  refine cg_aload_n C (i := 0) rfl 0 rfl dL_least_2 ?_
  refine cg_iload_n C (i := 1) rfl 1 rfl dL_least_3 ?_
  refine cg_iload_n C (i := 2) rfl 2 rfl dL_least_4 ?_
  refine cg_callx_catch C htab (z343_X11_least l hlt S dp o1 n1 n2 (by omega) (by omega) (by omega) (by omega) h5) cc_L_138 h6 h7 (by decide) rfl rfl ⟨by decide, by decide⟩ ⟨by decide, by decide⟩ rfl (Nat.le_of_ble_eq_true rfl) dL_least_5 (tableOf []) ⟨0, 10, 13, 13⟩ (tableOf [(0, 10, 17, 15)]) rfl (fun z hz => nomatch hz) (by decide) (by decide) (name := "java/lang/IllegalArgumentException") ce_L_13 (by decide) 13 rfl (fun x_5 u_5 h_5 => ?_)
  have hu_5 := h_5
  have hw_5 := hu_5.symm
  subst hw_5
  refine cg_astore (lv' := [(4, .ref x_5), (0, .ref o1), (1, .int (nI n1)), (2, .int (nI n2)), (3, .ref o2)]) C (Nat.le_of_ble_eq_true rfl) rfl dL_least_13 ?_
  refine cg_iconst C (x := nI 1) rfl dL_least_15 ?_
  exact cg_iret C ⟨rfl, rfl⟩ dL_least_16 (by decide) (by decide)
set_option maxHeartbeats 4000000 in
set_option maxRecDepth 100000 in
theorem z345_X11_checkParts (l : Launch) (hlt : l.stackTraces = false) (S : cS) (dp : Nat) (o1 o2 : Nat) (n1 : Nat) (h1 : 2 ≤ n1) (h2 : n1 ≤ 8) (h3 : cr S 362 o1 = (some o2)) (h4 : cK S o1 = 11) (h5 : o1 ∈ cL S) (h6 : ci S 195 o2 = (nI 0)) (h7 : cK S o2 = 6) (h8 : o2 ∈ cL S) : cMetX "java/lang/IllegalStateException" (fun u_ => u_ = S) l yX11_checkParts cX11_checkParts 2 none 6 1 6 82 [.ref o1, .int (nI n1)] S dp := by
  intro D Y tp sz
  refine cg_bodyX (by decide +kernel) (Nat.le_of_ble_eq_true rfl) ?_
  intro p e s m args below meth c C hne
  generalize va_A (cWd Y S) sz = A at C ⊢
  have C : cC p s m args meth c cX11_checkParts 2 none A D Y tp dp RX11 := C
  refine cg_lv (lv' := [(0, .ref o1), (1, .int (nI n1))]) rfl ?_
  refine cg_aload_n C (i := 0) rfl 0 rfl dX11_checkParts_0 ?_
  refine cg_get C (k := 11) (j := 10) (.ref o2) h5 h4 (by decide) rfl (by decide) rfl (show cV _ 11 10 o1 = _ from congrArg va_rf h3) cWs_wsX110 cl_X11_61 rfl dX11_checkParts_1 ?_
  refine cg_get C (k := 6) (j := 3) (.int (nI 0)) h8 h7 (by decide) rfl (by decide) rfl (show cV _ 6 3 o2 = _ from congrArg Value.int h6) cWs_wsX60 cl_X11_385 rfl dX11_checkParts_4 ?_
  refine cg_iload_n C (i := 1) rfl 1 rfl dX11_checkParts_7 ?_
  refine cg_icmp_geN C (by omega) (by omega) 22 (by decide) dX11_checkParts_8 (fun c_ => absurd c_ (by omega)) (fun c_8 => ?_)
  exact cg_throw2W C hlt hne "there are fewer parts" ce_X11_116 cei_2 (by decide) dX11_checkParts_11 dX11_checkParts_14 dX11_checkParts_15 dX11_checkParts_18 dX11_checkParts_21 (by decide) (by decide) ⟨by decide, by decide⟩ ⟨by decide, by decide⟩ rfl
set_option maxHeartbeats 4000000 in
set_option maxRecDepth 100000 in
theorem z346_X11_least (l : Launch) (hlt : l.stackTraces = false) (S : cS) (dp : Nat) (o1 o2 : Nat) (n1 n2 : Nat) (h1 : 2 ≤ n1) (h2 : n1 ≤ 8) (h3 : 1 ≤ n2) (h4 : n2 ≤ 2147483647) (h5 : n2 ≤ n1) (h6 : cr S 362 o1 = (some o2)) (h7 : cK S o1 = 11) (h8 : o1 ∈ cL S) (h9 : ci S 195 o2 = (nI 0)) (h10 : cK S o2 = 6) (h11 : o2 ∈ cL S) : cMetX "java/lang/IllegalStateException" (fun u_ => u_ = S) l yX11_least cX11_least 3 (some .int) 7 1 6 103 [.ref o1, .int (nI n1), .int (nI n2)] S dp := by
  intro D Y tp sz
  refine cg_bodyX (by decide +kernel) (Nat.le_of_ble_eq_true rfl) ?_
  intro p e s m args below meth c C hne
  generalize va_A (cWd Y S) sz = A at C ⊢
  have C : cC p s m args meth c cX11_least 3 (some .int) A D Y tp dp RX11 := C
  refine cg_lv (lv' := [(0, .ref o1), (1, .int (nI n1)), (2, .int (nI n2))]) rfl ?_
  refine cg_iload_n C (i := 1) rfl 1 rfl dX11_least_0 ?_
  refine cg_iconst C (x := nI 2) rfl dX11_least_1 ?_
  refine cg_icmp_ltN C (by omega) (by omega) 21 (by decide) dX11_least_2 (fun c_ => absurd c_ (by omega)) (fun c_2 => ?_)
  refine cg_iload_n C (i := 1) rfl 1 rfl dX11_least_5 ?_
  refine cg_bipush C (x := nI 8) rfl dX11_least_6 ?_
  refine cg_icmp_gtN C (by omega) (by omega) 21 (by decide) dX11_least_8 (fun c_ => absurd c_ (by omega)) (fun c_8 => ?_)
  refine cg_iload_n C (i := 2) rfl 2 rfl dX11_least_11 ?_
  refine cg_iconst C (x := nI 1) rfl dX11_least_12 ?_
  refine cg_icmp_ltN C (by omega) (by omega) 21 (by decide) dX11_least_13 (fun c_ => absurd c_ (by omega)) (fun c_13 => ?_)
  refine cg_iload_n C (i := 2) rfl 2 rfl dX11_least_16 ?_
  refine cg_iload_n C (i := 1) rfl 1 rfl dX11_least_17 ?_
  refine cg_icmp_leN C (by omega) (by omega) 32 (by decide) dX11_least_18 (fun c_18 => ?_) (fun c_ => absurd c_ (by omega))
  refine cg_aload_n C (i := 0) rfl 0 rfl dX11_least_32 ?_
  refine cg_iload_n C (i := 1) rfl 1 rfl dX11_least_33 ?_
  exact cg_callx C hne (z345_X11_checkParts l hlt S dp o1 o2 n1 (by omega) (by omega) h6 h7 h8 h9 h10 h11) cc_X11_372 h8 h7 (by decide) rfl rfl ⟨by decide, by decide⟩ ⟨by decide, by decide⟩ rfl (Nat.le_of_ble_eq_true rfl) dX11_least_34 ⟨by decide, by decide⟩ (fun u_ h_ => by
      have hu_ := h_
      exact hu_)
set_option maxHeartbeats 4000000 in
set_option maxRecDepth 100000 in
theorem z347_L_least (l : Launch) (hlt : l.stackTraces = false) (S : cS) (dp : Nat) (o1 o2 o3 : Nat) (n1 n2 : Nat) (h1 : 2 ≤ n1) (h2 : n1 ≤ 8) (h3 : 1 ≤ n2) (h4 : n2 ≤ 2147483647) (h5 : n2 ≤ n1) (h6 : cr S 362 o1 = (some o3)) (h7 : cK S o1 = 11) (h8 : o1 ∈ cL S) (h9 : ci S 195 o3 = (nI 0)) (h10 : cK S o3 = 6) (h11 : o3 ∈ cL S) : cMetW (cQi (fun r_ u_ => r_ = (nI 2) ∧ u_ = S)) l yL_least cL_least 5 (some .int) [(0, 10, 13, 13), (0, 10, 17, 15)] 8 1 6 125 [.ref o1, .int (nI n1), .int (nI n2), .ref o2] S dp := by
  intro D Y tp sz
  refine cg_bodyW (by decide +kernel) (Nat.le_of_ble_eq_true rfl) ?_
  intro p e s m args below meth c C htab
  generalize va_A (cWd Y S) sz = A at C ⊢
  have C : cC p s m args meth c cL_least 5 (some .int) A D Y tp dp RL := C
  refine cg_lv (lv' := [(0, .ref o1), (1, .int (nI n1)), (2, .int (nI n2)), (3, .ref o2)]) rfl ?_
  refine cg_aload_n C (i := 3) rfl 3 rfl dL_least_0 ?_
  refine cg_iconst C (x := nI 0) rfl dL_least_1 ?_
  refine cg_aload_n C (i := 0) rfl 0 rfl dL_least_2 ?_
  refine cg_iload_n C (i := 1) rfl 1 rfl dL_least_3 ?_
  refine cg_iload_n C (i := 2) rfl 2 rfl dL_least_4 ?_
  refine cg_callx_catch C htab (z346_X11_least l hlt S dp o1 o3 n1 n2 (by omega) (by omega) (by omega) (by omega) h5 h6 h7 h8 h9 h10 h11) cc_L_138 h8 h7 (by decide) rfl rfl ⟨by decide, by decide⟩ ⟨by decide, by decide⟩ rfl (Nat.le_of_ble_eq_true rfl) dL_least_5 (tableOf [(0, 10, 13, 13)]) ⟨0, 10, 17, 15⟩ (tableOf []) rfl (fun z hz => by
        rcases List.mem_cons.mp hz with rfl | hz
        · exact ⟨by decide, "java/lang/IllegalArgumentException", ce_L_13, by decide⟩
        exact nomatch hz) (by decide) (by decide) (name := "java/lang/IllegalStateException") ce_L_15 (by decide) 17 rfl (fun x_5 u_5 h_5 => ?_)
  have hu_5 := h_5
  have hw_5 := hu_5.symm
  subst hw_5
  refine cg_astore (lv' := [(4, .ref x_5), (0, .ref o1), (1, .int (nI n1)), (2, .int (nI n2)), (3, .ref o2)]) C (Nat.le_of_ble_eq_true rfl) rfl dL_least_17 ?_
  refine cg_iconst C (x := nI 2) rfl dL_least_19 ?_
  exact cg_iret C ⟨rfl, rfl⟩ dL_least_20 (by decide) (by decide)
set_option maxHeartbeats 4000000 in
set_option maxRecDepth 100000 in
theorem z348_X11_least (l : Launch) (hlt : l.stackTraces = false) (S : cS) (dp : Nat) (o1 : Nat) (n1 : Nat) (x1 : Int32) (h1 : 9 ≤ n1) (h2 : n1 ≤ 2147483647) : cMetX "java/lang/IllegalArgumentException" (fun u_ => u_ = S) l yX11_least cX11_least 3 (some .int) 6 1 6 82 [.ref o1, .int (nI n1), .int x1] S dp := by
  intro D Y tp sz
  refine cg_bodyX (by decide +kernel) (Nat.le_of_ble_eq_true rfl) ?_
  intro p e s m args below meth c C hne
  generalize va_A (cWd Y S) sz = A at C ⊢
  have C : cC p s m args meth c cX11_least 3 (some .int) A D Y tp dp RX11 := C
  refine cg_lv (lv' := [(0, .ref o1), (1, .int (nI n1)), (2, .int x1)]) rfl ?_
  refine cg_iload_n C (i := 1) rfl 1 rfl dX11_least_0 ?_
  refine cg_iconst C (x := nI 2) rfl dX11_least_1 ?_
  refine cg_icmp_ltN C (by omega) (by omega) 21 (by decide) dX11_least_2 (fun c_ => absurd c_ (by omega)) (fun c_2 => ?_)
  refine cg_iload_n C (i := 1) rfl 1 rfl dX11_least_5 ?_
  refine cg_bipush C (x := nI 8) rfl dX11_least_6 ?_
  refine cg_icmp_gtN C (by omega) (by omega) 21 (by decide) dX11_least_8 (fun c_8 => ?_) (fun c_ => absurd c_ (by omega))
  exact cg_throw1W C hlt hne "the number of parts is out of range" ce_X11_100 cei_1 (by decide) dX11_least_21 dX11_least_24 dX11_least_25 dX11_least_28 dX11_least_31 (by decide) (by decide) ⟨by decide, by decide⟩ ⟨by decide, by decide⟩ rfl
set_option maxHeartbeats 4000000 in
set_option maxRecDepth 100000 in
theorem z349_L_least (l : Launch) (hlt : l.stackTraces = false) (S : cS) (dp : Nat) (o1 o2 : Nat) (n1 : Nat) (x1 : Int32) (h1 : 9 ≤ n1) (h2 : n1 ≤ 2147483647) (h3 : o1 ∈ cL S) (h4 : cK S o1 = 11) : cMetW (cQi (fun r_ u_ => r_ = (nI 1) ∧ u_ = S)) l yL_least cL_least 5 (some .int) [(0, 10, 13, 13), (0, 10, 17, 15)] 7 1 6 104 [.ref o1, .int (nI n1), .int x1, .ref o2] S dp := by
  intro D Y tp sz
  refine cg_bodyW (by decide +kernel) (Nat.le_of_ble_eq_true rfl) ?_
  intro p e s m args below meth c C htab
  generalize va_A (cWd Y S) sz = A at C ⊢
  have C : cC p s m args meth c cL_least 5 (some .int) A D Y tp dp RL := C
  refine cg_lv (lv' := [(0, .ref o1), (1, .int (nI n1)), (2, .int x1), (3, .ref o2)]) rfl ?_
  refine cg_aload_n C (i := 3) rfl 3 rfl dL_least_0 ?_
  refine cg_iconst C (x := nI 0) rfl dL_least_1 ?_
  refine cg_aload_n C (i := 0) rfl 0 rfl dL_least_2 ?_
  refine cg_iload_n C (i := 1) rfl 1 rfl dL_least_3 ?_
  refine cg_iload_n C (i := 2) rfl 2 rfl dL_least_4 ?_
  refine cg_callx_catch C htab (z348_X11_least l hlt S dp o1 n1 x1 (by omega) (by omega)) cc_L_138 h3 h4 (by decide) rfl rfl ⟨by decide, by decide⟩ ⟨by decide, by decide⟩ rfl (Nat.le_of_ble_eq_true rfl) dL_least_5 (tableOf []) ⟨0, 10, 13, 13⟩ (tableOf [(0, 10, 17, 15)]) rfl (fun z hz => nomatch hz) (by decide) (by decide) (name := "java/lang/IllegalArgumentException") ce_L_13 (by decide) 13 rfl (fun x_5 u_5 h_5 => ?_)
  have hu_5 := h_5
  have hw_5 := hu_5.symm
  subst hw_5
  refine cg_astore (lv' := [(4, .ref x_5), (0, .ref o1), (1, .int (nI n1)), (2, .int x1), (3, .ref o2)]) C (Nat.le_of_ble_eq_true rfl) rfl dL_least_13 ?_
  refine cg_iconst C (x := nI 1) rfl dL_least_15 ?_
  exact cg_iret C ⟨rfl, rfl⟩ dL_least_16 (by decide) (by decide)
set_option maxHeartbeats 4000000 in
set_option maxRecDepth 100000 in
theorem z350_X11_checkParts (l : Launch) (hlt : l.stackTraces = false) (S : cS) (dp : Nat) (o1 o2 : Nat) (h1 : cr S 362 o1 = (some o2)) (h2 : cK S o1 = 11) (h3 : o1 ∈ cL S) (h4 : ci S 195 o2 = (nI 0)) (h5 : cK S o2 = 6) (h6 : o2 ∈ cL S) : cMetX "java/lang/IllegalStateException" (fun u_ => u_ = S) l yX11_checkParts cX11_checkParts 2 none 6 1 6 82 [.ref o1, .int (nI 2)] S dp := by
  intro D Y tp sz
  refine cg_bodyX (by decide +kernel) (Nat.le_of_ble_eq_true rfl) ?_
  intro p e s m args below meth c C hne
  generalize va_A (cWd Y S) sz = A at C ⊢
  have C : cC p s m args meth c cX11_checkParts 2 none A D Y tp dp RX11 := C
  refine cg_lv (lv' := [(0, .ref o1), (1, .int (nI 2))]) rfl ?_
  refine cg_aload_n C (i := 0) rfl 0 rfl dX11_checkParts_0 ?_
  refine cg_get C (k := 11) (j := 10) (.ref o2) h3 h2 (by decide) rfl (by decide) rfl (show cV _ 11 10 o1 = _ from congrArg va_rf h1) cWs_wsX110 cl_X11_61 rfl dX11_checkParts_1 ?_
  refine cg_get C (k := 6) (j := 3) (.int (nI 0)) h6 h5 (by decide) rfl (by decide) rfl (show cV _ 6 3 o2 = _ from congrArg Value.int h4) cWs_wsX60 cl_X11_385 rfl dX11_checkParts_4 ?_
  refine cg_iload_n C (i := 1) rfl 1 rfl dX11_checkParts_7 ?_
  refine cg_icmp_geN C (by omega) (by omega) 22 (by decide) dX11_checkParts_8 (fun c_ => absurd c_ (by omega)) (fun c_8 => ?_)
  exact cg_throw2W C hlt hne "there are fewer parts" ce_X11_116 cei_2 (by decide) dX11_checkParts_11 dX11_checkParts_14 dX11_checkParts_15 dX11_checkParts_18 dX11_checkParts_21 (by decide) (by decide) ⟨by decide, by decide⟩ ⟨by decide, by decide⟩ rfl
set_option maxHeartbeats 4000000 in
set_option maxRecDepth 100000 in
theorem z351_X11_but (l : Launch) (hlt : l.stackTraces = false) (S : cS) (dp : Nat) (o1 o2 : Nat) (h1 : cr S 362 o1 = (some o2)) (h2 : cK S o1 = 11) (h3 : o1 ∈ cL S) (h4 : ci S 195 o2 = (nI 0)) (h5 : cK S o2 = 6) (h6 : o2 ∈ cL S) : cMetX "java/lang/IllegalStateException" (fun u_ => u_ = S) l yX11_but cX11_but 1 (some .int) 7 1 6 103 [.ref o1] S dp := by
  intro D Y tp sz
  refine cg_bodyX (by decide +kernel) (Nat.le_of_ble_eq_true rfl) ?_
  intro p e s m args below meth c C hne
  generalize va_A (cWd Y S) sz = A at C ⊢
  have C : cC p s m args meth c cX11_but 1 (some .int) A D Y tp dp RX11 := C
  refine cg_lv (lv' := [(0, .ref o1)]) rfl ?_
  refine cg_aload_n C (i := 0) rfl 0 rfl dX11_but_0 ?_
  refine cg_iconst C (x := nI 2) rfl dX11_but_1 ?_
  exact cg_callx C hne (z350_X11_checkParts l hlt S dp o1 o2 h1 h2 h3 h4 h5 h6) cc_X11_372 h3 h2 (by decide) rfl rfl ⟨by decide, by decide⟩ ⟨by decide, by decide⟩ rfl (Nat.le_of_ble_eq_true rfl) dX11_but_2 ⟨by decide, by decide⟩ (fun u_ h_ => by
      have hu_ := h_
      exact hu_)
set_option maxHeartbeats 4000000 in
set_option maxRecDepth 100000 in
theorem z352_L_but (l : Launch) (hlt : l.stackTraces = false) (S : cS) (dp : Nat) (o1 o2 o3 : Nat) (h1 : cr S 362 o1 = (some o3)) (h2 : cK S o1 = 11) (h3 : o1 ∈ cL S) (h4 : ci S 195 o3 = (nI 0)) (h5 : cK S o3 = 6) (h6 : o3 ∈ cL S) : cMetW (cQi (fun r_ u_ => r_ = (nI 1) ∧ u_ = S)) l yL_but cL_but 3 (some .int) [(0, 8, 11, 15)] 8 1 6 123 [.ref o1, .ref o2] S dp := by
  intro D Y tp sz
  refine cg_bodyW (by decide +kernel) (Nat.le_of_ble_eq_true rfl) ?_
  intro p e s m args below meth c C htab
  generalize va_A (cWd Y S) sz = A at C ⊢
  have C : cC p s m args meth c cL_but 3 (some .int) A D Y tp dp RL := C
  refine cg_lv (lv' := [(0, .ref o1), (1, .ref o2)]) rfl ?_
  refine cg_aload_n C (i := 1) rfl 1 rfl dL_but_0 ?_
  refine cg_iconst C (x := nI 0) rfl dL_but_1 ?_
  refine cg_aload_n C (i := 0) rfl 0 rfl dL_but_2 ?_
  refine cg_callx_catch C htab (z351_X11_but l hlt S dp o1 o3 h1 h2 h3 h4 h5 h6) cc_L_141 h3 h2 (by decide) rfl rfl ⟨by decide, by decide⟩ ⟨by decide, by decide⟩ rfl (Nat.le_of_ble_eq_true rfl) dL_but_3 (tableOf []) ⟨0, 8, 11, 15⟩ (tableOf []) rfl (fun z hz => nomatch hz) (by decide) (by decide) (name := "java/lang/IllegalStateException") ce_L_15 (by decide) 11 rfl (fun x_3 u_3 h_3 => ?_)
  have hu_3 := h_3
  have hw_3 := hu_3.symm
  subst hw_3
  refine cg_astore_n (lv' := [(2, .ref x_3), (0, .ref o1), (1, .ref o2)]) C (i := 2) rfl (Nat.le_of_ble_eq_true rfl) rfl dL_but_11 ?_
  refine cg_iconst C (x := nI 1) rfl dL_but_12 ?_
  exact cg_iret C ⟨rfl, rfl⟩ dL_but_13 (by decide) (by decide)
set_option maxHeartbeats 4000000 in
set_option maxRecDepth 100000 in
theorem z353_X11_query (l : Launch) (hlt : l.stackTraces = false) (S : cS) (dp : Nat) (o1 o2 : Nat) (h1 : cr S 362 o1 = (some o2)) (h2 : cK S o1 = 11) (h3 : o1 ∈ cL S) (h4 : ci S 195 o2 = (nI 0)) (h5 : cK S o2 = 6) (h6 : o2 ∈ cL S) : cMetX "java/lang/IllegalStateException" (fun u_ => u_ = S) l yX11_query cX11_query 1 (some .int) 6 1 6 82 [.ref o1] S dp := by
  intro D Y tp sz
  refine cg_bodyX (by decide +kernel) (Nat.le_of_ble_eq_true rfl) ?_
  intro p e s m args below meth c C hne
  generalize va_A (cWd Y S) sz = A at C ⊢
  have C : cC p s m args meth c cX11_query 1 (some .int) A D Y tp dp RX11 := C
  refine cg_lv (lv' := [(0, .ref o1)]) rfl ?_
  refine cg_aload_n C (i := 0) rfl 0 rfl dX11_query_0 ?_
  refine cg_get C (k := 11) (j := 10) (.ref o2) h3 h2 (by decide) rfl (by decide) rfl (show cV _ 11 10 o1 = _ from congrArg va_rf h1) cWs_wsX110 cl_X11_61 rfl dX11_query_1 ?_
  refine cg_get C (k := 6) (j := 3) (.int (nI 0)) h6 h5 (by decide) rfl (by decide) rfl (show cV _ 6 3 o2 = _ from congrArg Value.int h4) cWs_wsX60 cl_X11_385 rfl dX11_query_4 ?_
  refine cg_iconst C (x := nI 1) rfl dX11_query_7 ?_
  refine cg_icmp_neN C (by omega) (by omega) 23 (by decide) dX11_query_8 (fun c_8 => ?_) (fun c_ => absurd c_ (by omega))
  exact cg_throw2W C hlt hne "no query can be made now" ce_X11_116 cei_2 (by decide) dX11_query_23 dX11_query_26 dX11_query_27 dX11_query_30 dX11_query_33 (by decide) (by decide) ⟨by decide, by decide⟩ ⟨by decide, by decide⟩ rfl
set_option maxHeartbeats 4000000 in
set_option maxRecDepth 100000 in
theorem z354_L_query (l : Launch) (hlt : l.stackTraces = false) (S : cS) (dp : Nat) (o1 o2 o3 : Nat) (h1 : cr S 362 o1 = (some o3)) (h2 : cK S o1 = 11) (h3 : o1 ∈ cL S) (h4 : ci S 195 o3 = (nI 0)) (h5 : cK S o3 = 6) (h6 : o3 ∈ cL S) : cMetW (cQi (fun r_ u_ => r_ = (nI 1) ∧ u_ = S)) l yL_query cL_query 3 (some .int) [(0, 8, 11, 15)] 7 1 6 102 [.ref o1, .ref o2] S dp := by
  intro D Y tp sz
  refine cg_bodyW (by decide +kernel) (Nat.le_of_ble_eq_true rfl) ?_
  intro p e s m args below meth c C htab
  generalize va_A (cWd Y S) sz = A at C ⊢
  have C : cC p s m args meth c cL_query 3 (some .int) A D Y tp dp RL := C
  refine cg_lv (lv' := [(0, .ref o1), (1, .ref o2)]) rfl ?_
  refine cg_aload_n C (i := 1) rfl 1 rfl dL_query_0 ?_
  refine cg_iconst C (x := nI 0) rfl dL_query_1 ?_
  refine cg_aload_n C (i := 0) rfl 0 rfl dL_query_2 ?_
  refine cg_callx_catch C htab (z353_X11_query l hlt S dp o1 o3 h1 h2 h3 h4 h5 h6) cc_L_144 h3 h2 (by decide) rfl rfl ⟨by decide, by decide⟩ ⟨by decide, by decide⟩ rfl (Nat.le_of_ble_eq_true rfl) dL_query_3 (tableOf []) ⟨0, 8, 11, 15⟩ (tableOf []) rfl (fun z hz => nomatch hz) (by decide) (by decide) (name := "java/lang/IllegalStateException") ce_L_15 (by decide) 11 rfl (fun x_3 u_3 h_3 => ?_)
  have hu_3 := h_3
  have hw_3 := hu_3.symm
  subst hw_3
  refine cg_astore_n (lv' := [(2, .ref x_3), (0, .ref o1), (1, .ref o2)]) C (i := 2) rfl (Nat.le_of_ble_eq_true rfl) rfl dL_query_11 ?_
  refine cg_iconst C (x := nI 1) rfl dL_query_12 ?_
  exact cg_iret C ⟨rfl, rfl⟩ dL_query_13 (by decide) (by decide)
set_option maxHeartbeats 4000000 in
set_option maxRecDepth 100000 in
theorem z355_X11_scrap (l : Launch) (hlt : l.stackTraces = false) (S : cS) (dp : Nat) (o1 o2 : Nat) (h1 : cr S 362 o1 = (some o2)) (h2 : cK S o1 = 11) (h3 : o1 ∈ cL S) (h4 : ci S 195 o2 = (nI 0)) (h5 : cK S o2 = 6) (h6 : o2 ∈ cL S) : cMet (cQi (fun r_ u_ => ∃ (q1 : Nat) (S1 : cS), q1 ∉ cL S ∧ S1 = cNew S q1 6 ∧ ∃ (q2 : Nat) (S2 : cS), q2 ∉ cL S1 ∧ S2 = cNew S1 q2 12 ∧ ∃ (S3 : cS), S3 = cSi S2 384 q2 (nI 0) ∧ ∃ (S4 : cS), S4 = cSr S3 385 q2 (some dp) ∧ ∃ (S5 : cS), S5 = cSr S4 192 q1 (some q2) ∧ ∃ (q3 : Nat) (S6 : cS), q3 ∉ cL S5 ∧ S6 = cNew S5 q3 12 ∧ ∃ (S7 : cS), S7 = cSi S6 384 q3 (nI 0) ∧ ∃ (S8 : cS), S8 = cSr S7 385 q3 (some dp) ∧ ∃ (S9 : cS), S9 = cSr S8 193 q1 (some q3) ∧ ∃ (q4 : Nat) (S10 : cS), q4 ∉ cL S9 ∧ S10 = cNewA S9 q4 14 8 ∧ ∃ (S11 : cS), S11 = cSr S10 194 q1 (some q4) ∧ ∃ (S12 : cS), S12 = cSi S11 195 q1 (nI 0) ∧ ∃ (q5 : Nat) (S13 : cS), q5 ∉ cL S12 ∧ S13 = cNewA S12 q5 14 8 ∧ ∃ (S14 : cS), S14 = cSr S13 196 q1 (some q5) ∧ ∃ (S15 : cS), S15 = cSr S14 362 o1 (some q1) ∧ r_ = (nI 0) ∧ u_ = S15)) l yX11_scrap cX11_scrap 2 (some .int) 5 5 27 112 [.ref o1] S dp := by
  intro D Y tp sz
  refine cg_body (by decide +kernel) (Nat.le_of_ble_eq_true rfl) ?_
  intro p e s m args below meth c C
  generalize va_A (cWd Y S) sz = A at C ⊢
  have C : cC p s m args meth c cX11_scrap 2 (some .int) A D Y tp dp RX11 := C
  refine cg_lv (lv' := [(0, .ref o1)]) rfl ?_
  refine cg_aload_n C (i := 0) rfl 0 rfl dX11_scrap_0 ?_
  refine cg_get C (k := 11) (j := 10) (.ref o2) h3 h2 (by decide) rfl (by decide) rfl (show cV _ 11 10 o1 = _ from congrArg va_rf h1) cWs_wsX110 cl_X11_61 rfl dX11_scrap_1 ?_
  refine cg_get C (k := 6) (j := 3) (.int (nI 0)) h6 h5 (by decide) rfl (by decide) rfl (show cV _ 6 3 o2 = _ from congrArg Value.int h4) cWs_wsX60 cl_X11_385 rfl dX11_scrap_4 ?_
  refine cg_istore_n C (i := 1) (lv' := [(1, .int (nI 0)), (0, .ref o1)]) rfl (Nat.le_of_ble_eq_true rfl) rfl dX11_scrap_7 ?_
  refine cg_aload_n C (i := 0) rfl 1 rfl dX11_scrap_8 ?_
  refine cg_new C (k := 6) (N := 5) (fs := [.null, .null, .null, .int 0, .null]) (by decide) rfl cWs_wsX60 tyX6_ok cn_X11_58 ci_X6 ct_X6 (fun j_ hj_ => by rcases (show j_ = 0 ∨ j_ = 1 ∨ j_ = 2 ∨ j_ = 3 ∨ j_ = 4 by omega) with rfl | rfl | rfl | rfl | rfl <;> rfl) rfl (by decide) (by decide) dX11_scrap_9 (fun q1 hf_q1 => ?_)
  refine cg_nm (fun S1 (hS1 : S1 = cNew S q1 6) => ?_)
  refine cg_dup C rfl dX11_scrap_12 ?_
  refine cg_callIN C (z8_X6_init l hlt S1 dp q1 (hk_No hS1) (hm_No hS1)) czn_X11_60 rfl ⟨by decide, by decide⟩ ⟨by decide, by decide⟩ rfl (Nat.le_of_ble_eq_true rfl) dX11_scrap_13 (fun u_13 h_13 => ?_)
  obtain ⟨q2, S2, hf_q2, hS2, S3, hS3, S4, hS4, S5, hS5, q3, S6, hf_q3, hS6, S7, hS7, S8, hS8, S9, hS9, q4, S10, hf_q4, hS10, S11, hS11, S12, hS12, q5, S13, hf_q5, hS13, S14, hS14, hu_13⟩ := h_13
  have hw_13 := hu_13.symm
  subst hw_13
  have f_1 : cK S3 o1 = 11 := (hk_Si hS3 (hk_N hS2 (cm_ne (hm_N hS1 h3) hf_q2) (hk_N hS1 (cm_ne h3 hf_q1) h2)))
  have f_2 : cK S6 o1 = 11 := (hk_N hS6 (cm_ne (hm_Sr hS5 (hm_Sr hS4 (hm_Si hS3 (hm_N hS2 (hm_N hS1 h3))))) hf_q3) (hk_Sr hS5 (hk_Sr hS4 f_1)))
  have f_3 : o1 ∈ cL S6 := (hm_N hS6 (hm_Sr hS5 (hm_Sr hS4 (hm_Si hS3 (hm_N hS2 (hm_N hS1 h3))))))
  have f_4 : cK S10 o1 = 11 := (hk_A hS10 (cm_ne (hm_Sr hS9 (hm_Sr hS8 (hm_Si hS7 f_3))) hf_q4) (hk_Sr hS9 (hk_Sr hS8 (hk_Si hS7 f_2))))
  have f_5 : o1 ∈ cL S12 := (hm_Si hS12 (hm_Sr hS11 (hm_A hS10 (hm_Sr hS9 (hm_Sr hS8 (hm_Si hS7 f_3))))))
  have f_6 : cK S14 o1 = 11 := (hk_Sr hS14 (hk_A hS13 (cm_ne f_5 hf_q5) (hk_Si hS12 (hk_Sr hS11 f_4))))
  refine cg_putr C (k := 11) (j := 10) (x := (some q1)) (ty := tyX11) (fty := tyX11 10) (hm_Sr hS14 (hm_A hS13 f_5)) f_6 (by decide) rfl (by decide) rfl (by decide) rfl cWs_wsX110 tyX11_ok nmX11 cl_X11_61 rfl rfl rfl rfl rfl dX11_scrap_16 ?_
  refine cg_nm (fun S15 (hS15 : S15 = cSr S14 362 o1 (some q1)) => ?_)
  refine cg_iload_n C (i := 1) rfl 0 rfl dX11_scrap_19 ?_
  exact cg_iret C ⟨q1, S1, hf_q1, hS1, q2, S2, hf_q2, hS2, S3, hS3, S4, hS4, S5, hS5, q3, S6, hf_q3, hS6, S7, hS7, S8, hS8, S9, hS9, q4, S10, hf_q4, hS10, S11, hS11, S12, hS12, q5, S13, hf_q5, hS13, S14, hS14, S15, hS15, rfl, rfl⟩ dX11_scrap_20 (by decide) (by decide)
set_option maxHeartbeats 4000000 in
set_option maxRecDepth 100000 in
theorem z356_X11_weigh (l : Launch) (hlt : l.stackTraces = false) (S : cS) (dp : Nat) (o1 : Nat) (x1 x2 : Int32) (h1 : x1 < 0) : cMetX "java/lang/IndexOutOfBoundsException" (fun u_ => u_ = S) l yX11_weigh cX11_weigh 4 (some .int) 7 1 6 102 [.ref o1, .int x1, .int x2] S dp := by
  intro D Y tp sz
  refine cg_bodyX (by decide +kernel) (Nat.le_of_ble_eq_true rfl) ?_
  intro p e s m args below meth c C hne
  generalize va_A (cWd Y S) sz = A at C ⊢
  have C : cC p s m args meth c cX11_weigh 4 (some .int) A D Y tp dp RX11 := C
  refine cg_lv (lv' := [(0, .ref o1), (1, .int x1), (2, .int x2)]) rfl ?_
  refine cg_iload_n C (i := 1) rfl 1 rfl dX11_weigh_0 ?_
  exact cg_callsx C hne (z27_X11_checkField l hlt S dp x1 h1) cc_X11_152 rfl ⟨by decide, by decide⟩ ⟨by decide, by decide⟩ rfl (Nat.le_of_ble_eq_true rfl) dX11_weigh_1 ⟨by decide, by decide⟩ (fun u_ h_ => by
      have hu_ := h_
      exact hu_)
set_option maxHeartbeats 4000000 in
set_option maxRecDepth 100000 in
theorem z357_L_weigh (l : Launch) (hlt : l.stackTraces = false) (S : cS) (dp : Nat) (o1 o2 : Nat) (x1 x2 : Int32) (h1 : x1 < 0) (h2 : o1 ∈ cL S) (h3 : cK S o1 = 11) : cMetW (cQi (fun r_ u_ => r_ = (nI 1) ∧ u_ = S)) l yL_weigh cL_weigh 5 (some .int) [(0, 10, 13, 28), (0, 10, 17, 13)] 8 1 6 125 [.ref o1, .int x1, .int x2, .ref o2] S dp := by
  intro D Y tp sz
  refine cg_bodyW (by decide +kernel) (Nat.le_of_ble_eq_true rfl) ?_
  intro p e s m args below meth c C htab
  generalize va_A (cWd Y S) sz = A at C ⊢
  have C : cC p s m args meth c cL_weigh 5 (some .int) A D Y tp dp RL := C
  refine cg_lv (lv' := [(0, .ref o1), (1, .int x1), (2, .int x2), (3, .ref o2)]) rfl ?_
  refine cg_aload_n C (i := 3) rfl 3 rfl dL_weigh_0 ?_
  refine cg_iconst C (x := nI 0) rfl dL_weigh_1 ?_
  refine cg_aload_n C (i := 0) rfl 0 rfl dL_weigh_2 ?_
  refine cg_iload_n C (i := 1) rfl 1 rfl dL_weigh_3 ?_
  refine cg_iload_n C (i := 2) rfl 2 rfl dL_weigh_4 ?_
  refine cg_callx_catch C htab (z356_X11_weigh l hlt S dp o1 x1 x2 h1) cc_L_147 h2 h3 (by decide) rfl rfl ⟨by decide, by decide⟩ ⟨by decide, by decide⟩ rfl (Nat.le_of_ble_eq_true rfl) dL_weigh_5 (tableOf []) ⟨0, 10, 13, 28⟩ (tableOf [(0, 10, 17, 13)]) rfl (fun z hz => nomatch hz) (by decide) (by decide) (name := "java/lang/IndexOutOfBoundsException") ce_L_28 (by decide) 13 rfl (fun x_5 u_5 h_5 => ?_)
  have hu_5 := h_5
  have hw_5 := hu_5.symm
  subst hw_5
  refine cg_astore (lv' := [(4, .ref x_5), (0, .ref o1), (1, .int x1), (2, .int x2), (3, .ref o2)]) C (Nat.le_of_ble_eq_true rfl) rfl dL_weigh_13 ?_
  refine cg_iconst C (x := nI 1) rfl dL_weigh_15 ?_
  exact cg_iret C ⟨rfl, rfl⟩ dL_weigh_16 (by decide) (by decide)
set_option maxHeartbeats 4000000 in
set_option maxRecDepth 100000 in
theorem z358_X11_weigh (l : Launch) (hlt : l.stackTraces = false) (S : cS) (dp : Nat) (o1 : Nat) (x1 x2 : Int32) (h1 : x1 < 0) (h2 : x2 < 0) : cMetX "java/lang/IndexOutOfBoundsException" (fun u_ => u_ = S) l yX11_weigh cX11_weigh 4 (some .int) 7 1 6 102 [.ref o1, .int x1, .int x2] S dp := by
  intro D Y tp sz
  refine cg_bodyX (by decide +kernel) (Nat.le_of_ble_eq_true rfl) ?_
  intro p e s m args below meth c C hne
  generalize va_A (cWd Y S) sz = A at C ⊢
  have C : cC p s m args meth c cX11_weigh 4 (some .int) A D Y tp dp RX11 := C
  refine cg_lv (lv' := [(0, .ref o1), (1, .int x1), (2, .int x2)]) rfl ?_
  refine cg_iload_n C (i := 1) rfl 1 rfl dX11_weigh_0 ?_
  exact cg_callsx C hne (z27_X11_checkField l hlt S dp x1 h1) cc_X11_152 rfl ⟨by decide, by decide⟩ ⟨by decide, by decide⟩ rfl (Nat.le_of_ble_eq_true rfl) dX11_weigh_1 ⟨by decide, by decide⟩ (fun u_ h_ => by
      have hu_ := h_
      exact hu_)
set_option maxHeartbeats 4000000 in
set_option maxRecDepth 100000 in
theorem z359_L_weigh (l : Launch) (hlt : l.stackTraces = false) (S : cS) (dp : Nat) (o1 o2 : Nat) (x1 x2 : Int32) (h1 : x1 < 0) (h2 : x2 < 0) (h3 : o1 ∈ cL S) (h4 : cK S o1 = 11) : cMetW (cQi (fun r_ u_ => r_ = (nI 1) ∧ u_ = S)) l yL_weigh cL_weigh 5 (some .int) [(0, 10, 13, 28), (0, 10, 17, 13)] 8 1 6 125 [.ref o1, .int x1, .int x2, .ref o2] S dp := by
  intro D Y tp sz
  refine cg_bodyW (by decide +kernel) (Nat.le_of_ble_eq_true rfl) ?_
  intro p e s m args below meth c C htab
  generalize va_A (cWd Y S) sz = A at C ⊢
  have C : cC p s m args meth c cL_weigh 5 (some .int) A D Y tp dp RL := C
  refine cg_lv (lv' := [(0, .ref o1), (1, .int x1), (2, .int x2), (3, .ref o2)]) rfl ?_
  refine cg_aload_n C (i := 3) rfl 3 rfl dL_weigh_0 ?_
  refine cg_iconst C (x := nI 0) rfl dL_weigh_1 ?_
  refine cg_aload_n C (i := 0) rfl 0 rfl dL_weigh_2 ?_
  refine cg_iload_n C (i := 1) rfl 1 rfl dL_weigh_3 ?_
  refine cg_iload_n C (i := 2) rfl 2 rfl dL_weigh_4 ?_
  refine cg_callx_catch C htab (z358_X11_weigh l hlt S dp o1 x1 x2 h1 h2) cc_L_147 h3 h4 (by decide) rfl rfl ⟨by decide, by decide⟩ ⟨by decide, by decide⟩ rfl (Nat.le_of_ble_eq_true rfl) dL_weigh_5 (tableOf []) ⟨0, 10, 13, 28⟩ (tableOf [(0, 10, 17, 13)]) rfl (fun z hz => nomatch hz) (by decide) (by decide) (name := "java/lang/IndexOutOfBoundsException") ce_L_28 (by decide) 13 rfl (fun x_5 u_5 h_5 => ?_)
  have hu_5 := h_5
  have hw_5 := hu_5.symm
  subst hw_5
  refine cg_astore (lv' := [(4, .ref x_5), (0, .ref o1), (1, .int x1), (2, .int x2), (3, .ref o2)]) C (Nat.le_of_ble_eq_true rfl) rfl dL_weigh_13 ?_
  refine cg_iconst C (x := nI 1) rfl dL_weigh_15 ?_
  exact cg_iret C ⟨rfl, rfl⟩ dL_weigh_16 (by decide) (by decide)
set_option maxHeartbeats 4000000 in
set_option maxRecDepth 100000 in
theorem z360_X11_weigh (l : Launch) (hlt : l.stackTraces = false) (S : cS) (dp : Nat) (o1 : Nat) (n1 : Nat) (x1 : Int32) (h1 : x1 < 0) (h2 : n1 ≤ 2147483647) : cMetX "java/lang/IndexOutOfBoundsException" (fun u_ => u_ = S) l yX11_weigh cX11_weigh 4 (some .int) 7 1 6 102 [.ref o1, .int x1, .int (nI n1)] S dp := by
  intro D Y tp sz
  refine cg_bodyX (by decide +kernel) (Nat.le_of_ble_eq_true rfl) ?_
  intro p e s m args below meth c C hne
  generalize va_A (cWd Y S) sz = A at C ⊢
  have C : cC p s m args meth c cX11_weigh 4 (some .int) A D Y tp dp RX11 := C
  refine cg_lv (lv' := [(0, .ref o1), (1, .int x1), (2, .int (nI n1))]) rfl ?_
  refine cg_iload_n C (i := 1) rfl 1 rfl dX11_weigh_0 ?_
  exact cg_callsx C hne (z27_X11_checkField l hlt S dp x1 h1) cc_X11_152 rfl ⟨by decide, by decide⟩ ⟨by decide, by decide⟩ rfl (Nat.le_of_ble_eq_true rfl) dX11_weigh_1 ⟨by decide, by decide⟩ (fun u_ h_ => by
      have hu_ := h_
      exact hu_)
set_option maxHeartbeats 4000000 in
set_option maxRecDepth 100000 in
theorem z361_L_weigh (l : Launch) (hlt : l.stackTraces = false) (S : cS) (dp : Nat) (o1 o2 : Nat) (n1 : Nat) (x1 : Int32) (h1 : x1 < 0) (h2 : n1 ≤ 2147483647) (h3 : o1 ∈ cL S) (h4 : cK S o1 = 11) : cMetW (cQi (fun r_ u_ => r_ = (nI 1) ∧ u_ = S)) l yL_weigh cL_weigh 5 (some .int) [(0, 10, 13, 28), (0, 10, 17, 13)] 8 1 6 125 [.ref o1, .int x1, .int (nI n1), .ref o2] S dp := by
  intro D Y tp sz
  refine cg_bodyW (by decide +kernel) (Nat.le_of_ble_eq_true rfl) ?_
  intro p e s m args below meth c C htab
  generalize va_A (cWd Y S) sz = A at C ⊢
  have C : cC p s m args meth c cL_weigh 5 (some .int) A D Y tp dp RL := C
  refine cg_lv (lv' := [(0, .ref o1), (1, .int x1), (2, .int (nI n1)), (3, .ref o2)]) rfl ?_
  refine cg_aload_n C (i := 3) rfl 3 rfl dL_weigh_0 ?_
  refine cg_iconst C (x := nI 0) rfl dL_weigh_1 ?_
  refine cg_aload_n C (i := 0) rfl 0 rfl dL_weigh_2 ?_
  refine cg_iload_n C (i := 1) rfl 1 rfl dL_weigh_3 ?_
  refine cg_iload_n C (i := 2) rfl 2 rfl dL_weigh_4 ?_
  refine cg_callx_catch C htab (z360_X11_weigh l hlt S dp o1 n1 x1 h1 (by omega)) cc_L_147 h3 h4 (by decide) rfl rfl ⟨by decide, by decide⟩ ⟨by decide, by decide⟩ rfl (Nat.le_of_ble_eq_true rfl) dL_weigh_5 (tableOf []) ⟨0, 10, 13, 28⟩ (tableOf [(0, 10, 17, 13)]) rfl (fun z hz => nomatch hz) (by decide) (by decide) (name := "java/lang/IndexOutOfBoundsException") ce_L_28 (by decide) 13 rfl (fun x_5 u_5 h_5 => ?_)
  have hu_5 := h_5
  have hw_5 := hu_5.symm
  subst hw_5
  refine cg_astore (lv' := [(4, .ref x_5), (0, .ref o1), (1, .int x1), (2, .int (nI n1)), (3, .ref o2)]) C (Nat.le_of_ble_eq_true rfl) rfl dL_weigh_13 ?_
  refine cg_iconst C (x := nI 1) rfl dL_weigh_15 ?_
  exact cg_iret C ⟨rfl, rfl⟩ dL_weigh_16 (by decide) (by decide)
set_option maxHeartbeats 4000000 in
set_option maxRecDepth 100000 in
theorem z362_X11_weigh (l : Launch) (hlt : l.stackTraces = false) (S : cS) (dp : Nat) (o1 : Nat) (x1 : Int32) (h1 : x1 < 0) : cMetX "java/lang/IndexOutOfBoundsException" (fun u_ => u_ = S) l yX11_weigh cX11_weigh 4 (some .int) 7 1 6 102 [.ref o1, .int x1, .int (nI 0)] S dp := by
  intro D Y tp sz
  refine cg_bodyX (by decide +kernel) (Nat.le_of_ble_eq_true rfl) ?_
  intro p e s m args below meth c C hne
  generalize va_A (cWd Y S) sz = A at C ⊢
  have C : cC p s m args meth c cX11_weigh 4 (some .int) A D Y tp dp RX11 := C
  refine cg_lv (lv' := [(0, .ref o1), (1, .int x1), (2, .int (nI 0))]) rfl ?_
  refine cg_iload_n C (i := 1) rfl 1 rfl dX11_weigh_0 ?_
  exact cg_callsx C hne (z27_X11_checkField l hlt S dp x1 h1) cc_X11_152 rfl ⟨by decide, by decide⟩ ⟨by decide, by decide⟩ rfl (Nat.le_of_ble_eq_true rfl) dX11_weigh_1 ⟨by decide, by decide⟩ (fun u_ h_ => by
      have hu_ := h_
      exact hu_)
set_option maxHeartbeats 4000000 in
set_option maxRecDepth 100000 in
theorem z363_L_weigh (l : Launch) (hlt : l.stackTraces = false) (S : cS) (dp : Nat) (o1 o2 : Nat) (x1 : Int32) (h1 : x1 < 0) (h2 : o1 ∈ cL S) (h3 : cK S o1 = 11) : cMetW (cQi (fun r_ u_ => r_ = (nI 1) ∧ u_ = S)) l yL_weigh cL_weigh 5 (some .int) [(0, 10, 13, 28), (0, 10, 17, 13)] 8 1 6 125 [.ref o1, .int x1, .int (nI 0), .ref o2] S dp := by
  intro D Y tp sz
  refine cg_bodyW (by decide +kernel) (Nat.le_of_ble_eq_true rfl) ?_
  intro p e s m args below meth c C htab
  generalize va_A (cWd Y S) sz = A at C ⊢
  have C : cC p s m args meth c cL_weigh 5 (some .int) A D Y tp dp RL := C
  refine cg_lv (lv' := [(0, .ref o1), (1, .int x1), (2, .int (nI 0)), (3, .ref o2)]) rfl ?_
  refine cg_aload_n C (i := 3) rfl 3 rfl dL_weigh_0 ?_
  refine cg_iconst C (x := nI 0) rfl dL_weigh_1 ?_
  refine cg_aload_n C (i := 0) rfl 0 rfl dL_weigh_2 ?_
  refine cg_iload_n C (i := 1) rfl 1 rfl dL_weigh_3 ?_
  refine cg_iload_n C (i := 2) rfl 2 rfl dL_weigh_4 ?_
  refine cg_callx_catch C htab (z362_X11_weigh l hlt S dp o1 x1 h1) cc_L_147 h2 h3 (by decide) rfl rfl ⟨by decide, by decide⟩ ⟨by decide, by decide⟩ rfl (Nat.le_of_ble_eq_true rfl) dL_weigh_5 (tableOf []) ⟨0, 10, 13, 28⟩ (tableOf [(0, 10, 17, 13)]) rfl (fun z hz => nomatch hz) (by decide) (by decide) (name := "java/lang/IndexOutOfBoundsException") ce_L_28 (by decide) 13 rfl (fun x_5 u_5 h_5 => ?_)
  have hu_5 := h_5
  have hw_5 := hu_5.symm
  subst hw_5
  refine cg_astore (lv' := [(4, .ref x_5), (0, .ref o1), (1, .int x1), (2, .int (nI 0)), (3, .ref o2)]) C (Nat.le_of_ble_eq_true rfl) rfl dL_weigh_13 ?_
  refine cg_iconst C (x := nI 1) rfl dL_weigh_15 ?_
  exact cg_iret C ⟨rfl, rfl⟩ dL_weigh_16 (by decide) (by decide)
set_option maxHeartbeats 4000000 in
set_option maxRecDepth 100000 in
theorem z364_X11_weigh (l : Launch) (hlt : l.stackTraces = false) (S : cS) (dp : Nat) (o1 : Nat) (n1 : Nat) (x1 : Int32) (h1 : x1 < 0) (h2 : 1 ≤ n1) (h3 : n1 ≤ 2147483647) : cMetX "java/lang/IndexOutOfBoundsException" (fun u_ => u_ = S) l yX11_weigh cX11_weigh 4 (some .int) 7 1 6 102 [.ref o1, .int x1, .int (nI n1)] S dp := by
  intro D Y tp sz
  refine cg_bodyX (by decide +kernel) (Nat.le_of_ble_eq_true rfl) ?_
  intro p e s m args below meth c C hne
  generalize va_A (cWd Y S) sz = A at C ⊢
  have C : cC p s m args meth c cX11_weigh 4 (some .int) A D Y tp dp RX11 := C
  refine cg_lv (lv' := [(0, .ref o1), (1, .int x1), (2, .int (nI n1))]) rfl ?_
  refine cg_iload_n C (i := 1) rfl 1 rfl dX11_weigh_0 ?_
  exact cg_callsx C hne (z27_X11_checkField l hlt S dp x1 h1) cc_X11_152 rfl ⟨by decide, by decide⟩ ⟨by decide, by decide⟩ rfl (Nat.le_of_ble_eq_true rfl) dX11_weigh_1 ⟨by decide, by decide⟩ (fun u_ h_ => by
      have hu_ := h_
      exact hu_)
set_option maxHeartbeats 4000000 in
set_option maxRecDepth 100000 in
theorem z365_L_weigh (l : Launch) (hlt : l.stackTraces = false) (S : cS) (dp : Nat) (o1 o2 : Nat) (n1 : Nat) (x1 : Int32) (h1 : x1 < 0) (h2 : 1 ≤ n1) (h3 : n1 ≤ 2147483647) (h4 : o1 ∈ cL S) (h5 : cK S o1 = 11) : cMetW (cQi (fun r_ u_ => r_ = (nI 1) ∧ u_ = S)) l yL_weigh cL_weigh 5 (some .int) [(0, 10, 13, 28), (0, 10, 17, 13)] 8 1 6 125 [.ref o1, .int x1, .int (nI n1), .ref o2] S dp := by
  intro D Y tp sz
  refine cg_bodyW (by decide +kernel) (Nat.le_of_ble_eq_true rfl) ?_
  intro p e s m args below meth c C htab
  generalize va_A (cWd Y S) sz = A at C ⊢
  have C : cC p s m args meth c cL_weigh 5 (some .int) A D Y tp dp RL := C
  refine cg_lv (lv' := [(0, .ref o1), (1, .int x1), (2, .int (nI n1)), (3, .ref o2)]) rfl ?_
  refine cg_aload_n C (i := 3) rfl 3 rfl dL_weigh_0 ?_
  refine cg_iconst C (x := nI 0) rfl dL_weigh_1 ?_
  refine cg_aload_n C (i := 0) rfl 0 rfl dL_weigh_2 ?_
  refine cg_iload_n C (i := 1) rfl 1 rfl dL_weigh_3 ?_
  refine cg_iload_n C (i := 2) rfl 2 rfl dL_weigh_4 ?_
  refine cg_callx_catch C htab (z364_X11_weigh l hlt S dp o1 n1 x1 h1 (by omega) (by omega)) cc_L_147 h4 h5 (by decide) rfl rfl ⟨by decide, by decide⟩ ⟨by decide, by decide⟩ rfl (Nat.le_of_ble_eq_true rfl) dL_weigh_5 (tableOf []) ⟨0, 10, 13, 28⟩ (tableOf [(0, 10, 17, 13)]) rfl (fun z hz => nomatch hz) (by decide) (by decide) (name := "java/lang/IndexOutOfBoundsException") ce_L_28 (by decide) 13 rfl (fun x_5 u_5 h_5 => ?_)
  have hu_5 := h_5
  have hw_5 := hu_5.symm
  subst hw_5
  refine cg_astore (lv' := [(4, .ref x_5), (0, .ref o1), (1, .int x1), (2, .int (nI n1)), (3, .ref o2)]) C (Nat.le_of_ble_eq_true rfl) rfl dL_weigh_13 ?_
  refine cg_iconst C (x := nI 1) rfl dL_weigh_15 ?_
  exact cg_iret C ⟨rfl, rfl⟩ dL_weigh_16 (by decide) (by decide)
set_option maxHeartbeats 4000000 in
set_option maxRecDepth 100000 in
theorem z366_X11_weigh (l : Launch) (hlt : l.stackTraces = false) (S : cS) (dp : Nat) (o1 : Nat) (n1 : Nat) (x1 : Int32) (h1 : x1 < 0) (h2 : 1 ≤ n1) (h3 : n1 ≤ 9) : cMetX "java/lang/IndexOutOfBoundsException" (fun u_ => u_ = S) l yX11_weigh cX11_weigh 4 (some .int) 7 1 6 102 [.ref o1, .int x1, .int (nI n1)] S dp := by
  intro D Y tp sz
  refine cg_bodyX (by decide +kernel) (Nat.le_of_ble_eq_true rfl) ?_
  intro p e s m args below meth c C hne
  generalize va_A (cWd Y S) sz = A at C ⊢
  have C : cC p s m args meth c cX11_weigh 4 (some .int) A D Y tp dp RX11 := C
  refine cg_lv (lv' := [(0, .ref o1), (1, .int x1), (2, .int (nI n1))]) rfl ?_
  refine cg_iload_n C (i := 1) rfl 1 rfl dX11_weigh_0 ?_
  exact cg_callsx C hne (z27_X11_checkField l hlt S dp x1 h1) cc_X11_152 rfl ⟨by decide, by decide⟩ ⟨by decide, by decide⟩ rfl (Nat.le_of_ble_eq_true rfl) dX11_weigh_1 ⟨by decide, by decide⟩ (fun u_ h_ => by
      have hu_ := h_
      exact hu_)
set_option maxHeartbeats 4000000 in
set_option maxRecDepth 100000 in
theorem z367_L_weigh (l : Launch) (hlt : l.stackTraces = false) (S : cS) (dp : Nat) (o1 o2 : Nat) (n1 : Nat) (x1 : Int32) (h1 : x1 < 0) (h2 : 1 ≤ n1) (h3 : n1 ≤ 9) (h4 : o1 ∈ cL S) (h5 : cK S o1 = 11) : cMetW (cQi (fun r_ u_ => r_ = (nI 1) ∧ u_ = S)) l yL_weigh cL_weigh 5 (some .int) [(0, 10, 13, 28), (0, 10, 17, 13)] 8 1 6 125 [.ref o1, .int x1, .int (nI n1), .ref o2] S dp := by
  intro D Y tp sz
  refine cg_bodyW (by decide +kernel) (Nat.le_of_ble_eq_true rfl) ?_
  intro p e s m args below meth c C htab
  generalize va_A (cWd Y S) sz = A at C ⊢
  have C : cC p s m args meth c cL_weigh 5 (some .int) A D Y tp dp RL := C
  refine cg_lv (lv' := [(0, .ref o1), (1, .int x1), (2, .int (nI n1)), (3, .ref o2)]) rfl ?_
  refine cg_aload_n C (i := 3) rfl 3 rfl dL_weigh_0 ?_
  refine cg_iconst C (x := nI 0) rfl dL_weigh_1 ?_
  refine cg_aload_n C (i := 0) rfl 0 rfl dL_weigh_2 ?_
  refine cg_iload_n C (i := 1) rfl 1 rfl dL_weigh_3 ?_
  refine cg_iload_n C (i := 2) rfl 2 rfl dL_weigh_4 ?_
  refine cg_callx_catch C htab (z366_X11_weigh l hlt S dp o1 n1 x1 h1 (by omega) (by omega)) cc_L_147 h4 h5 (by decide) rfl rfl ⟨by decide, by decide⟩ ⟨by decide, by decide⟩ rfl (Nat.le_of_ble_eq_true rfl) dL_weigh_5 (tableOf []) ⟨0, 10, 13, 28⟩ (tableOf [(0, 10, 17, 13)]) rfl (fun z hz => nomatch hz) (by decide) (by decide) (name := "java/lang/IndexOutOfBoundsException") ce_L_28 (by decide) 13 rfl (fun x_5 u_5 h_5 => ?_)
  have hu_5 := h_5
  have hw_5 := hu_5.symm
  subst hw_5
  refine cg_astore (lv' := [(4, .ref x_5), (0, .ref o1), (1, .int x1), (2, .int (nI n1)), (3, .ref o2)]) C (Nat.le_of_ble_eq_true rfl) rfl dL_weigh_13 ?_
  refine cg_iconst C (x := nI 1) rfl dL_weigh_15 ?_
  exact cg_iret C ⟨rfl, rfl⟩ dL_weigh_16 (by decide) (by decide)
set_option maxHeartbeats 4000000 in
set_option maxRecDepth 100000 in
theorem z368_X11_weigh (l : Launch) (hlt : l.stackTraces = false) (S : cS) (dp : Nat) (o1 : Nat) (n1 : Nat) (x1 : Int32) (h1 : x1 < 0) (h2 : 10 ≤ n1) (h3 : n1 ≤ 2147483647) : cMetX "java/lang/IndexOutOfBoundsException" (fun u_ => u_ = S) l yX11_weigh cX11_weigh 4 (some .int) 7 1 6 102 [.ref o1, .int x1, .int (nI n1)] S dp := by
  intro D Y tp sz
  refine cg_bodyX (by decide +kernel) (Nat.le_of_ble_eq_true rfl) ?_
  intro p e s m args below meth c C hne
  generalize va_A (cWd Y S) sz = A at C ⊢
  have C : cC p s m args meth c cX11_weigh 4 (some .int) A D Y tp dp RX11 := C
  refine cg_lv (lv' := [(0, .ref o1), (1, .int x1), (2, .int (nI n1))]) rfl ?_
  refine cg_iload_n C (i := 1) rfl 1 rfl dX11_weigh_0 ?_
  exact cg_callsx C hne (z27_X11_checkField l hlt S dp x1 h1) cc_X11_152 rfl ⟨by decide, by decide⟩ ⟨by decide, by decide⟩ rfl (Nat.le_of_ble_eq_true rfl) dX11_weigh_1 ⟨by decide, by decide⟩ (fun u_ h_ => by
      have hu_ := h_
      exact hu_)
set_option maxHeartbeats 4000000 in
set_option maxRecDepth 100000 in
theorem z369_L_weigh (l : Launch) (hlt : l.stackTraces = false) (S : cS) (dp : Nat) (o1 o2 : Nat) (n1 : Nat) (x1 : Int32) (h1 : x1 < 0) (h2 : 10 ≤ n1) (h3 : n1 ≤ 2147483647) (h4 : o1 ∈ cL S) (h5 : cK S o1 = 11) : cMetW (cQi (fun r_ u_ => r_ = (nI 1) ∧ u_ = S)) l yL_weigh cL_weigh 5 (some .int) [(0, 10, 13, 28), (0, 10, 17, 13)] 8 1 6 125 [.ref o1, .int x1, .int (nI n1), .ref o2] S dp := by
  intro D Y tp sz
  refine cg_bodyW (by decide +kernel) (Nat.le_of_ble_eq_true rfl) ?_
  intro p e s m args below meth c C htab
  generalize va_A (cWd Y S) sz = A at C ⊢
  have C : cC p s m args meth c cL_weigh 5 (some .int) A D Y tp dp RL := C
  refine cg_lv (lv' := [(0, .ref o1), (1, .int x1), (2, .int (nI n1)), (3, .ref o2)]) rfl ?_
  refine cg_aload_n C (i := 3) rfl 3 rfl dL_weigh_0 ?_
  refine cg_iconst C (x := nI 0) rfl dL_weigh_1 ?_
  refine cg_aload_n C (i := 0) rfl 0 rfl dL_weigh_2 ?_
  refine cg_iload_n C (i := 1) rfl 1 rfl dL_weigh_3 ?_
  refine cg_iload_n C (i := 2) rfl 2 rfl dL_weigh_4 ?_
  refine cg_callx_catch C htab (z368_X11_weigh l hlt S dp o1 n1 x1 h1 (by omega) (by omega)) cc_L_147 h4 h5 (by decide) rfl rfl ⟨by decide, by decide⟩ ⟨by decide, by decide⟩ rfl (Nat.le_of_ble_eq_true rfl) dL_weigh_5 (tableOf []) ⟨0, 10, 13, 28⟩ (tableOf [(0, 10, 17, 13)]) rfl (fun z hz => nomatch hz) (by decide) (by decide) (name := "java/lang/IndexOutOfBoundsException") ce_L_28 (by decide) 13 rfl (fun x_5 u_5 h_5 => ?_)
  have hu_5 := h_5
  have hw_5 := hu_5.symm
  subst hw_5
  refine cg_astore (lv' := [(4, .ref x_5), (0, .ref o1), (1, .int x1), (2, .int (nI n1)), (3, .ref o2)]) C (Nat.le_of_ble_eq_true rfl) rfl dL_weigh_13 ?_
  refine cg_iconst C (x := nI 1) rfl dL_weigh_15 ?_
  exact cg_iret C ⟨rfl, rfl⟩ dL_weigh_16 (by decide) (by decide)
set_option maxHeartbeats 4000000 in
set_option maxRecDepth 100000 in
theorem z370_X11_weigh (l : Launch) (hlt : l.stackTraces = false) (S : cS) (dp : Nat) (o1 : Nat) (n1 : Nat) (x1 : Int32) (h1 : n1 ≤ 1) (h2 : x1 < 0) : cMetX "java/lang/IllegalArgumentException" (fun u_ => u_ = S) l yX11_weigh cX11_weigh 4 (some .int) 6 1 6 82 [.ref o1, .int (nI n1), .int x1] S dp := by
  intro D Y tp sz
  refine cg_bodyX (by decide +kernel) (Nat.le_of_ble_eq_true rfl) ?_
  intro p e s m args below meth c C hne
  generalize va_A (cWd Y S) sz = A at C ⊢
  have C : cC p s m args meth c cX11_weigh 4 (some .int) A D Y tp dp RX11 := C
  refine cg_lv (lv' := [(0, .ref o1), (1, .int (nI n1)), (2, .int x1)]) rfl ?_
  refine cg_iload_n C (i := 1) rfl 1 rfl dX11_weigh_0 ?_
  refine cg_callsv C (z30_X11_checkField l hlt S dp n1 (by omega)) cc_X11_152 rfl ⟨by decide, by decide⟩ ⟨by decide, by decide⟩ rfl (Nat.le_of_ble_eq_true rfl) dX11_weigh_1 (fun u_1 h_1 => ?_)
  have hu_1 := h_1
  have hw_1 := hu_1.symm
  subst hw_1
  refine cg_iload_n C (i := 2) rfl 2 rfl dX11_weigh_4 ?_
  refine cg_iconst C (x := nI 1) rfl dX11_weigh_5 ?_
  refine cg_icmp_lt C 15 (by decide) dX11_weigh_6 (fun c_6 => ?_) (fun c_ => absurd (cneg_lt h2 (by omega)) c_)
  exact cg_throw1W C hlt hne "the weight is out of range" ce_X11_100 cei_1 (by decide) dX11_weigh_15 dX11_weigh_18 dX11_weigh_19 dX11_weigh_22 dX11_weigh_25 (by decide) (by decide) ⟨by decide, by decide⟩ ⟨by decide, by decide⟩ rfl
set_option maxHeartbeats 4000000 in
set_option maxRecDepth 100000 in
theorem z371_L_weigh (l : Launch) (hlt : l.stackTraces = false) (S : cS) (dp : Nat) (o1 o2 : Nat) (n1 : Nat) (x1 : Int32) (h1 : n1 ≤ 1) (h2 : x1 < 0) (h3 : o1 ∈ cL S) (h4 : cK S o1 = 11) : cMetW (cQi (fun r_ u_ => r_ = (nI 2) ∧ u_ = S)) l yL_weigh cL_weigh 5 (some .int) [(0, 10, 13, 28), (0, 10, 17, 13)] 7 1 6 105 [.ref o1, .int (nI n1), .int x1, .ref o2] S dp := by
  intro D Y tp sz
  refine cg_bodyW (by decide +kernel) (Nat.le_of_ble_eq_true rfl) ?_
  intro p e s m args below meth c C htab
  generalize va_A (cWd Y S) sz = A at C ⊢
  have C : cC p s m args meth c cL_weigh 5 (some .int) A D Y tp dp RL := C
  refine cg_lv (lv' := [(0, .ref o1), (1, .int (nI n1)), (2, .int x1), (3, .ref o2)]) rfl ?_
  refine cg_aload_n C (i := 3) rfl 3 rfl dL_weigh_0 ?_
  refine cg_iconst C (x := nI 0) rfl dL_weigh_1 ?_
  refine cg_aload_n C (i := 0) rfl 0 rfl dL_weigh_2 ?_
  refine cg_iload_n C (i := 1) rfl 1 rfl dL_weigh_3 ?_
  refine cg_iload_n C (i := 2) rfl 2 rfl dL_weigh_4 ?_
  refine cg_callx_catch C htab (z370_X11_weigh l hlt S dp o1 n1 x1 (by omega) h2) cc_L_147 h3 h4 (by decide) rfl rfl ⟨by decide, by decide⟩ ⟨by decide, by decide⟩ rfl (Nat.le_of_ble_eq_true rfl) dL_weigh_5 (tableOf [(0, 10, 13, 28)]) ⟨0, 10, 17, 13⟩ (tableOf []) rfl (fun z hz => by
        rcases List.mem_cons.mp hz with rfl | hz
        · exact ⟨by decide, "java/lang/IndexOutOfBoundsException", ce_L_28, by decide⟩
        exact nomatch hz) (by decide) (by decide) (name := "java/lang/IllegalArgumentException") ce_L_13 (by decide) 17 rfl (fun x_5 u_5 h_5 => ?_)
  have hu_5 := h_5
  have hw_5 := hu_5.symm
  subst hw_5
  refine cg_astore (lv' := [(4, .ref x_5), (0, .ref o1), (1, .int (nI n1)), (2, .int x1), (3, .ref o2)]) C (Nat.le_of_ble_eq_true rfl) rfl dL_weigh_17 ?_
  refine cg_iconst C (x := nI 2) rfl dL_weigh_19 ?_
  exact cg_iret C ⟨rfl, rfl⟩ dL_weigh_20 (by decide) (by decide)
set_option maxHeartbeats 4000000 in
set_option maxRecDepth 100000 in
theorem z372_X11_weigh (l : Launch) (hlt : l.stackTraces = false) (S : cS) (dp : Nat) (o1 : Nat) (n1 : Nat) (h1 : n1 ≤ 1) : cMetX "java/lang/IllegalArgumentException" (fun u_ => u_ = S) l yX11_weigh cX11_weigh 4 (some .int) 6 1 6 82 [.ref o1, .int (nI n1), .int (nI 0)] S dp := by
  intro D Y tp sz
  refine cg_bodyX (by decide +kernel) (Nat.le_of_ble_eq_true rfl) ?_
  intro p e s m args below meth c C hne
  generalize va_A (cWd Y S) sz = A at C ⊢
  have C : cC p s m args meth c cX11_weigh 4 (some .int) A D Y tp dp RX11 := C
  refine cg_lv (lv' := [(0, .ref o1), (1, .int (nI n1)), (2, .int (nI 0))]) rfl ?_
  refine cg_iload_n C (i := 1) rfl 1 rfl dX11_weigh_0 ?_
  refine cg_callsv C (z30_X11_checkField l hlt S dp n1 (by omega)) cc_X11_152 rfl ⟨by decide, by decide⟩ ⟨by decide, by decide⟩ rfl (Nat.le_of_ble_eq_true rfl) dX11_weigh_1 (fun u_1 h_1 => ?_)
  have hu_1 := h_1
  have hw_1 := hu_1.symm
  subst hw_1
  refine cg_iload_n C (i := 2) rfl 2 rfl dX11_weigh_4 ?_
  refine cg_iconst C (x := nI 1) rfl dX11_weigh_5 ?_
  refine cg_icmp_ltN C (by omega) (by omega) 15 (by decide) dX11_weigh_6 (fun c_6 => ?_) (fun c_ => absurd c_ (by omega))
  exact cg_throw1W C hlt hne "the weight is out of range" ce_X11_100 cei_1 (by decide) dX11_weigh_15 dX11_weigh_18 dX11_weigh_19 dX11_weigh_22 dX11_weigh_25 (by decide) (by decide) ⟨by decide, by decide⟩ ⟨by decide, by decide⟩ rfl
set_option maxHeartbeats 4000000 in
set_option maxRecDepth 100000 in
theorem z373_L_weigh (l : Launch) (hlt : l.stackTraces = false) (S : cS) (dp : Nat) (o1 o2 : Nat) (n1 : Nat) (h1 : n1 ≤ 1) (h2 : o1 ∈ cL S) (h3 : cK S o1 = 11) : cMetW (cQi (fun r_ u_ => r_ = (nI 2) ∧ u_ = S)) l yL_weigh cL_weigh 5 (some .int) [(0, 10, 13, 28), (0, 10, 17, 13)] 7 1 6 105 [.ref o1, .int (nI n1), .int (nI 0), .ref o2] S dp := by
  intro D Y tp sz
  refine cg_bodyW (by decide +kernel) (Nat.le_of_ble_eq_true rfl) ?_
  intro p e s m args below meth c C htab
  generalize va_A (cWd Y S) sz = A at C ⊢
  have C : cC p s m args meth c cL_weigh 5 (some .int) A D Y tp dp RL := C
  refine cg_lv (lv' := [(0, .ref o1), (1, .int (nI n1)), (2, .int (nI 0)), (3, .ref o2)]) rfl ?_
  refine cg_aload_n C (i := 3) rfl 3 rfl dL_weigh_0 ?_
  refine cg_iconst C (x := nI 0) rfl dL_weigh_1 ?_
  refine cg_aload_n C (i := 0) rfl 0 rfl dL_weigh_2 ?_
  refine cg_iload_n C (i := 1) rfl 1 rfl dL_weigh_3 ?_
  refine cg_iload_n C (i := 2) rfl 2 rfl dL_weigh_4 ?_
  refine cg_callx_catch C htab (z372_X11_weigh l hlt S dp o1 n1 (by omega)) cc_L_147 h2 h3 (by decide) rfl rfl ⟨by decide, by decide⟩ ⟨by decide, by decide⟩ rfl (Nat.le_of_ble_eq_true rfl) dL_weigh_5 (tableOf [(0, 10, 13, 28)]) ⟨0, 10, 17, 13⟩ (tableOf []) rfl (fun z hz => by
        rcases List.mem_cons.mp hz with rfl | hz
        · exact ⟨by decide, "java/lang/IndexOutOfBoundsException", ce_L_28, by decide⟩
        exact nomatch hz) (by decide) (by decide) (name := "java/lang/IllegalArgumentException") ce_L_13 (by decide) 17 rfl (fun x_5 u_5 h_5 => ?_)
  have hu_5 := h_5
  have hw_5 := hu_5.symm
  subst hw_5
  refine cg_astore (lv' := [(4, .ref x_5), (0, .ref o1), (1, .int (nI n1)), (2, .int (nI 0)), (3, .ref o2)]) C (Nat.le_of_ble_eq_true rfl) rfl dL_weigh_17 ?_
  refine cg_iconst C (x := nI 2) rfl dL_weigh_19 ?_
  exact cg_iret C ⟨rfl, rfl⟩ dL_weigh_20 (by decide) (by decide)
set_option maxHeartbeats 4000000 in
set_option maxRecDepth 100000 in
theorem z374_X11_weigh (l : Launch) (hlt : l.stackTraces = false) (S : cS) (dp : Nat) (o1 o2 o3 : Nat) (n1 : Nat) (h1 : 1 ≤ n1) (h2 : n1 ≤ 9) (h3 : cr S 364 o1 = (some o2)) (h4 : cK S o1 = 11) (h5 : o1 ∈ cL S) (h6 : cr S 224 o2 = (some o3)) (h7 : cK S o2 = 7) (h8 : o2 ∈ cL S) (h9 : cK S o3 = 14) (h10 : cn S o3 = 2) (h11 : o3 ∈ cL S) (h12 : cI S o3 0 = (nI 3)) : cMet (cQi (fun r_ u_ => ∃ (S1 : cS), S1 = cSI S o3 0 (nI n1) ∧ r_ = (nI 3) ∧ u_ = S1)) l yX11_weigh cX11_weigh 4 (some .int) 1 0 0 20 [.ref o1, .int (nI 0), .int (nI n1)] S dp := by
  intro D Y tp sz
  refine cg_body (by decide +kernel) (Nat.le_of_ble_eq_true rfl) ?_
  intro p e s m args below meth c C
  generalize va_A (cWd Y S) sz = A at C ⊢
  have C : cC p s m args meth c cX11_weigh 4 (some .int) A D Y tp dp RX11 := C
  refine cg_lv (lv' := [(0, .ref o1), (1, .int (nI 0)), (2, .int (nI n1))]) rfl ?_
  refine cg_iload_n C (i := 1) rfl 1 rfl dX11_weigh_0 ?_
  refine cg_callsv C (z32_X11_checkField l hlt S dp ) cc_X11_152 rfl ⟨by decide, by decide⟩ ⟨by decide, by decide⟩ rfl (Nat.le_of_ble_eq_true rfl) dX11_weigh_1 (fun u_1 h_1 => ?_)
  have hu_1 := h_1
  have hw_1 := hu_1.symm
  subst hw_1
  refine cg_iload_n C (i := 2) rfl 2 rfl dX11_weigh_4 ?_
  refine cg_iconst C (x := nI 1) rfl dX11_weigh_5 ?_
  refine cg_icmp_ltN C (by omega) (by omega) 15 (by decide) dX11_weigh_6 (fun c_ => absurd c_ (by omega)) (fun c_6 => ?_)
  refine cg_iload_n C (i := 2) rfl 2 rfl dX11_weigh_9 ?_
  refine cg_bipush C (x := nI 9) rfl dX11_weigh_10 ?_
  refine cg_icmp_leN C (by omega) (by omega) 26 (by decide) dX11_weigh_12 (fun c_12 => ?_) (fun c_ => absurd c_ (by omega))
  refine cg_aload_n C (i := 0) rfl 0 rfl dX11_weigh_26 ?_
  refine cg_get C (k := 11) (j := 12) (.ref o2) h5 h4 (by decide) rfl (by decide) rfl (show cV _ 11 12 o1 = _ from congrArg va_rf h3) cWs_wsX110 cl_X11_71 rfl dX11_weigh_27 ?_
  refine cg_get C (k := 7) (j := 0) (.ref o3) h8 h7 (by decide) rfl (by decide) rfl (show cV _ 7 0 o2 = _ from congrArg va_rf h6) cWs_wsX70 cl_X11_392 rfl dX11_weigh_30 ?_
  refine cg_iload_n C (i := 1) rfl 1 rfl dX11_weigh_33 ?_
  refine cg_iaload C 0 h11 h9 (by rw [show cn _ _ = 2 from h10]; decide) (by rw [show cn _ _ = 2 from h10]; decide) dX11_weigh_34 ?_
  refine cg_cast (.int (nI 3)) (congrArg Value.int h12) ?_
  refine cg_istore_n C (i := 3) (lv' := [(3, .int (nI 3)), (0, .ref o1), (1, .int (nI 0)), (2, .int (nI n1))]) rfl (Nat.le_of_ble_eq_true rfl) rfl dX11_weigh_35 ?_
  refine cg_aload_n C (i := 0) rfl 1 rfl dX11_weigh_36 ?_
  refine cg_get C (k := 11) (j := 12) (.ref o2) h5 h4 (by decide) rfl (by decide) rfl (show cV _ 11 12 o1 = _ from congrArg va_rf h3) cWs_wsX110 cl_X11_71 rfl dX11_weigh_37 ?_
  refine cg_get C (k := 7) (j := 0) (.ref o3) h8 h7 (by decide) rfl (by decide) rfl (show cV _ 7 0 o2 = _ from congrArg va_rf h6) cWs_wsX70 cl_X11_392 rfl dX11_weigh_40 ?_
  refine cg_iload_n C (i := 1) rfl 2 rfl dX11_weigh_43 ?_
  refine cg_iload_n C (i := 2) rfl 3 rfl dX11_weigh_44 ?_
  refine cg_iastore C 0 h11 h9 (by rw [show cn _ _ = 2 from h10]; omega) (by rw [show cn _ _ = 2 from h10]; omega) dX11_weigh_45 ?_
  refine cg_nm (fun S1 (hS1 : S1 = cSI S o3 0 (nI n1)) => ?_)
  refine cg_iload_n C (i := 3) rfl 0 rfl dX11_weigh_46 ?_
  exact cg_iret C ⟨S1, hS1, rfl, rfl⟩ dX11_weigh_47 (by decide) (by decide)
set_option maxHeartbeats 4000000 in
set_option maxRecDepth 100000 in
theorem z375_L_weigh (l : Launch) (hlt : l.stackTraces = false) (S : cS) (dp : Nat) (o1 o2 o3 o4 : Nat) (n1 : Nat) (h1 : 1 ≤ n1) (h2 : n1 ≤ 9) (h3 : cr S 364 o1 = (some o3)) (h4 : cK S o1 = 11) (h5 : o1 ∈ cL S) (h6 : cr S 224 o3 = (some o4)) (h7 : cK S o3 = 7) (h8 : o3 ∈ cL S) (h9 : cK S o4 = 14) (h10 : cn S o4 = 2) (h11 : o4 ∈ cL S) (h12 : cI S o4 0 = (nI 3)) (h13 : cK S o2 = 15) (h14 : cn S o2 = 1) (h15 : o2 ∈ cL S) : cMetW (cQi (fun r_ u_ => ∃ (S1 : cS), S1 = cSI S o4 0 (nI n1) ∧ ∃ (S2 : cS), S2 = cSJ S1 o2 0 (((nI 3)).toInt64) ∧ r_ = (nI 0) ∧ u_ = S2)) l yL_weigh cL_weigh 5 (some .int) [(0, 10, 13, 28), (0, 10, 17, 13)] 2 0 0 43 [.ref o1, .int (nI 0), .int (nI n1), .ref o2] S dp := by
  intro D Y tp sz
  refine cg_bodyW (by decide +kernel) (Nat.le_of_ble_eq_true rfl) ?_
  intro p e s m args below meth c C htab
  generalize va_A (cWd Y S) sz = A at C ⊢
  have C : cC p s m args meth c cL_weigh 5 (some .int) A D Y tp dp RL := C
  refine cg_lv (lv' := [(0, .ref o1), (1, .int (nI 0)), (2, .int (nI n1)), (3, .ref o2)]) rfl ?_
  refine cg_aload_n C (i := 3) rfl 3 rfl dL_weigh_0 ?_
  refine cg_iconst C (x := nI 0) rfl dL_weigh_1 ?_
  refine cg_aload_n C (i := 0) rfl 0 rfl dL_weigh_2 ?_
  refine cg_iload_n C (i := 1) rfl 1 rfl dL_weigh_3 ?_
  refine cg_iload_n C (i := 2) rfl 2 rfl dL_weigh_4 ?_
  refine cg_calli C (z374_X11_weigh l hlt S dp o1 o3 o4 n1 (by omega) (by omega) h3 h4 h5 h6 h7 h8 h9 h10 h11 h12) cc_L_147 h5 h4 (by decide) rfl rfl ⟨by decide, by decide⟩ ⟨by decide, by decide⟩ rfl (Nat.le_of_ble_eq_true rfl) dL_weigh_5 (fun r_5 u_5 h_5 => ?_)
  obtain ⟨S1, hS1, hr_5, hu_5⟩ := h_5
  have hw_5 := hu_5.symm
  subst hw_5
  have hx_5 := hr_5.symm
  subst hx_5
  refine cg_i2l C dL_weigh_8 ?_
  refine cg_lastore C 0 (hm_SI hS1 h15) (hk_SI hS1 h13) (by rw [show cn _ _ = 1 from (hn_SI hS1 h14)]; omega) (by rw [show cn _ _ = 1 from (hn_SI hS1 h14)]; omega) dL_weigh_9 ?_
  refine cg_nm (fun S2 (hS2 : S2 = cSJ S1 o2 0 (((nI 3)).toInt64)) => ?_)
  refine cg_goto C 21 (by decide) dL_weigh_10 ?_
  refine cg_iconst C (x := nI 0) rfl dL_weigh_21 ?_
  exact cg_iret C ⟨S1, hS1, S2, hS2, rfl, rfl⟩ dL_weigh_22 (by decide) (by decide)
set_option maxHeartbeats 4000000 in
set_option maxRecDepth 100000 in
theorem z376_X11_weigh (l : Launch) (hlt : l.stackTraces = false) (S : cS) (dp : Nat) (o1 o2 o3 : Nat) (n1 : Nat) (h1 : 1 ≤ n1) (h2 : n1 ≤ 9) (h3 : cr S 364 o1 = (some o2)) (h4 : cK S o1 = 11) (h5 : o1 ∈ cL S) (h6 : cr S 224 o2 = (some o3)) (h7 : cK S o2 = 7) (h8 : o2 ∈ cL S) (h9 : cK S o3 = 14) (h10 : cn S o3 = 2) (h11 : o3 ∈ cL S) (h12 : cI S o3 1 = (nI 1)) : cMet (cQi (fun r_ u_ => ∃ (S1 : cS), S1 = cSI S o3 1 (nI n1) ∧ r_ = (nI 1) ∧ u_ = S1)) l yX11_weigh cX11_weigh 4 (some .int) 1 0 0 20 [.ref o1, .int (nI 1), .int (nI n1)] S dp := by
  intro D Y tp sz
  refine cg_body (by decide +kernel) (Nat.le_of_ble_eq_true rfl) ?_
  intro p e s m args below meth c C
  generalize va_A (cWd Y S) sz = A at C ⊢
  have C : cC p s m args meth c cX11_weigh 4 (some .int) A D Y tp dp RX11 := C
  refine cg_lv (lv' := [(0, .ref o1), (1, .int (nI 1)), (2, .int (nI n1))]) rfl ?_
  refine cg_iload_n C (i := 1) rfl 1 rfl dX11_weigh_0 ?_
  refine cg_callsv C (z36_X11_checkField l hlt S dp ) cc_X11_152 rfl ⟨by decide, by decide⟩ ⟨by decide, by decide⟩ rfl (Nat.le_of_ble_eq_true rfl) dX11_weigh_1 (fun u_1 h_1 => ?_)
  have hu_1 := h_1
  have hw_1 := hu_1.symm
  subst hw_1
  refine cg_iload_n C (i := 2) rfl 2 rfl dX11_weigh_4 ?_
  refine cg_iconst C (x := nI 1) rfl dX11_weigh_5 ?_
  refine cg_icmp_ltN C (by omega) (by omega) 15 (by decide) dX11_weigh_6 (fun c_ => absurd c_ (by omega)) (fun c_6 => ?_)
  refine cg_iload_n C (i := 2) rfl 2 rfl dX11_weigh_9 ?_
  refine cg_bipush C (x := nI 9) rfl dX11_weigh_10 ?_
  refine cg_icmp_leN C (by omega) (by omega) 26 (by decide) dX11_weigh_12 (fun c_12 => ?_) (fun c_ => absurd c_ (by omega))
  refine cg_aload_n C (i := 0) rfl 0 rfl dX11_weigh_26 ?_
  refine cg_get C (k := 11) (j := 12) (.ref o2) h5 h4 (by decide) rfl (by decide) rfl (show cV _ 11 12 o1 = _ from congrArg va_rf h3) cWs_wsX110 cl_X11_71 rfl dX11_weigh_27 ?_
  refine cg_get C (k := 7) (j := 0) (.ref o3) h8 h7 (by decide) rfl (by decide) rfl (show cV _ 7 0 o2 = _ from congrArg va_rf h6) cWs_wsX70 cl_X11_392 rfl dX11_weigh_30 ?_
  refine cg_iload_n C (i := 1) rfl 1 rfl dX11_weigh_33 ?_
  refine cg_iaload C 1 h11 h9 (by rw [show cn _ _ = 2 from h10]; decide) (by rw [show cn _ _ = 2 from h10]; decide) dX11_weigh_34 ?_
  refine cg_cast (.int (nI 1)) (congrArg Value.int h12) ?_
  refine cg_istore_n C (i := 3) (lv' := [(3, .int (nI 1)), (0, .ref o1), (1, .int (nI 1)), (2, .int (nI n1))]) rfl (Nat.le_of_ble_eq_true rfl) rfl dX11_weigh_35 ?_
  refine cg_aload_n C (i := 0) rfl 1 rfl dX11_weigh_36 ?_
  refine cg_get C (k := 11) (j := 12) (.ref o2) h5 h4 (by decide) rfl (by decide) rfl (show cV _ 11 12 o1 = _ from congrArg va_rf h3) cWs_wsX110 cl_X11_71 rfl dX11_weigh_37 ?_
  refine cg_get C (k := 7) (j := 0) (.ref o3) h8 h7 (by decide) rfl (by decide) rfl (show cV _ 7 0 o2 = _ from congrArg va_rf h6) cWs_wsX70 cl_X11_392 rfl dX11_weigh_40 ?_
  refine cg_iload_n C (i := 1) rfl 2 rfl dX11_weigh_43 ?_
  refine cg_iload_n C (i := 2) rfl 3 rfl dX11_weigh_44 ?_
  refine cg_iastore C 1 h11 h9 (by rw [show cn _ _ = 2 from h10]; omega) (by rw [show cn _ _ = 2 from h10]; omega) dX11_weigh_45 ?_
  refine cg_nm (fun S1 (hS1 : S1 = cSI S o3 1 (nI n1)) => ?_)
  refine cg_iload_n C (i := 3) rfl 0 rfl dX11_weigh_46 ?_
  exact cg_iret C ⟨S1, hS1, rfl, rfl⟩ dX11_weigh_47 (by decide) (by decide)
set_option maxHeartbeats 4000000 in
set_option maxRecDepth 100000 in
theorem z377_L_weigh (l : Launch) (hlt : l.stackTraces = false) (S : cS) (dp : Nat) (o1 o2 o3 o4 : Nat) (n1 : Nat) (h1 : 1 ≤ n1) (h2 : n1 ≤ 9) (h3 : cr S 364 o1 = (some o3)) (h4 : cK S o1 = 11) (h5 : o1 ∈ cL S) (h6 : cr S 224 o3 = (some o4)) (h7 : cK S o3 = 7) (h8 : o3 ∈ cL S) (h9 : cK S o4 = 14) (h10 : cn S o4 = 2) (h11 : o4 ∈ cL S) (h12 : cI S o4 1 = (nI 1)) (h13 : cK S o2 = 15) (h14 : cn S o2 = 1) (h15 : o2 ∈ cL S) : cMetW (cQi (fun r_ u_ => ∃ (S1 : cS), S1 = cSI S o4 1 (nI n1) ∧ ∃ (S2 : cS), S2 = cSJ S1 o2 0 (((nI 1)).toInt64) ∧ r_ = (nI 0) ∧ u_ = S2)) l yL_weigh cL_weigh 5 (some .int) [(0, 10, 13, 28), (0, 10, 17, 13)] 2 0 0 43 [.ref o1, .int (nI 1), .int (nI n1), .ref o2] S dp := by
  intro D Y tp sz
  refine cg_bodyW (by decide +kernel) (Nat.le_of_ble_eq_true rfl) ?_
  intro p e s m args below meth c C htab
  generalize va_A (cWd Y S) sz = A at C ⊢
  have C : cC p s m args meth c cL_weigh 5 (some .int) A D Y tp dp RL := C
  refine cg_lv (lv' := [(0, .ref o1), (1, .int (nI 1)), (2, .int (nI n1)), (3, .ref o2)]) rfl ?_
  refine cg_aload_n C (i := 3) rfl 3 rfl dL_weigh_0 ?_
  refine cg_iconst C (x := nI 0) rfl dL_weigh_1 ?_
  refine cg_aload_n C (i := 0) rfl 0 rfl dL_weigh_2 ?_
  refine cg_iload_n C (i := 1) rfl 1 rfl dL_weigh_3 ?_
  refine cg_iload_n C (i := 2) rfl 2 rfl dL_weigh_4 ?_
  refine cg_calli C (z376_X11_weigh l hlt S dp o1 o3 o4 n1 (by omega) (by omega) h3 h4 h5 h6 h7 h8 h9 h10 h11 h12) cc_L_147 h5 h4 (by decide) rfl rfl ⟨by decide, by decide⟩ ⟨by decide, by decide⟩ rfl (Nat.le_of_ble_eq_true rfl) dL_weigh_5 (fun r_5 u_5 h_5 => ?_)
  obtain ⟨S1, hS1, hr_5, hu_5⟩ := h_5
  have hw_5 := hu_5.symm
  subst hw_5
  have hx_5 := hr_5.symm
  subst hx_5
  refine cg_i2l C dL_weigh_8 ?_
  refine cg_lastore C 0 (hm_SI hS1 h15) (hk_SI hS1 h13) (by rw [show cn _ _ = 1 from (hn_SI hS1 h14)]; omega) (by rw [show cn _ _ = 1 from (hn_SI hS1 h14)]; omega) dL_weigh_9 ?_
  refine cg_nm (fun S2 (hS2 : S2 = cSJ S1 o2 0 (((nI 1)).toInt64)) => ?_)
  refine cg_goto C 21 (by decide) dL_weigh_10 ?_
  refine cg_iconst C (x := nI 0) rfl dL_weigh_21 ?_
  exact cg_iret C ⟨S1, hS1, S2, hS2, rfl, rfl⟩ dL_weigh_22 (by decide) (by decide)
set_option maxHeartbeats 4000000 in
set_option maxRecDepth 100000 in
theorem z378_X11_weigh (l : Launch) (hlt : l.stackTraces = false) (S : cS) (dp : Nat) (o1 : Nat) (n1 n2 : Nat) (h1 : n1 ≤ 1) (h2 : 10 ≤ n2) (h3 : n2 ≤ 2147483647) : cMetX "java/lang/IllegalArgumentException" (fun u_ => u_ = S) l yX11_weigh cX11_weigh 4 (some .int) 6 1 6 82 [.ref o1, .int (nI n1), .int (nI n2)] S dp := by
  intro D Y tp sz
  refine cg_bodyX (by decide +kernel) (Nat.le_of_ble_eq_true rfl) ?_
  intro p e s m args below meth c C hne
  generalize va_A (cWd Y S) sz = A at C ⊢
  have C : cC p s m args meth c cX11_weigh 4 (some .int) A D Y tp dp RX11 := C
  refine cg_lv (lv' := [(0, .ref o1), (1, .int (nI n1)), (2, .int (nI n2))]) rfl ?_
  refine cg_iload_n C (i := 1) rfl 1 rfl dX11_weigh_0 ?_
  refine cg_callsv C (z30_X11_checkField l hlt S dp n1 (by omega)) cc_X11_152 rfl ⟨by decide, by decide⟩ ⟨by decide, by decide⟩ rfl (Nat.le_of_ble_eq_true rfl) dX11_weigh_1 (fun u_1 h_1 => ?_)
  have hu_1 := h_1
  have hw_1 := hu_1.symm
  subst hw_1
  refine cg_iload_n C (i := 2) rfl 2 rfl dX11_weigh_4 ?_
  refine cg_iconst C (x := nI 1) rfl dX11_weigh_5 ?_
  refine cg_icmp_ltN C (by omega) (by omega) 15 (by decide) dX11_weigh_6 (fun c_ => absurd c_ (by omega)) (fun c_6 => ?_)
  refine cg_iload_n C (i := 2) rfl 2 rfl dX11_weigh_9 ?_
  refine cg_bipush C (x := nI 9) rfl dX11_weigh_10 ?_
  refine cg_icmp_leN C (by omega) (by omega) 26 (by decide) dX11_weigh_12 (fun c_ => absurd c_ (by omega)) (fun c_12 => ?_)
  exact cg_throw1W C hlt hne "the weight is out of range" ce_X11_100 cei_1 (by decide) dX11_weigh_15 dX11_weigh_18 dX11_weigh_19 dX11_weigh_22 dX11_weigh_25 (by decide) (by decide) ⟨by decide, by decide⟩ ⟨by decide, by decide⟩ rfl
set_option maxHeartbeats 4000000 in
set_option maxRecDepth 100000 in
theorem z379_L_weigh (l : Launch) (hlt : l.stackTraces = false) (S : cS) (dp : Nat) (o1 o2 : Nat) (n1 n2 : Nat) (h1 : n1 ≤ 1) (h2 : 10 ≤ n2) (h3 : n2 ≤ 2147483647) (h4 : o1 ∈ cL S) (h5 : cK S o1 = 11) : cMetW (cQi (fun r_ u_ => r_ = (nI 2) ∧ u_ = S)) l yL_weigh cL_weigh 5 (some .int) [(0, 10, 13, 28), (0, 10, 17, 13)] 7 1 6 105 [.ref o1, .int (nI n1), .int (nI n2), .ref o2] S dp := by
  intro D Y tp sz
  refine cg_bodyW (by decide +kernel) (Nat.le_of_ble_eq_true rfl) ?_
  intro p e s m args below meth c C htab
  generalize va_A (cWd Y S) sz = A at C ⊢
  have C : cC p s m args meth c cL_weigh 5 (some .int) A D Y tp dp RL := C
  refine cg_lv (lv' := [(0, .ref o1), (1, .int (nI n1)), (2, .int (nI n2)), (3, .ref o2)]) rfl ?_
  refine cg_aload_n C (i := 3) rfl 3 rfl dL_weigh_0 ?_
  refine cg_iconst C (x := nI 0) rfl dL_weigh_1 ?_
  refine cg_aload_n C (i := 0) rfl 0 rfl dL_weigh_2 ?_
  refine cg_iload_n C (i := 1) rfl 1 rfl dL_weigh_3 ?_
  refine cg_iload_n C (i := 2) rfl 2 rfl dL_weigh_4 ?_
  refine cg_callx_catch C htab (z378_X11_weigh l hlt S dp o1 n1 n2 (by omega) (by omega) (by omega)) cc_L_147 h4 h5 (by decide) rfl rfl ⟨by decide, by decide⟩ ⟨by decide, by decide⟩ rfl (Nat.le_of_ble_eq_true rfl) dL_weigh_5 (tableOf [(0, 10, 13, 28)]) ⟨0, 10, 17, 13⟩ (tableOf []) rfl (fun z hz => by
        rcases List.mem_cons.mp hz with rfl | hz
        · exact ⟨by decide, "java/lang/IndexOutOfBoundsException", ce_L_28, by decide⟩
        exact nomatch hz) (by decide) (by decide) (name := "java/lang/IllegalArgumentException") ce_L_13 (by decide) 17 rfl (fun x_5 u_5 h_5 => ?_)
  have hu_5 := h_5
  have hw_5 := hu_5.symm
  subst hw_5
  refine cg_astore (lv' := [(4, .ref x_5), (0, .ref o1), (1, .int (nI n1)), (2, .int (nI n2)), (3, .ref o2)]) C (Nat.le_of_ble_eq_true rfl) rfl dL_weigh_17 ?_
  refine cg_iconst C (x := nI 2) rfl dL_weigh_19 ?_
  exact cg_iret C ⟨rfl, rfl⟩ dL_weigh_20 (by decide) (by decide)
set_option maxHeartbeats 4000000 in
set_option maxRecDepth 100000 in
theorem z380_X11_weigh (l : Launch) (hlt : l.stackTraces = false) (S : cS) (dp : Nat) (o1 : Nat) (n1 : Nat) (x1 : Int32) (h1 : 2 ≤ n1) (h2 : n1 ≤ 2147483647) : cMetX "java/lang/IndexOutOfBoundsException" (fun u_ => u_ = S) l yX11_weigh cX11_weigh 4 (some .int) 7 1 6 102 [.ref o1, .int (nI n1), .int x1] S dp := by
  intro D Y tp sz
  refine cg_bodyX (by decide +kernel) (Nat.le_of_ble_eq_true rfl) ?_
  intro p e s m args below meth c C hne
  generalize va_A (cWd Y S) sz = A at C ⊢
  have C : cC p s m args meth c cX11_weigh 4 (some .int) A D Y tp dp RX11 := C
  refine cg_lv (lv' := [(0, .ref o1), (1, .int (nI n1)), (2, .int x1)]) rfl ?_
  refine cg_iload_n C (i := 1) rfl 1 rfl dX11_weigh_0 ?_
  exact cg_callsx C hne (z40_X11_checkField l hlt S dp n1 (by omega) (by omega)) cc_X11_152 rfl ⟨by decide, by decide⟩ ⟨by decide, by decide⟩ rfl (Nat.le_of_ble_eq_true rfl) dX11_weigh_1 ⟨by decide, by decide⟩ (fun u_ h_ => by
      have hu_ := h_
      exact hu_)
set_option maxHeartbeats 4000000 in
set_option maxRecDepth 100000 in
theorem z381_L_weigh (l : Launch) (hlt : l.stackTraces = false) (S : cS) (dp : Nat) (o1 o2 : Nat) (n1 : Nat) (x1 : Int32) (h1 : 2 ≤ n1) (h2 : n1 ≤ 2147483647) (h3 : o1 ∈ cL S) (h4 : cK S o1 = 11) : cMetW (cQi (fun r_ u_ => r_ = (nI 1) ∧ u_ = S)) l yL_weigh cL_weigh 5 (some .int) [(0, 10, 13, 28), (0, 10, 17, 13)] 8 1 6 125 [.ref o1, .int (nI n1), .int x1, .ref o2] S dp := by
  intro D Y tp sz
  refine cg_bodyW (by decide +kernel) (Nat.le_of_ble_eq_true rfl) ?_
  intro p e s m args below meth c C htab
  generalize va_A (cWd Y S) sz = A at C ⊢
  have C : cC p s m args meth c cL_weigh 5 (some .int) A D Y tp dp RL := C
  refine cg_lv (lv' := [(0, .ref o1), (1, .int (nI n1)), (2, .int x1), (3, .ref o2)]) rfl ?_
  refine cg_aload_n C (i := 3) rfl 3 rfl dL_weigh_0 ?_
  refine cg_iconst C (x := nI 0) rfl dL_weigh_1 ?_
  refine cg_aload_n C (i := 0) rfl 0 rfl dL_weigh_2 ?_
  refine cg_iload_n C (i := 1) rfl 1 rfl dL_weigh_3 ?_
  refine cg_iload_n C (i := 2) rfl 2 rfl dL_weigh_4 ?_
  refine cg_callx_catch C htab (z380_X11_weigh l hlt S dp o1 n1 x1 (by omega) (by omega)) cc_L_147 h3 h4 (by decide) rfl rfl ⟨by decide, by decide⟩ ⟨by decide, by decide⟩ rfl (Nat.le_of_ble_eq_true rfl) dL_weigh_5 (tableOf []) ⟨0, 10, 13, 28⟩ (tableOf [(0, 10, 17, 13)]) rfl (fun z hz => nomatch hz) (by decide) (by decide) (name := "java/lang/IndexOutOfBoundsException") ce_L_28 (by decide) 13 rfl (fun x_5 u_5 h_5 => ?_)
  have hu_5 := h_5
  have hw_5 := hu_5.symm
  subst hw_5
  refine cg_astore (lv' := [(4, .ref x_5), (0, .ref o1), (1, .int (nI n1)), (2, .int x1), (3, .ref o2)]) C (Nat.le_of_ble_eq_true rfl) rfl dL_weigh_13 ?_
  refine cg_iconst C (x := nI 1) rfl dL_weigh_15 ?_
  exact cg_iret C ⟨rfl, rfl⟩ dL_weigh_16 (by decide) (by decide)
set_option maxHeartbeats 4000000 in
set_option maxRecDepth 100000 in
theorem z382_X11_weigh (l : Launch) (hlt : l.stackTraces = false) (S : cS) (dp : Nat) (o1 : Nat) (n1 : Nat) (x1 : Int32) (h1 : 2 ≤ n1) (h2 : n1 ≤ 2147483647) (h3 : x1 < 0) : cMetX "java/lang/IndexOutOfBoundsException" (fun u_ => u_ = S) l yX11_weigh cX11_weigh 4 (some .int) 7 1 6 102 [.ref o1, .int (nI n1), .int x1] S dp := by
  intro D Y tp sz
  refine cg_bodyX (by decide +kernel) (Nat.le_of_ble_eq_true rfl) ?_
  intro p e s m args below meth c C hne
  generalize va_A (cWd Y S) sz = A at C ⊢
  have C : cC p s m args meth c cX11_weigh 4 (some .int) A D Y tp dp RX11 := C
  refine cg_lv (lv' := [(0, .ref o1), (1, .int (nI n1)), (2, .int x1)]) rfl ?_
  refine cg_iload_n C (i := 1) rfl 1 rfl dX11_weigh_0 ?_
  exact cg_callsx C hne (z40_X11_checkField l hlt S dp n1 (by omega) (by omega)) cc_X11_152 rfl ⟨by decide, by decide⟩ ⟨by decide, by decide⟩ rfl (Nat.le_of_ble_eq_true rfl) dX11_weigh_1 ⟨by decide, by decide⟩ (fun u_ h_ => by
      have hu_ := h_
      exact hu_)
set_option maxHeartbeats 4000000 in
set_option maxRecDepth 100000 in
theorem z383_L_weigh (l : Launch) (hlt : l.stackTraces = false) (S : cS) (dp : Nat) (o1 o2 : Nat) (n1 : Nat) (x1 : Int32) (h1 : 2 ≤ n1) (h2 : n1 ≤ 2147483647) (h3 : x1 < 0) (h4 : o1 ∈ cL S) (h5 : cK S o1 = 11) : cMetW (cQi (fun r_ u_ => r_ = (nI 1) ∧ u_ = S)) l yL_weigh cL_weigh 5 (some .int) [(0, 10, 13, 28), (0, 10, 17, 13)] 8 1 6 125 [.ref o1, .int (nI n1), .int x1, .ref o2] S dp := by
  intro D Y tp sz
  refine cg_bodyW (by decide +kernel) (Nat.le_of_ble_eq_true rfl) ?_
  intro p e s m args below meth c C htab
  generalize va_A (cWd Y S) sz = A at C ⊢
  have C : cC p s m args meth c cL_weigh 5 (some .int) A D Y tp dp RL := C
  refine cg_lv (lv' := [(0, .ref o1), (1, .int (nI n1)), (2, .int x1), (3, .ref o2)]) rfl ?_
  refine cg_aload_n C (i := 3) rfl 3 rfl dL_weigh_0 ?_
  refine cg_iconst C (x := nI 0) rfl dL_weigh_1 ?_
  refine cg_aload_n C (i := 0) rfl 0 rfl dL_weigh_2 ?_
  refine cg_iload_n C (i := 1) rfl 1 rfl dL_weigh_3 ?_
  refine cg_iload_n C (i := 2) rfl 2 rfl dL_weigh_4 ?_
  refine cg_callx_catch C htab (z382_X11_weigh l hlt S dp o1 n1 x1 (by omega) (by omega) h3) cc_L_147 h4 h5 (by decide) rfl rfl ⟨by decide, by decide⟩ ⟨by decide, by decide⟩ rfl (Nat.le_of_ble_eq_true rfl) dL_weigh_5 (tableOf []) ⟨0, 10, 13, 28⟩ (tableOf [(0, 10, 17, 13)]) rfl (fun z hz => nomatch hz) (by decide) (by decide) (name := "java/lang/IndexOutOfBoundsException") ce_L_28 (by decide) 13 rfl (fun x_5 u_5 h_5 => ?_)
  have hu_5 := h_5
  have hw_5 := hu_5.symm
  subst hw_5
  refine cg_astore (lv' := [(4, .ref x_5), (0, .ref o1), (1, .int (nI n1)), (2, .int x1), (3, .ref o2)]) C (Nat.le_of_ble_eq_true rfl) rfl dL_weigh_13 ?_
  refine cg_iconst C (x := nI 1) rfl dL_weigh_15 ?_
  exact cg_iret C ⟨rfl, rfl⟩ dL_weigh_16 (by decide) (by decide)
set_option maxHeartbeats 4000000 in
set_option maxRecDepth 100000 in
theorem z384_X11_weigh (l : Launch) (hlt : l.stackTraces = false) (S : cS) (dp : Nat) (o1 : Nat) (n1 n2 : Nat) (h1 : 2 ≤ n1) (h2 : n1 ≤ 2147483647) (h3 : n2 ≤ 2147483647) : cMetX "java/lang/IndexOutOfBoundsException" (fun u_ => u_ = S) l yX11_weigh cX11_weigh 4 (some .int) 7 1 6 102 [.ref o1, .int (nI n1), .int (nI n2)] S dp := by
  intro D Y tp sz
  refine cg_bodyX (by decide +kernel) (Nat.le_of_ble_eq_true rfl) ?_
  intro p e s m args below meth c C hne
  generalize va_A (cWd Y S) sz = A at C ⊢
  have C : cC p s m args meth c cX11_weigh 4 (some .int) A D Y tp dp RX11 := C
  refine cg_lv (lv' := [(0, .ref o1), (1, .int (nI n1)), (2, .int (nI n2))]) rfl ?_
  refine cg_iload_n C (i := 1) rfl 1 rfl dX11_weigh_0 ?_
  exact cg_callsx C hne (z40_X11_checkField l hlt S dp n1 (by omega) (by omega)) cc_X11_152 rfl ⟨by decide, by decide⟩ ⟨by decide, by decide⟩ rfl (Nat.le_of_ble_eq_true rfl) dX11_weigh_1 ⟨by decide, by decide⟩ (fun u_ h_ => by
      have hu_ := h_
      exact hu_)
set_option maxHeartbeats 4000000 in
set_option maxRecDepth 100000 in
theorem z385_L_weigh (l : Launch) (hlt : l.stackTraces = false) (S : cS) (dp : Nat) (o1 o2 : Nat) (n1 n2 : Nat) (h1 : 2 ≤ n1) (h2 : n1 ≤ 2147483647) (h3 : n2 ≤ 2147483647) (h4 : o1 ∈ cL S) (h5 : cK S o1 = 11) : cMetW (cQi (fun r_ u_ => r_ = (nI 1) ∧ u_ = S)) l yL_weigh cL_weigh 5 (some .int) [(0, 10, 13, 28), (0, 10, 17, 13)] 8 1 6 125 [.ref o1, .int (nI n1), .int (nI n2), .ref o2] S dp := by
  intro D Y tp sz
  refine cg_bodyW (by decide +kernel) (Nat.le_of_ble_eq_true rfl) ?_
  intro p e s m args below meth c C htab
  generalize va_A (cWd Y S) sz = A at C ⊢
  have C : cC p s m args meth c cL_weigh 5 (some .int) A D Y tp dp RL := C
  refine cg_lv (lv' := [(0, .ref o1), (1, .int (nI n1)), (2, .int (nI n2)), (3, .ref o2)]) rfl ?_
  refine cg_aload_n C (i := 3) rfl 3 rfl dL_weigh_0 ?_
  refine cg_iconst C (x := nI 0) rfl dL_weigh_1 ?_
  refine cg_aload_n C (i := 0) rfl 0 rfl dL_weigh_2 ?_
  refine cg_iload_n C (i := 1) rfl 1 rfl dL_weigh_3 ?_
  refine cg_iload_n C (i := 2) rfl 2 rfl dL_weigh_4 ?_
  refine cg_callx_catch C htab (z384_X11_weigh l hlt S dp o1 n1 n2 (by omega) (by omega) (by omega)) cc_L_147 h4 h5 (by decide) rfl rfl ⟨by decide, by decide⟩ ⟨by decide, by decide⟩ rfl (Nat.le_of_ble_eq_true rfl) dL_weigh_5 (tableOf []) ⟨0, 10, 13, 28⟩ (tableOf [(0, 10, 17, 13)]) rfl (fun z hz => nomatch hz) (by decide) (by decide) (name := "java/lang/IndexOutOfBoundsException") ce_L_28 (by decide) 13 rfl (fun x_5 u_5 h_5 => ?_)
  have hu_5 := h_5
  have hw_5 := hu_5.symm
  subst hw_5
  refine cg_astore (lv' := [(4, .ref x_5), (0, .ref o1), (1, .int (nI n1)), (2, .int (nI n2)), (3, .ref o2)]) C (Nat.le_of_ble_eq_true rfl) rfl dL_weigh_13 ?_
  refine cg_iconst C (x := nI 1) rfl dL_weigh_15 ?_
  exact cg_iret C ⟨rfl, rfl⟩ dL_weigh_16 (by decide) (by decide)
set_option maxHeartbeats 4000000 in
set_option maxRecDepth 100000 in
theorem z386_X11_weigh (l : Launch) (hlt : l.stackTraces = false) (S : cS) (dp : Nat) (o1 : Nat) (n1 : Nat) (h1 : 2 ≤ n1) (h2 : n1 ≤ 2147483647) : cMetX "java/lang/IndexOutOfBoundsException" (fun u_ => u_ = S) l yX11_weigh cX11_weigh 4 (some .int) 7 1 6 102 [.ref o1, .int (nI n1), .int (nI 0)] S dp := by
  intro D Y tp sz
  refine cg_bodyX (by decide +kernel) (Nat.le_of_ble_eq_true rfl) ?_
  intro p e s m args below meth c C hne
  generalize va_A (cWd Y S) sz = A at C ⊢
  have C : cC p s m args meth c cX11_weigh 4 (some .int) A D Y tp dp RX11 := C
  refine cg_lv (lv' := [(0, .ref o1), (1, .int (nI n1)), (2, .int (nI 0))]) rfl ?_
  refine cg_iload_n C (i := 1) rfl 1 rfl dX11_weigh_0 ?_
  exact cg_callsx C hne (z40_X11_checkField l hlt S dp n1 (by omega) (by omega)) cc_X11_152 rfl ⟨by decide, by decide⟩ ⟨by decide, by decide⟩ rfl (Nat.le_of_ble_eq_true rfl) dX11_weigh_1 ⟨by decide, by decide⟩ (fun u_ h_ => by
      have hu_ := h_
      exact hu_)
set_option maxHeartbeats 4000000 in
set_option maxRecDepth 100000 in
theorem z387_L_weigh (l : Launch) (hlt : l.stackTraces = false) (S : cS) (dp : Nat) (o1 o2 : Nat) (n1 : Nat) (h1 : 2 ≤ n1) (h2 : n1 ≤ 2147483647) (h3 : o1 ∈ cL S) (h4 : cK S o1 = 11) : cMetW (cQi (fun r_ u_ => r_ = (nI 1) ∧ u_ = S)) l yL_weigh cL_weigh 5 (some .int) [(0, 10, 13, 28), (0, 10, 17, 13)] 8 1 6 125 [.ref o1, .int (nI n1), .int (nI 0), .ref o2] S dp := by
  intro D Y tp sz
  refine cg_bodyW (by decide +kernel) (Nat.le_of_ble_eq_true rfl) ?_
  intro p e s m args below meth c C htab
  generalize va_A (cWd Y S) sz = A at C ⊢
  have C : cC p s m args meth c cL_weigh 5 (some .int) A D Y tp dp RL := C
  refine cg_lv (lv' := [(0, .ref o1), (1, .int (nI n1)), (2, .int (nI 0)), (3, .ref o2)]) rfl ?_
  refine cg_aload_n C (i := 3) rfl 3 rfl dL_weigh_0 ?_
  refine cg_iconst C (x := nI 0) rfl dL_weigh_1 ?_
  refine cg_aload_n C (i := 0) rfl 0 rfl dL_weigh_2 ?_
  refine cg_iload_n C (i := 1) rfl 1 rfl dL_weigh_3 ?_
  refine cg_iload_n C (i := 2) rfl 2 rfl dL_weigh_4 ?_
  refine cg_callx_catch C htab (z386_X11_weigh l hlt S dp o1 n1 (by omega) (by omega)) cc_L_147 h3 h4 (by decide) rfl rfl ⟨by decide, by decide⟩ ⟨by decide, by decide⟩ rfl (Nat.le_of_ble_eq_true rfl) dL_weigh_5 (tableOf []) ⟨0, 10, 13, 28⟩ (tableOf [(0, 10, 17, 13)]) rfl (fun z hz => nomatch hz) (by decide) (by decide) (name := "java/lang/IndexOutOfBoundsException") ce_L_28 (by decide) 13 rfl (fun x_5 u_5 h_5 => ?_)
  have hu_5 := h_5
  have hw_5 := hu_5.symm
  subst hw_5
  refine cg_astore (lv' := [(4, .ref x_5), (0, .ref o1), (1, .int (nI n1)), (2, .int (nI 0)), (3, .ref o2)]) C (Nat.le_of_ble_eq_true rfl) rfl dL_weigh_13 ?_
  refine cg_iconst C (x := nI 1) rfl dL_weigh_15 ?_
  exact cg_iret C ⟨rfl, rfl⟩ dL_weigh_16 (by decide) (by decide)
set_option maxHeartbeats 4000000 in
set_option maxRecDepth 100000 in
theorem z388_X11_weigh (l : Launch) (hlt : l.stackTraces = false) (S : cS) (dp : Nat) (o1 : Nat) (n1 n2 : Nat) (h1 : 2 ≤ n1) (h2 : n1 ≤ 2147483647) (h3 : 1 ≤ n2) (h4 : n2 ≤ 2147483647) : cMetX "java/lang/IndexOutOfBoundsException" (fun u_ => u_ = S) l yX11_weigh cX11_weigh 4 (some .int) 7 1 6 102 [.ref o1, .int (nI n1), .int (nI n2)] S dp := by
  intro D Y tp sz
  refine cg_bodyX (by decide +kernel) (Nat.le_of_ble_eq_true rfl) ?_
  intro p e s m args below meth c C hne
  generalize va_A (cWd Y S) sz = A at C ⊢
  have C : cC p s m args meth c cX11_weigh 4 (some .int) A D Y tp dp RX11 := C
  refine cg_lv (lv' := [(0, .ref o1), (1, .int (nI n1)), (2, .int (nI n2))]) rfl ?_
  refine cg_iload_n C (i := 1) rfl 1 rfl dX11_weigh_0 ?_
  exact cg_callsx C hne (z40_X11_checkField l hlt S dp n1 (by omega) (by omega)) cc_X11_152 rfl ⟨by decide, by decide⟩ ⟨by decide, by decide⟩ rfl (Nat.le_of_ble_eq_true rfl) dX11_weigh_1 ⟨by decide, by decide⟩ (fun u_ h_ => by
      have hu_ := h_
      exact hu_)
set_option maxHeartbeats 4000000 in
set_option maxRecDepth 100000 in
theorem z389_L_weigh (l : Launch) (hlt : l.stackTraces = false) (S : cS) (dp : Nat) (o1 o2 : Nat) (n1 n2 : Nat) (h1 : 2 ≤ n1) (h2 : n1 ≤ 2147483647) (h3 : 1 ≤ n2) (h4 : n2 ≤ 2147483647) (h5 : o1 ∈ cL S) (h6 : cK S o1 = 11) : cMetW (cQi (fun r_ u_ => r_ = (nI 1) ∧ u_ = S)) l yL_weigh cL_weigh 5 (some .int) [(0, 10, 13, 28), (0, 10, 17, 13)] 8 1 6 125 [.ref o1, .int (nI n1), .int (nI n2), .ref o2] S dp := by
  intro D Y tp sz
  refine cg_bodyW (by decide +kernel) (Nat.le_of_ble_eq_true rfl) ?_
  intro p e s m args below meth c C htab
  generalize va_A (cWd Y S) sz = A at C ⊢
  have C : cC p s m args meth c cL_weigh 5 (some .int) A D Y tp dp RL := C
  refine cg_lv (lv' := [(0, .ref o1), (1, .int (nI n1)), (2, .int (nI n2)), (3, .ref o2)]) rfl ?_
  refine cg_aload_n C (i := 3) rfl 3 rfl dL_weigh_0 ?_
  refine cg_iconst C (x := nI 0) rfl dL_weigh_1 ?_
  refine cg_aload_n C (i := 0) rfl 0 rfl dL_weigh_2 ?_
  refine cg_iload_n C (i := 1) rfl 1 rfl dL_weigh_3 ?_
  refine cg_iload_n C (i := 2) rfl 2 rfl dL_weigh_4 ?_
  refine cg_callx_catch C htab (z388_X11_weigh l hlt S dp o1 n1 n2 (by omega) (by omega) (by omega) (by omega)) cc_L_147 h5 h6 (by decide) rfl rfl ⟨by decide, by decide⟩ ⟨by decide, by decide⟩ rfl (Nat.le_of_ble_eq_true rfl) dL_weigh_5 (tableOf []) ⟨0, 10, 13, 28⟩ (tableOf [(0, 10, 17, 13)]) rfl (fun z hz => nomatch hz) (by decide) (by decide) (name := "java/lang/IndexOutOfBoundsException") ce_L_28 (by decide) 13 rfl (fun x_5 u_5 h_5 => ?_)
  have hu_5 := h_5
  have hw_5 := hu_5.symm
  subst hw_5
  refine cg_astore (lv' := [(4, .ref x_5), (0, .ref o1), (1, .int (nI n1)), (2, .int (nI n2)), (3, .ref o2)]) C (Nat.le_of_ble_eq_true rfl) rfl dL_weigh_13 ?_
  refine cg_iconst C (x := nI 1) rfl dL_weigh_15 ?_
  exact cg_iret C ⟨rfl, rfl⟩ dL_weigh_16 (by decide) (by decide)
set_option maxHeartbeats 4000000 in
set_option maxRecDepth 100000 in
theorem z390_X11_weigh (l : Launch) (hlt : l.stackTraces = false) (S : cS) (dp : Nat) (o1 : Nat) (n1 n2 : Nat) (h1 : 2 ≤ n1) (h2 : n1 ≤ 2147483647) (h3 : 1 ≤ n2) (h4 : n2 ≤ 9) : cMetX "java/lang/IndexOutOfBoundsException" (fun u_ => u_ = S) l yX11_weigh cX11_weigh 4 (some .int) 7 1 6 102 [.ref o1, .int (nI n1), .int (nI n2)] S dp := by
  intro D Y tp sz
  refine cg_bodyX (by decide +kernel) (Nat.le_of_ble_eq_true rfl) ?_
  intro p e s m args below meth c C hne
  generalize va_A (cWd Y S) sz = A at C ⊢
  have C : cC p s m args meth c cX11_weigh 4 (some .int) A D Y tp dp RX11 := C
  refine cg_lv (lv' := [(0, .ref o1), (1, .int (nI n1)), (2, .int (nI n2))]) rfl ?_
  refine cg_iload_n C (i := 1) rfl 1 rfl dX11_weigh_0 ?_
  exact cg_callsx C hne (z40_X11_checkField l hlt S dp n1 (by omega) (by omega)) cc_X11_152 rfl ⟨by decide, by decide⟩ ⟨by decide, by decide⟩ rfl (Nat.le_of_ble_eq_true rfl) dX11_weigh_1 ⟨by decide, by decide⟩ (fun u_ h_ => by
      have hu_ := h_
      exact hu_)
set_option maxHeartbeats 4000000 in
set_option maxRecDepth 100000 in
theorem z391_L_weigh (l : Launch) (hlt : l.stackTraces = false) (S : cS) (dp : Nat) (o1 o2 : Nat) (n1 n2 : Nat) (h1 : 2 ≤ n1) (h2 : n1 ≤ 2147483647) (h3 : 1 ≤ n2) (h4 : n2 ≤ 9) (h5 : o1 ∈ cL S) (h6 : cK S o1 = 11) : cMetW (cQi (fun r_ u_ => r_ = (nI 1) ∧ u_ = S)) l yL_weigh cL_weigh 5 (some .int) [(0, 10, 13, 28), (0, 10, 17, 13)] 8 1 6 125 [.ref o1, .int (nI n1), .int (nI n2), .ref o2] S dp := by
  intro D Y tp sz
  refine cg_bodyW (by decide +kernel) (Nat.le_of_ble_eq_true rfl) ?_
  intro p e s m args below meth c C htab
  generalize va_A (cWd Y S) sz = A at C ⊢
  have C : cC p s m args meth c cL_weigh 5 (some .int) A D Y tp dp RL := C
  refine cg_lv (lv' := [(0, .ref o1), (1, .int (nI n1)), (2, .int (nI n2)), (3, .ref o2)]) rfl ?_
  refine cg_aload_n C (i := 3) rfl 3 rfl dL_weigh_0 ?_
  refine cg_iconst C (x := nI 0) rfl dL_weigh_1 ?_
  refine cg_aload_n C (i := 0) rfl 0 rfl dL_weigh_2 ?_
  refine cg_iload_n C (i := 1) rfl 1 rfl dL_weigh_3 ?_
  refine cg_iload_n C (i := 2) rfl 2 rfl dL_weigh_4 ?_
  refine cg_callx_catch C htab (z390_X11_weigh l hlt S dp o1 n1 n2 (by omega) (by omega) (by omega) (by omega)) cc_L_147 h5 h6 (by decide) rfl rfl ⟨by decide, by decide⟩ ⟨by decide, by decide⟩ rfl (Nat.le_of_ble_eq_true rfl) dL_weigh_5 (tableOf []) ⟨0, 10, 13, 28⟩ (tableOf [(0, 10, 17, 13)]) rfl (fun z hz => nomatch hz) (by decide) (by decide) (name := "java/lang/IndexOutOfBoundsException") ce_L_28 (by decide) 13 rfl (fun x_5 u_5 h_5 => ?_)
  have hu_5 := h_5
  have hw_5 := hu_5.symm
  subst hw_5
  refine cg_astore (lv' := [(4, .ref x_5), (0, .ref o1), (1, .int (nI n1)), (2, .int (nI n2)), (3, .ref o2)]) C (Nat.le_of_ble_eq_true rfl) rfl dL_weigh_13 ?_
  refine cg_iconst C (x := nI 1) rfl dL_weigh_15 ?_
  exact cg_iret C ⟨rfl, rfl⟩ dL_weigh_16 (by decide) (by decide)
set_option maxHeartbeats 4000000 in
set_option maxRecDepth 100000 in
theorem z392_X11_weigh (l : Launch) (hlt : l.stackTraces = false) (S : cS) (dp : Nat) (o1 : Nat) (n1 n2 : Nat) (h1 : 2 ≤ n1) (h2 : n1 ≤ 2147483647) (h3 : 10 ≤ n2) (h4 : n2 ≤ 2147483647) : cMetX "java/lang/IndexOutOfBoundsException" (fun u_ => u_ = S) l yX11_weigh cX11_weigh 4 (some .int) 7 1 6 102 [.ref o1, .int (nI n1), .int (nI n2)] S dp := by
  intro D Y tp sz
  refine cg_bodyX (by decide +kernel) (Nat.le_of_ble_eq_true rfl) ?_
  intro p e s m args below meth c C hne
  generalize va_A (cWd Y S) sz = A at C ⊢
  have C : cC p s m args meth c cX11_weigh 4 (some .int) A D Y tp dp RX11 := C
  refine cg_lv (lv' := [(0, .ref o1), (1, .int (nI n1)), (2, .int (nI n2))]) rfl ?_
  refine cg_iload_n C (i := 1) rfl 1 rfl dX11_weigh_0 ?_
  exact cg_callsx C hne (z40_X11_checkField l hlt S dp n1 (by omega) (by omega)) cc_X11_152 rfl ⟨by decide, by decide⟩ ⟨by decide, by decide⟩ rfl (Nat.le_of_ble_eq_true rfl) dX11_weigh_1 ⟨by decide, by decide⟩ (fun u_ h_ => by
      have hu_ := h_
      exact hu_)
set_option maxHeartbeats 4000000 in
set_option maxRecDepth 100000 in
theorem z393_L_weigh (l : Launch) (hlt : l.stackTraces = false) (S : cS) (dp : Nat) (o1 o2 : Nat) (n1 n2 : Nat) (h1 : 2 ≤ n1) (h2 : n1 ≤ 2147483647) (h3 : 10 ≤ n2) (h4 : n2 ≤ 2147483647) (h5 : o1 ∈ cL S) (h6 : cK S o1 = 11) : cMetW (cQi (fun r_ u_ => r_ = (nI 1) ∧ u_ = S)) l yL_weigh cL_weigh 5 (some .int) [(0, 10, 13, 28), (0, 10, 17, 13)] 8 1 6 125 [.ref o1, .int (nI n1), .int (nI n2), .ref o2] S dp := by
  intro D Y tp sz
  refine cg_bodyW (by decide +kernel) (Nat.le_of_ble_eq_true rfl) ?_
  intro p e s m args below meth c C htab
  generalize va_A (cWd Y S) sz = A at C ⊢
  have C : cC p s m args meth c cL_weigh 5 (some .int) A D Y tp dp RL := C
  refine cg_lv (lv' := [(0, .ref o1), (1, .int (nI n1)), (2, .int (nI n2)), (3, .ref o2)]) rfl ?_
  refine cg_aload_n C (i := 3) rfl 3 rfl dL_weigh_0 ?_
  refine cg_iconst C (x := nI 0) rfl dL_weigh_1 ?_
  refine cg_aload_n C (i := 0) rfl 0 rfl dL_weigh_2 ?_
  refine cg_iload_n C (i := 1) rfl 1 rfl dL_weigh_3 ?_
  refine cg_iload_n C (i := 2) rfl 2 rfl dL_weigh_4 ?_
  refine cg_callx_catch C htab (z392_X11_weigh l hlt S dp o1 n1 n2 (by omega) (by omega) (by omega) (by omega)) cc_L_147 h5 h6 (by decide) rfl rfl ⟨by decide, by decide⟩ ⟨by decide, by decide⟩ rfl (Nat.le_of_ble_eq_true rfl) dL_weigh_5 (tableOf []) ⟨0, 10, 13, 28⟩ (tableOf [(0, 10, 17, 13)]) rfl (fun z hz => nomatch hz) (by decide) (by decide) (name := "java/lang/IndexOutOfBoundsException") ce_L_28 (by decide) 13 rfl (fun x_5 u_5 h_5 => ?_)
  have hu_5 := h_5
  have hw_5 := hu_5.symm
  subst hw_5
  refine cg_astore (lv' := [(4, .ref x_5), (0, .ref o1), (1, .int (nI n1)), (2, .int (nI n2)), (3, .ref o2)]) C (Nat.le_of_ble_eq_true rfl) rfl dL_weigh_13 ?_
  refine cg_iconst C (x := nI 1) rfl dL_weigh_15 ?_
  exact cg_iret C ⟨rfl, rfl⟩ dL_weigh_16 (by decide) (by decide)
set_option maxHeartbeats 4000000 in
set_option maxRecDepth 100000 in
theorem z394_X11_find (l : Launch) (hlt : l.stackTraces = false) (S : cS) (dp : Nat) (o1 o2 : Nat) (x1 x2 x3 : Int32) (h1 : cr S 360 o1 = (some o2)) (h2 : cK S o1 = 11) (h3 : o1 ∈ cL S) (h4 : ci S 386 o2 = (nI 0)) (h5 : cK S o2 = 12) (h6 : o2 ∈ cL S) : cMetX "java/lang/IndexOutOfBoundsException" (fun u_ => u_ = S) l yX11_find cX11_find 6 (some .int) 7 1 6 104 [.ref o1, .int x1, .int x2, .int x3] S dp := by
  intro D Y tp sz
  refine cg_bodyX (by decide +kernel) (Nat.le_of_ble_eq_true rfl) ?_
  intro p e s m args below meth c C hne
  generalize va_A (cWd Y S) sz = A at C ⊢
  have C : cC p s m args meth c cX11_find 6 (some .int) A D Y tp dp RX11 := C
  refine cg_lv (lv' := [(0, .ref o1), (1, .int x1), (2, .int x2), (3, .int x3)]) rfl ?_
  refine cg_aload_n C (i := 0) rfl 0 rfl dX11_find_0 ?_
  refine cg_iload_n C (i := 1) rfl 1 rfl dX11_find_1 ?_
  exact cg_callx C hne (z169_X11_snapshotOf l hlt S dp o1 o2 x1 h1 h2 h3 h4 h5 h6) cc_X11_317 h3 h2 (by decide) rfl rfl ⟨by decide, by decide⟩ ⟨by decide, by decide⟩ rfl (Nat.le_of_ble_eq_true rfl) dX11_find_2 ⟨by decide, by decide⟩ (fun u_ h_ => by
      have hu_ := h_
      exact hu_)
set_option maxHeartbeats 4000000 in
set_option maxRecDepth 100000 in
theorem z395_L_find (l : Launch) (hlt : l.stackTraces = false) (S : cS) (dp : Nat) (o1 o2 o3 : Nat) (x1 x2 x3 : Int32) (h1 : cr S 360 o1 = (some o3)) (h2 : cK S o1 = 11) (h3 : o1 ∈ cL S) (h4 : ci S 386 o3 = (nI 0)) (h5 : cK S o3 = 12) (h6 : o3 ∈ cL S) : cMetW (cQi (fun r_ u_ => r_ = (nI 1) ∧ u_ = S)) l yL_find cL_find 6 (some .int) [(0, 12, 15, 28), (0, 12, 19, 13)] 8 1 6 129 [.ref o1, .int x1, .int x2, .int x3, .ref o2] S dp := by
  intro D Y tp sz
  refine cg_bodyW (by decide +kernel) (Nat.le_of_ble_eq_true rfl) ?_
  intro p e s m args below meth c C htab
  generalize va_A (cWd Y S) sz = A at C ⊢
  have C : cC p s m args meth c cL_find 6 (some .int) A D Y tp dp RL := C
  refine cg_lv (lv' := [(0, .ref o1), (1, .int x1), (2, .int x2), (3, .int x3), (4, .ref o2)]) rfl ?_
  refine cg_aload C 4 rfl dL_find_0 ?_
  refine cg_iconst C (x := nI 0) rfl dL_find_2 ?_
  refine cg_aload_n C (i := 0) rfl 0 rfl dL_find_3 ?_
  refine cg_iload_n C (i := 1) rfl 1 rfl dL_find_4 ?_
  refine cg_iload_n C (i := 2) rfl 2 rfl dL_find_5 ?_
  refine cg_iload_n C (i := 3) rfl 3 rfl dL_find_6 ?_
  refine cg_callx_catch C htab (z394_X11_find l hlt S dp o1 o3 x1 x2 x3 h1 h2 h3 h4 h5 h6) cc_L_150 h3 h2 (by decide) rfl rfl ⟨by decide, by decide⟩ ⟨by decide, by decide⟩ rfl (Nat.le_of_ble_eq_true rfl) dL_find_7 (tableOf []) ⟨0, 12, 15, 28⟩ (tableOf [(0, 12, 19, 13)]) rfl (fun z hz => nomatch hz) (by decide) (by decide) (name := "java/lang/IndexOutOfBoundsException") ce_L_28 (by decide) 15 rfl (fun x_7 u_7 h_7 => ?_)
  have hu_7 := h_7
  have hw_7 := hu_7.symm
  subst hw_7
  refine cg_astore (lv' := [(5, .ref x_7), (0, .ref o1), (1, .int x1), (2, .int x2), (3, .int x3), (4, .ref o2)]) C (Nat.le_of_ble_eq_true rfl) rfl dL_find_15 ?_
  refine cg_iconst C (x := nI 1) rfl dL_find_17 ?_
  exact cg_iret C ⟨rfl, rfl⟩ dL_find_18 (by decide) (by decide)
set_option maxHeartbeats 4000000 in
set_option maxRecDepth 100000 in
theorem z396_X11_find (l : Launch) (hlt : l.stackTraces = false) (S : cS) (dp : Nat) (o1 o2 : Nat) (x1 x2 x3 : Int32) (h1 : x1 < 0) (h2 : cr S 360 o1 = (some o2)) (h3 : cK S o1 = 11) (h4 : o1 ∈ cL S) (h5 : ci S 386 o2 = (nI 0)) (h6 : cK S o2 = 12) (h7 : o2 ∈ cL S) : cMetX "java/lang/IndexOutOfBoundsException" (fun u_ => u_ = S) l yX11_find cX11_find 6 (some .int) 7 1 6 104 [.ref o1, .int x1, .int x2, .int x3] S dp := by
  intro D Y tp sz
  refine cg_bodyX (by decide +kernel) (Nat.le_of_ble_eq_true rfl) ?_
  intro p e s m args below meth c C hne
  generalize va_A (cWd Y S) sz = A at C ⊢
  have C : cC p s m args meth c cX11_find 6 (some .int) A D Y tp dp RX11 := C
  refine cg_lv (lv' := [(0, .ref o1), (1, .int x1), (2, .int x2), (3, .int x3)]) rfl ?_
  refine cg_aload_n C (i := 0) rfl 0 rfl dX11_find_0 ?_
  refine cg_iload_n C (i := 1) rfl 1 rfl dX11_find_1 ?_
  exact cg_callx C hne (z172_X11_snapshotOf l hlt S dp o1 o2 x1 h1 h2 h3 h4 h5 h6 h7) cc_X11_317 h4 h3 (by decide) rfl rfl ⟨by decide, by decide⟩ ⟨by decide, by decide⟩ rfl (Nat.le_of_ble_eq_true rfl) dX11_find_2 ⟨by decide, by decide⟩ (fun u_ h_ => by
      have hu_ := h_
      exact hu_)
set_option maxHeartbeats 4000000 in
set_option maxRecDepth 100000 in
theorem z397_L_find (l : Launch) (hlt : l.stackTraces = false) (S : cS) (dp : Nat) (o1 o2 o3 : Nat) (x1 x2 x3 : Int32) (h1 : x1 < 0) (h2 : cr S 360 o1 = (some o3)) (h3 : cK S o1 = 11) (h4 : o1 ∈ cL S) (h5 : ci S 386 o3 = (nI 0)) (h6 : cK S o3 = 12) (h7 : o3 ∈ cL S) : cMetW (cQi (fun r_ u_ => r_ = (nI 1) ∧ u_ = S)) l yL_find cL_find 6 (some .int) [(0, 12, 15, 28), (0, 12, 19, 13)] 8 1 6 129 [.ref o1, .int x1, .int x2, .int x3, .ref o2] S dp := by
  intro D Y tp sz
  refine cg_bodyW (by decide +kernel) (Nat.le_of_ble_eq_true rfl) ?_
  intro p e s m args below meth c C htab
  generalize va_A (cWd Y S) sz = A at C ⊢
  have C : cC p s m args meth c cL_find 6 (some .int) A D Y tp dp RL := C
  refine cg_lv (lv' := [(0, .ref o1), (1, .int x1), (2, .int x2), (3, .int x3), (4, .ref o2)]) rfl ?_
  refine cg_aload C 4 rfl dL_find_0 ?_
  refine cg_iconst C (x := nI 0) rfl dL_find_2 ?_
  refine cg_aload_n C (i := 0) rfl 0 rfl dL_find_3 ?_
  refine cg_iload_n C (i := 1) rfl 1 rfl dL_find_4 ?_
  refine cg_iload_n C (i := 2) rfl 2 rfl dL_find_5 ?_
  refine cg_iload_n C (i := 3) rfl 3 rfl dL_find_6 ?_
  refine cg_callx_catch C htab (z396_X11_find l hlt S dp o1 o3 x1 x2 x3 h1 h2 h3 h4 h5 h6 h7) cc_L_150 h4 h3 (by decide) rfl rfl ⟨by decide, by decide⟩ ⟨by decide, by decide⟩ rfl (Nat.le_of_ble_eq_true rfl) dL_find_7 (tableOf []) ⟨0, 12, 15, 28⟩ (tableOf [(0, 12, 19, 13)]) rfl (fun z hz => nomatch hz) (by decide) (by decide) (name := "java/lang/IndexOutOfBoundsException") ce_L_28 (by decide) 15 rfl (fun x_7 u_7 h_7 => ?_)
  have hu_7 := h_7
  have hw_7 := hu_7.symm
  subst hw_7
  refine cg_astore (lv' := [(5, .ref x_7), (0, .ref o1), (1, .int x1), (2, .int x2), (3, .int x3), (4, .ref o2)]) C (Nat.le_of_ble_eq_true rfl) rfl dL_find_15 ?_
  refine cg_iconst C (x := nI 1) rfl dL_find_17 ?_
  exact cg_iret C ⟨rfl, rfl⟩ dL_find_18 (by decide) (by decide)
set_option maxHeartbeats 4000000 in
set_option maxRecDepth 100000 in
theorem z398_X11_find (l : Launch) (hlt : l.stackTraces = false) (S : cS) (dp : Nat) (o1 o2 : Nat) (x1 x2 x3 : Int32) (h1 : x1 < 0) (h2 : x3 < 0) (h3 : cr S 360 o1 = (some o2)) (h4 : cK S o1 = 11) (h5 : o1 ∈ cL S) (h6 : ci S 386 o2 = (nI 0)) (h7 : cK S o2 = 12) (h8 : o2 ∈ cL S) : cMetX "java/lang/IndexOutOfBoundsException" (fun u_ => u_ = S) l yX11_find cX11_find 6 (some .int) 7 1 6 104 [.ref o1, .int x1, .int x2, .int x3] S dp := by
  intro D Y tp sz
  refine cg_bodyX (by decide +kernel) (Nat.le_of_ble_eq_true rfl) ?_
  intro p e s m args below meth c C hne
  generalize va_A (cWd Y S) sz = A at C ⊢
  have C : cC p s m args meth c cX11_find 6 (some .int) A D Y tp dp RX11 := C
  refine cg_lv (lv' := [(0, .ref o1), (1, .int x1), (2, .int x2), (3, .int x3)]) rfl ?_
  refine cg_aload_n C (i := 0) rfl 0 rfl dX11_find_0 ?_
  refine cg_iload_n C (i := 1) rfl 1 rfl dX11_find_1 ?_
  exact cg_callx C hne (z172_X11_snapshotOf l hlt S dp o1 o2 x1 h1 h3 h4 h5 h6 h7 h8) cc_X11_317 h5 h4 (by decide) rfl rfl ⟨by decide, by decide⟩ ⟨by decide, by decide⟩ rfl (Nat.le_of_ble_eq_true rfl) dX11_find_2 ⟨by decide, by decide⟩ (fun u_ h_ => by
      have hu_ := h_
      exact hu_)
set_option maxHeartbeats 4000000 in
set_option maxRecDepth 100000 in
theorem z399_L_find (l : Launch) (hlt : l.stackTraces = false) (S : cS) (dp : Nat) (o1 o2 o3 : Nat) (x1 x2 x3 : Int32) (h1 : x1 < 0) (h2 : x3 < 0) (h3 : cr S 360 o1 = (some o3)) (h4 : cK S o1 = 11) (h5 : o1 ∈ cL S) (h6 : ci S 386 o3 = (nI 0)) (h7 : cK S o3 = 12) (h8 : o3 ∈ cL S) : cMetW (cQi (fun r_ u_ => r_ = (nI 1) ∧ u_ = S)) l yL_find cL_find 6 (some .int) [(0, 12, 15, 28), (0, 12, 19, 13)] 8 1 6 129 [.ref o1, .int x1, .int x2, .int x3, .ref o2] S dp := by
  intro D Y tp sz
  refine cg_bodyW (by decide +kernel) (Nat.le_of_ble_eq_true rfl) ?_
  intro p e s m args below meth c C htab
  generalize va_A (cWd Y S) sz = A at C ⊢
  have C : cC p s m args meth c cL_find 6 (some .int) A D Y tp dp RL := C
  refine cg_lv (lv' := [(0, .ref o1), (1, .int x1), (2, .int x2), (3, .int x3), (4, .ref o2)]) rfl ?_
  refine cg_aload C 4 rfl dL_find_0 ?_
  refine cg_iconst C (x := nI 0) rfl dL_find_2 ?_
  refine cg_aload_n C (i := 0) rfl 0 rfl dL_find_3 ?_
  refine cg_iload_n C (i := 1) rfl 1 rfl dL_find_4 ?_
  refine cg_iload_n C (i := 2) rfl 2 rfl dL_find_5 ?_
  refine cg_iload_n C (i := 3) rfl 3 rfl dL_find_6 ?_
  refine cg_callx_catch C htab (z398_X11_find l hlt S dp o1 o3 x1 x2 x3 h1 h2 h3 h4 h5 h6 h7 h8) cc_L_150 h5 h4 (by decide) rfl rfl ⟨by decide, by decide⟩ ⟨by decide, by decide⟩ rfl (Nat.le_of_ble_eq_true rfl) dL_find_7 (tableOf []) ⟨0, 12, 15, 28⟩ (tableOf [(0, 12, 19, 13)]) rfl (fun z hz => nomatch hz) (by decide) (by decide) (name := "java/lang/IndexOutOfBoundsException") ce_L_28 (by decide) 15 rfl (fun x_7 u_7 h_7 => ?_)
  have hu_7 := h_7
  have hw_7 := hu_7.symm
  subst hw_7
  refine cg_astore (lv' := [(5, .ref x_7), (0, .ref o1), (1, .int x1), (2, .int x2), (3, .int x3), (4, .ref o2)]) C (Nat.le_of_ble_eq_true rfl) rfl dL_find_15 ?_
  refine cg_iconst C (x := nI 1) rfl dL_find_17 ?_
  exact cg_iret C ⟨rfl, rfl⟩ dL_find_18 (by decide) (by decide)
set_option maxHeartbeats 4000000 in
set_option maxRecDepth 100000 in
theorem z400_X11_find (l : Launch) (hlt : l.stackTraces = false) (S : cS) (dp : Nat) (o1 o2 : Nat) (n1 : Nat) (x1 x2 : Int32) (h1 : x1 < 0) (h2 : n1 ≤ 2147483647) (h3 : cr S 360 o1 = (some o2)) (h4 : cK S o1 = 11) (h5 : o1 ∈ cL S) (h6 : ci S 386 o2 = (nI 0)) (h7 : cK S o2 = 12) (h8 : o2 ∈ cL S) : cMetX "java/lang/IndexOutOfBoundsException" (fun u_ => u_ = S) l yX11_find cX11_find 6 (some .int) 7 1 6 104 [.ref o1, .int x1, .int x2, .int (nI n1)] S dp := by
  intro D Y tp sz
  refine cg_bodyX (by decide +kernel) (Nat.le_of_ble_eq_true rfl) ?_
  intro p e s m args below meth c C hne
  generalize va_A (cWd Y S) sz = A at C ⊢
  have C : cC p s m args meth c cX11_find 6 (some .int) A D Y tp dp RX11 := C
  refine cg_lv (lv' := [(0, .ref o1), (1, .int x1), (2, .int x2), (3, .int (nI n1))]) rfl ?_
  refine cg_aload_n C (i := 0) rfl 0 rfl dX11_find_0 ?_
  refine cg_iload_n C (i := 1) rfl 1 rfl dX11_find_1 ?_
  exact cg_callx C hne (z172_X11_snapshotOf l hlt S dp o1 o2 x1 h1 h3 h4 h5 h6 h7 h8) cc_X11_317 h5 h4 (by decide) rfl rfl ⟨by decide, by decide⟩ ⟨by decide, by decide⟩ rfl (Nat.le_of_ble_eq_true rfl) dX11_find_2 ⟨by decide, by decide⟩ (fun u_ h_ => by
      have hu_ := h_
      exact hu_)
set_option maxHeartbeats 4000000 in
set_option maxRecDepth 100000 in
theorem z401_L_find (l : Launch) (hlt : l.stackTraces = false) (S : cS) (dp : Nat) (o1 o2 o3 : Nat) (n1 : Nat) (x1 x2 : Int32) (h1 : x1 < 0) (h2 : n1 ≤ 2147483647) (h3 : cr S 360 o1 = (some o3)) (h4 : cK S o1 = 11) (h5 : o1 ∈ cL S) (h6 : ci S 386 o3 = (nI 0)) (h7 : cK S o3 = 12) (h8 : o3 ∈ cL S) : cMetW (cQi (fun r_ u_ => r_ = (nI 1) ∧ u_ = S)) l yL_find cL_find 6 (some .int) [(0, 12, 15, 28), (0, 12, 19, 13)] 8 1 6 129 [.ref o1, .int x1, .int x2, .int (nI n1), .ref o2] S dp := by
  intro D Y tp sz
  refine cg_bodyW (by decide +kernel) (Nat.le_of_ble_eq_true rfl) ?_
  intro p e s m args below meth c C htab
  generalize va_A (cWd Y S) sz = A at C ⊢
  have C : cC p s m args meth c cL_find 6 (some .int) A D Y tp dp RL := C
  refine cg_lv (lv' := [(0, .ref o1), (1, .int x1), (2, .int x2), (3, .int (nI n1)), (4, .ref o2)]) rfl ?_
  refine cg_aload C 4 rfl dL_find_0 ?_
  refine cg_iconst C (x := nI 0) rfl dL_find_2 ?_
  refine cg_aload_n C (i := 0) rfl 0 rfl dL_find_3 ?_
  refine cg_iload_n C (i := 1) rfl 1 rfl dL_find_4 ?_
  refine cg_iload_n C (i := 2) rfl 2 rfl dL_find_5 ?_
  refine cg_iload_n C (i := 3) rfl 3 rfl dL_find_6 ?_
  refine cg_callx_catch C htab (z400_X11_find l hlt S dp o1 o3 n1 x1 x2 h1 (by omega) h3 h4 h5 h6 h7 h8) cc_L_150 h5 h4 (by decide) rfl rfl ⟨by decide, by decide⟩ ⟨by decide, by decide⟩ rfl (Nat.le_of_ble_eq_true rfl) dL_find_7 (tableOf []) ⟨0, 12, 15, 28⟩ (tableOf [(0, 12, 19, 13)]) rfl (fun z hz => nomatch hz) (by decide) (by decide) (name := "java/lang/IndexOutOfBoundsException") ce_L_28 (by decide) 15 rfl (fun x_7 u_7 h_7 => ?_)
  have hu_7 := h_7
  have hw_7 := hu_7.symm
  subst hw_7
  refine cg_astore (lv' := [(5, .ref x_7), (0, .ref o1), (1, .int x1), (2, .int x2), (3, .int (nI n1)), (4, .ref o2)]) C (Nat.le_of_ble_eq_true rfl) rfl dL_find_15 ?_
  refine cg_iconst C (x := nI 1) rfl dL_find_17 ?_
  exact cg_iret C ⟨rfl, rfl⟩ dL_find_18 (by decide) (by decide)
set_option maxHeartbeats 4000000 in
set_option maxRecDepth 100000 in
theorem z402_X11_find (l : Launch) (hlt : l.stackTraces = false) (S : cS) (dp : Nat) (o1 o2 : Nat) (x1 x2 : Int32) (h1 : x1 < 0) (h2 : cr S 360 o1 = (some o2)) (h3 : cK S o1 = 11) (h4 : o1 ∈ cL S) (h5 : ci S 386 o2 = (nI 0)) (h6 : cK S o2 = 12) (h7 : o2 ∈ cL S) : cMetX "java/lang/IndexOutOfBoundsException" (fun u_ => u_ = S) l yX11_find cX11_find 6 (some .int) 7 1 6 104 [.ref o1, .int x1, .int x2, .int (nI 0)] S dp := by
  intro D Y tp sz
  refine cg_bodyX (by decide +kernel) (Nat.le_of_ble_eq_true rfl) ?_
  intro p e s m args below meth c C hne
  generalize va_A (cWd Y S) sz = A at C ⊢
  have C : cC p s m args meth c cX11_find 6 (some .int) A D Y tp dp RX11 := C
  refine cg_lv (lv' := [(0, .ref o1), (1, .int x1), (2, .int x2), (3, .int (nI 0))]) rfl ?_
  refine cg_aload_n C (i := 0) rfl 0 rfl dX11_find_0 ?_
  refine cg_iload_n C (i := 1) rfl 1 rfl dX11_find_1 ?_
  exact cg_callx C hne (z172_X11_snapshotOf l hlt S dp o1 o2 x1 h1 h2 h3 h4 h5 h6 h7) cc_X11_317 h4 h3 (by decide) rfl rfl ⟨by decide, by decide⟩ ⟨by decide, by decide⟩ rfl (Nat.le_of_ble_eq_true rfl) dX11_find_2 ⟨by decide, by decide⟩ (fun u_ h_ => by
      have hu_ := h_
      exact hu_)
set_option maxHeartbeats 4000000 in
set_option maxRecDepth 100000 in
theorem z403_L_find (l : Launch) (hlt : l.stackTraces = false) (S : cS) (dp : Nat) (o1 o2 o3 : Nat) (x1 x2 : Int32) (h1 : x1 < 0) (h2 : cr S 360 o1 = (some o3)) (h3 : cK S o1 = 11) (h4 : o1 ∈ cL S) (h5 : ci S 386 o3 = (nI 0)) (h6 : cK S o3 = 12) (h7 : o3 ∈ cL S) : cMetW (cQi (fun r_ u_ => r_ = (nI 1) ∧ u_ = S)) l yL_find cL_find 6 (some .int) [(0, 12, 15, 28), (0, 12, 19, 13)] 8 1 6 129 [.ref o1, .int x1, .int x2, .int (nI 0), .ref o2] S dp := by
  intro D Y tp sz
  refine cg_bodyW (by decide +kernel) (Nat.le_of_ble_eq_true rfl) ?_
  intro p e s m args below meth c C htab
  generalize va_A (cWd Y S) sz = A at C ⊢
  have C : cC p s m args meth c cL_find 6 (some .int) A D Y tp dp RL := C
  refine cg_lv (lv' := [(0, .ref o1), (1, .int x1), (2, .int x2), (3, .int (nI 0)), (4, .ref o2)]) rfl ?_
  refine cg_aload C 4 rfl dL_find_0 ?_
  refine cg_iconst C (x := nI 0) rfl dL_find_2 ?_
  refine cg_aload_n C (i := 0) rfl 0 rfl dL_find_3 ?_
  refine cg_iload_n C (i := 1) rfl 1 rfl dL_find_4 ?_
  refine cg_iload_n C (i := 2) rfl 2 rfl dL_find_5 ?_
  refine cg_iload_n C (i := 3) rfl 3 rfl dL_find_6 ?_
  refine cg_callx_catch C htab (z402_X11_find l hlt S dp o1 o3 x1 x2 h1 h2 h3 h4 h5 h6 h7) cc_L_150 h4 h3 (by decide) rfl rfl ⟨by decide, by decide⟩ ⟨by decide, by decide⟩ rfl (Nat.le_of_ble_eq_true rfl) dL_find_7 (tableOf []) ⟨0, 12, 15, 28⟩ (tableOf [(0, 12, 19, 13)]) rfl (fun z hz => nomatch hz) (by decide) (by decide) (name := "java/lang/IndexOutOfBoundsException") ce_L_28 (by decide) 15 rfl (fun x_7 u_7 h_7 => ?_)
  have hu_7 := h_7
  have hw_7 := hu_7.symm
  subst hw_7
  refine cg_astore (lv' := [(5, .ref x_7), (0, .ref o1), (1, .int x1), (2, .int x2), (3, .int (nI 0)), (4, .ref o2)]) C (Nat.le_of_ble_eq_true rfl) rfl dL_find_15 ?_
  refine cg_iconst C (x := nI 1) rfl dL_find_17 ?_
  exact cg_iret C ⟨rfl, rfl⟩ dL_find_18 (by decide) (by decide)
set_option maxHeartbeats 4000000 in
set_option maxRecDepth 100000 in
theorem z404_X11_find (l : Launch) (hlt : l.stackTraces = false) (S : cS) (dp : Nat) (o1 o2 : Nat) (n1 : Nat) (x1 x2 : Int32) (h1 : x1 < 0) (h2 : 1 ≤ n1) (h3 : n1 ≤ 2147483647) (h4 : cr S 360 o1 = (some o2)) (h5 : cK S o1 = 11) (h6 : o1 ∈ cL S) (h7 : ci S 386 o2 = (nI 0)) (h8 : cK S o2 = 12) (h9 : o2 ∈ cL S) : cMetX "java/lang/IndexOutOfBoundsException" (fun u_ => u_ = S) l yX11_find cX11_find 6 (some .int) 7 1 6 104 [.ref o1, .int x1, .int x2, .int (nI n1)] S dp := by
  intro D Y tp sz
  refine cg_bodyX (by decide +kernel) (Nat.le_of_ble_eq_true rfl) ?_
  intro p e s m args below meth c C hne
  generalize va_A (cWd Y S) sz = A at C ⊢
  have C : cC p s m args meth c cX11_find 6 (some .int) A D Y tp dp RX11 := C
  refine cg_lv (lv' := [(0, .ref o1), (1, .int x1), (2, .int x2), (3, .int (nI n1))]) rfl ?_
  refine cg_aload_n C (i := 0) rfl 0 rfl dX11_find_0 ?_
  refine cg_iload_n C (i := 1) rfl 1 rfl dX11_find_1 ?_
  exact cg_callx C hne (z172_X11_snapshotOf l hlt S dp o1 o2 x1 h1 h4 h5 h6 h7 h8 h9) cc_X11_317 h6 h5 (by decide) rfl rfl ⟨by decide, by decide⟩ ⟨by decide, by decide⟩ rfl (Nat.le_of_ble_eq_true rfl) dX11_find_2 ⟨by decide, by decide⟩ (fun u_ h_ => by
      have hu_ := h_
      exact hu_)
set_option maxHeartbeats 4000000 in
set_option maxRecDepth 100000 in
theorem z405_L_find (l : Launch) (hlt : l.stackTraces = false) (S : cS) (dp : Nat) (o1 o2 o3 : Nat) (n1 : Nat) (x1 x2 : Int32) (h1 : x1 < 0) (h2 : 1 ≤ n1) (h3 : n1 ≤ 2147483647) (h4 : cr S 360 o1 = (some o3)) (h5 : cK S o1 = 11) (h6 : o1 ∈ cL S) (h7 : ci S 386 o3 = (nI 0)) (h8 : cK S o3 = 12) (h9 : o3 ∈ cL S) : cMetW (cQi (fun r_ u_ => r_ = (nI 1) ∧ u_ = S)) l yL_find cL_find 6 (some .int) [(0, 12, 15, 28), (0, 12, 19, 13)] 8 1 6 129 [.ref o1, .int x1, .int x2, .int (nI n1), .ref o2] S dp := by
  intro D Y tp sz
  refine cg_bodyW (by decide +kernel) (Nat.le_of_ble_eq_true rfl) ?_
  intro p e s m args below meth c C htab
  generalize va_A (cWd Y S) sz = A at C ⊢
  have C : cC p s m args meth c cL_find 6 (some .int) A D Y tp dp RL := C
  refine cg_lv (lv' := [(0, .ref o1), (1, .int x1), (2, .int x2), (3, .int (nI n1)), (4, .ref o2)]) rfl ?_
  refine cg_aload C 4 rfl dL_find_0 ?_
  refine cg_iconst C (x := nI 0) rfl dL_find_2 ?_
  refine cg_aload_n C (i := 0) rfl 0 rfl dL_find_3 ?_
  refine cg_iload_n C (i := 1) rfl 1 rfl dL_find_4 ?_
  refine cg_iload_n C (i := 2) rfl 2 rfl dL_find_5 ?_
  refine cg_iload_n C (i := 3) rfl 3 rfl dL_find_6 ?_
  refine cg_callx_catch C htab (z404_X11_find l hlt S dp o1 o3 n1 x1 x2 h1 (by omega) (by omega) h4 h5 h6 h7 h8 h9) cc_L_150 h6 h5 (by decide) rfl rfl ⟨by decide, by decide⟩ ⟨by decide, by decide⟩ rfl (Nat.le_of_ble_eq_true rfl) dL_find_7 (tableOf []) ⟨0, 12, 15, 28⟩ (tableOf [(0, 12, 19, 13)]) rfl (fun z hz => nomatch hz) (by decide) (by decide) (name := "java/lang/IndexOutOfBoundsException") ce_L_28 (by decide) 15 rfl (fun x_7 u_7 h_7 => ?_)
  have hu_7 := h_7
  have hw_7 := hu_7.symm
  subst hw_7
  refine cg_astore (lv' := [(5, .ref x_7), (0, .ref o1), (1, .int x1), (2, .int x2), (3, .int (nI n1)), (4, .ref o2)]) C (Nat.le_of_ble_eq_true rfl) rfl dL_find_15 ?_
  refine cg_iconst C (x := nI 1) rfl dL_find_17 ?_
  exact cg_iret C ⟨rfl, rfl⟩ dL_find_18 (by decide) (by decide)
set_option maxHeartbeats 4000000 in
set_option maxRecDepth 100000 in
theorem z406_X11_find (l : Launch) (hlt : l.stackTraces = false) (S : cS) (dp : Nat) (o1 o2 : Nat) (n1 : Nat) (x1 x2 : Int32) (h1 : x1 < 0) (h2 : 1 ≤ n1) (h3 : n1 ≤ 20) (h4 : cr S 360 o1 = (some o2)) (h5 : cK S o1 = 11) (h6 : o1 ∈ cL S) (h7 : ci S 386 o2 = (nI 0)) (h8 : cK S o2 = 12) (h9 : o2 ∈ cL S) : cMetX "java/lang/IndexOutOfBoundsException" (fun u_ => u_ = S) l yX11_find cX11_find 6 (some .int) 7 1 6 104 [.ref o1, .int x1, .int x2, .int (nI n1)] S dp := by
  intro D Y tp sz
  refine cg_bodyX (by decide +kernel) (Nat.le_of_ble_eq_true rfl) ?_
  intro p e s m args below meth c C hne
  generalize va_A (cWd Y S) sz = A at C ⊢
  have C : cC p s m args meth c cX11_find 6 (some .int) A D Y tp dp RX11 := C
  refine cg_lv (lv' := [(0, .ref o1), (1, .int x1), (2, .int x2), (3, .int (nI n1))]) rfl ?_
  refine cg_aload_n C (i := 0) rfl 0 rfl dX11_find_0 ?_
  refine cg_iload_n C (i := 1) rfl 1 rfl dX11_find_1 ?_
  exact cg_callx C hne (z172_X11_snapshotOf l hlt S dp o1 o2 x1 h1 h4 h5 h6 h7 h8 h9) cc_X11_317 h6 h5 (by decide) rfl rfl ⟨by decide, by decide⟩ ⟨by decide, by decide⟩ rfl (Nat.le_of_ble_eq_true rfl) dX11_find_2 ⟨by decide, by decide⟩ (fun u_ h_ => by
      have hu_ := h_
      exact hu_)
set_option maxHeartbeats 4000000 in
set_option maxRecDepth 100000 in
theorem z407_L_find (l : Launch) (hlt : l.stackTraces = false) (S : cS) (dp : Nat) (o1 o2 o3 : Nat) (n1 : Nat) (x1 x2 : Int32) (h1 : x1 < 0) (h2 : 1 ≤ n1) (h3 : n1 ≤ 20) (h4 : cr S 360 o1 = (some o3)) (h5 : cK S o1 = 11) (h6 : o1 ∈ cL S) (h7 : ci S 386 o3 = (nI 0)) (h8 : cK S o3 = 12) (h9 : o3 ∈ cL S) : cMetW (cQi (fun r_ u_ => r_ = (nI 1) ∧ u_ = S)) l yL_find cL_find 6 (some .int) [(0, 12, 15, 28), (0, 12, 19, 13)] 8 1 6 129 [.ref o1, .int x1, .int x2, .int (nI n1), .ref o2] S dp := by
  intro D Y tp sz
  refine cg_bodyW (by decide +kernel) (Nat.le_of_ble_eq_true rfl) ?_
  intro p e s m args below meth c C htab
  generalize va_A (cWd Y S) sz = A at C ⊢
  have C : cC p s m args meth c cL_find 6 (some .int) A D Y tp dp RL := C
  refine cg_lv (lv' := [(0, .ref o1), (1, .int x1), (2, .int x2), (3, .int (nI n1)), (4, .ref o2)]) rfl ?_
  refine cg_aload C 4 rfl dL_find_0 ?_
  refine cg_iconst C (x := nI 0) rfl dL_find_2 ?_
  refine cg_aload_n C (i := 0) rfl 0 rfl dL_find_3 ?_
  refine cg_iload_n C (i := 1) rfl 1 rfl dL_find_4 ?_
  refine cg_iload_n C (i := 2) rfl 2 rfl dL_find_5 ?_
  refine cg_iload_n C (i := 3) rfl 3 rfl dL_find_6 ?_
  refine cg_callx_catch C htab (z406_X11_find l hlt S dp o1 o3 n1 x1 x2 h1 (by omega) (by omega) h4 h5 h6 h7 h8 h9) cc_L_150 h6 h5 (by decide) rfl rfl ⟨by decide, by decide⟩ ⟨by decide, by decide⟩ rfl (Nat.le_of_ble_eq_true rfl) dL_find_7 (tableOf []) ⟨0, 12, 15, 28⟩ (tableOf [(0, 12, 19, 13)]) rfl (fun z hz => nomatch hz) (by decide) (by decide) (name := "java/lang/IndexOutOfBoundsException") ce_L_28 (by decide) 15 rfl (fun x_7 u_7 h_7 => ?_)
  have hu_7 := h_7
  have hw_7 := hu_7.symm
  subst hw_7
  refine cg_astore (lv' := [(5, .ref x_7), (0, .ref o1), (1, .int x1), (2, .int x2), (3, .int (nI n1)), (4, .ref o2)]) C (Nat.le_of_ble_eq_true rfl) rfl dL_find_15 ?_
  refine cg_iconst C (x := nI 1) rfl dL_find_17 ?_
  exact cg_iret C ⟨rfl, rfl⟩ dL_find_18 (by decide) (by decide)
set_option maxHeartbeats 4000000 in
set_option maxRecDepth 100000 in
theorem z408_X11_find (l : Launch) (hlt : l.stackTraces = false) (S : cS) (dp : Nat) (o1 o2 : Nat) (n1 : Nat) (x1 x2 : Int32) (h1 : x1 < 0) (h2 : 21 ≤ n1) (h3 : n1 ≤ 2147483647) (h4 : cr S 360 o1 = (some o2)) (h5 : cK S o1 = 11) (h6 : o1 ∈ cL S) (h7 : ci S 386 o2 = (nI 0)) (h8 : cK S o2 = 12) (h9 : o2 ∈ cL S) : cMetX "java/lang/IndexOutOfBoundsException" (fun u_ => u_ = S) l yX11_find cX11_find 6 (some .int) 7 1 6 104 [.ref o1, .int x1, .int x2, .int (nI n1)] S dp := by
  intro D Y tp sz
  refine cg_bodyX (by decide +kernel) (Nat.le_of_ble_eq_true rfl) ?_
  intro p e s m args below meth c C hne
  generalize va_A (cWd Y S) sz = A at C ⊢
  have C : cC p s m args meth c cX11_find 6 (some .int) A D Y tp dp RX11 := C
  refine cg_lv (lv' := [(0, .ref o1), (1, .int x1), (2, .int x2), (3, .int (nI n1))]) rfl ?_
  refine cg_aload_n C (i := 0) rfl 0 rfl dX11_find_0 ?_
  refine cg_iload_n C (i := 1) rfl 1 rfl dX11_find_1 ?_
  exact cg_callx C hne (z172_X11_snapshotOf l hlt S dp o1 o2 x1 h1 h4 h5 h6 h7 h8 h9) cc_X11_317 h6 h5 (by decide) rfl rfl ⟨by decide, by decide⟩ ⟨by decide, by decide⟩ rfl (Nat.le_of_ble_eq_true rfl) dX11_find_2 ⟨by decide, by decide⟩ (fun u_ h_ => by
      have hu_ := h_
      exact hu_)
set_option maxHeartbeats 4000000 in
set_option maxRecDepth 100000 in
theorem z409_L_find (l : Launch) (hlt : l.stackTraces = false) (S : cS) (dp : Nat) (o1 o2 o3 : Nat) (n1 : Nat) (x1 x2 : Int32) (h1 : x1 < 0) (h2 : 21 ≤ n1) (h3 : n1 ≤ 2147483647) (h4 : cr S 360 o1 = (some o3)) (h5 : cK S o1 = 11) (h6 : o1 ∈ cL S) (h7 : ci S 386 o3 = (nI 0)) (h8 : cK S o3 = 12) (h9 : o3 ∈ cL S) : cMetW (cQi (fun r_ u_ => r_ = (nI 1) ∧ u_ = S)) l yL_find cL_find 6 (some .int) [(0, 12, 15, 28), (0, 12, 19, 13)] 8 1 6 129 [.ref o1, .int x1, .int x2, .int (nI n1), .ref o2] S dp := by
  intro D Y tp sz
  refine cg_bodyW (by decide +kernel) (Nat.le_of_ble_eq_true rfl) ?_
  intro p e s m args below meth c C htab
  generalize va_A (cWd Y S) sz = A at C ⊢
  have C : cC p s m args meth c cL_find 6 (some .int) A D Y tp dp RL := C
  refine cg_lv (lv' := [(0, .ref o1), (1, .int x1), (2, .int x2), (3, .int (nI n1)), (4, .ref o2)]) rfl ?_
  refine cg_aload C 4 rfl dL_find_0 ?_
  refine cg_iconst C (x := nI 0) rfl dL_find_2 ?_
  refine cg_aload_n C (i := 0) rfl 0 rfl dL_find_3 ?_
  refine cg_iload_n C (i := 1) rfl 1 rfl dL_find_4 ?_
  refine cg_iload_n C (i := 2) rfl 2 rfl dL_find_5 ?_
  refine cg_iload_n C (i := 3) rfl 3 rfl dL_find_6 ?_
  refine cg_callx_catch C htab (z408_X11_find l hlt S dp o1 o3 n1 x1 x2 h1 (by omega) (by omega) h4 h5 h6 h7 h8 h9) cc_L_150 h6 h5 (by decide) rfl rfl ⟨by decide, by decide⟩ ⟨by decide, by decide⟩ rfl (Nat.le_of_ble_eq_true rfl) dL_find_7 (tableOf []) ⟨0, 12, 15, 28⟩ (tableOf [(0, 12, 19, 13)]) rfl (fun z hz => nomatch hz) (by decide) (by decide) (name := "java/lang/IndexOutOfBoundsException") ce_L_28 (by decide) 15 rfl (fun x_7 u_7 h_7 => ?_)
  have hu_7 := h_7
  have hw_7 := hu_7.symm
  subst hw_7
  refine cg_astore (lv' := [(5, .ref x_7), (0, .ref o1), (1, .int x1), (2, .int x2), (3, .int (nI n1)), (4, .ref o2)]) C (Nat.le_of_ble_eq_true rfl) rfl dL_find_15 ?_
  refine cg_iconst C (x := nI 1) rfl dL_find_17 ?_
  exact cg_iret C ⟨rfl, rfl⟩ dL_find_18 (by decide) (by decide)
set_option maxHeartbeats 4000000 in
set_option maxRecDepth 100000 in
theorem z410_X11_find (l : Launch) (hlt : l.stackTraces = false) (S : cS) (dp : Nat) (o1 o2 : Nat) (n1 : Nat) (x1 x2 : Int32) (h1 : n1 ≤ 2147483647) (h2 : cr S 360 o1 = (some o2)) (h3 : cK S o1 = 11) (h4 : o1 ∈ cL S) (h5 : ci S 386 o2 = (nI 0)) (h6 : cK S o2 = 12) (h7 : o2 ∈ cL S) : cMetX "java/lang/IndexOutOfBoundsException" (fun u_ => u_ = S) l yX11_find cX11_find 6 (some .int) 7 1 6 104 [.ref o1, .int (nI n1), .int x1, .int x2] S dp := by
  intro D Y tp sz
  refine cg_bodyX (by decide +kernel) (Nat.le_of_ble_eq_true rfl) ?_
  intro p e s m args below meth c C hne
  generalize va_A (cWd Y S) sz = A at C ⊢
  have C : cC p s m args meth c cX11_find 6 (some .int) A D Y tp dp RX11 := C
  refine cg_lv (lv' := [(0, .ref o1), (1, .int (nI n1)), (2, .int x1), (3, .int x2)]) rfl ?_
  refine cg_aload_n C (i := 0) rfl 0 rfl dX11_find_0 ?_
  refine cg_iload_n C (i := 1) rfl 1 rfl dX11_find_1 ?_
  exact cg_callx C hne (z175_X11_snapshotOf l hlt S dp o1 o2 n1 (by omega) h2 h3 h4 h5 h6 h7) cc_X11_317 h4 h3 (by decide) rfl rfl ⟨by decide, by decide⟩ ⟨by decide, by decide⟩ rfl (Nat.le_of_ble_eq_true rfl) dX11_find_2 ⟨by decide, by decide⟩ (fun u_ h_ => by
      have hu_ := h_
      exact hu_)
set_option maxHeartbeats 4000000 in
set_option maxRecDepth 100000 in
theorem z411_L_find (l : Launch) (hlt : l.stackTraces = false) (S : cS) (dp : Nat) (o1 o2 o3 : Nat) (n1 : Nat) (x1 x2 : Int32) (h1 : n1 ≤ 2147483647) (h2 : cr S 360 o1 = (some o3)) (h3 : cK S o1 = 11) (h4 : o1 ∈ cL S) (h5 : ci S 386 o3 = (nI 0)) (h6 : cK S o3 = 12) (h7 : o3 ∈ cL S) : cMetW (cQi (fun r_ u_ => r_ = (nI 1) ∧ u_ = S)) l yL_find cL_find 6 (some .int) [(0, 12, 15, 28), (0, 12, 19, 13)] 8 1 6 129 [.ref o1, .int (nI n1), .int x1, .int x2, .ref o2] S dp := by
  intro D Y tp sz
  refine cg_bodyW (by decide +kernel) (Nat.le_of_ble_eq_true rfl) ?_
  intro p e s m args below meth c C htab
  generalize va_A (cWd Y S) sz = A at C ⊢
  have C : cC p s m args meth c cL_find 6 (some .int) A D Y tp dp RL := C
  refine cg_lv (lv' := [(0, .ref o1), (1, .int (nI n1)), (2, .int x1), (3, .int x2), (4, .ref o2)]) rfl ?_
  refine cg_aload C 4 rfl dL_find_0 ?_
  refine cg_iconst C (x := nI 0) rfl dL_find_2 ?_
  refine cg_aload_n C (i := 0) rfl 0 rfl dL_find_3 ?_
  refine cg_iload_n C (i := 1) rfl 1 rfl dL_find_4 ?_
  refine cg_iload_n C (i := 2) rfl 2 rfl dL_find_5 ?_
  refine cg_iload_n C (i := 3) rfl 3 rfl dL_find_6 ?_
  refine cg_callx_catch C htab (z410_X11_find l hlt S dp o1 o3 n1 x1 x2 (by omega) h2 h3 h4 h5 h6 h7) cc_L_150 h4 h3 (by decide) rfl rfl ⟨by decide, by decide⟩ ⟨by decide, by decide⟩ rfl (Nat.le_of_ble_eq_true rfl) dL_find_7 (tableOf []) ⟨0, 12, 15, 28⟩ (tableOf [(0, 12, 19, 13)]) rfl (fun z hz => nomatch hz) (by decide) (by decide) (name := "java/lang/IndexOutOfBoundsException") ce_L_28 (by decide) 15 rfl (fun x_7 u_7 h_7 => ?_)
  have hu_7 := h_7
  have hw_7 := hu_7.symm
  subst hw_7
  refine cg_astore (lv' := [(5, .ref x_7), (0, .ref o1), (1, .int (nI n1)), (2, .int x1), (3, .int x2), (4, .ref o2)]) C (Nat.le_of_ble_eq_true rfl) rfl dL_find_15 ?_
  refine cg_iconst C (x := nI 1) rfl dL_find_17 ?_
  exact cg_iret C ⟨rfl, rfl⟩ dL_find_18 (by decide) (by decide)
set_option maxHeartbeats 4000000 in
set_option maxRecDepth 100000 in
theorem z412_X11_find (l : Launch) (hlt : l.stackTraces = false) (S : cS) (dp : Nat) (o1 o2 : Nat) (n1 : Nat) (x1 x2 : Int32) (h1 : n1 ≤ 2147483647) (h2 : x2 < 0) (h3 : cr S 360 o1 = (some o2)) (h4 : cK S o1 = 11) (h5 : o1 ∈ cL S) (h6 : ci S 386 o2 = (nI 0)) (h7 : cK S o2 = 12) (h8 : o2 ∈ cL S) : cMetX "java/lang/IndexOutOfBoundsException" (fun u_ => u_ = S) l yX11_find cX11_find 6 (some .int) 7 1 6 104 [.ref o1, .int (nI n1), .int x1, .int x2] S dp := by
  intro D Y tp sz
  refine cg_bodyX (by decide +kernel) (Nat.le_of_ble_eq_true rfl) ?_
  intro p e s m args below meth c C hne
  generalize va_A (cWd Y S) sz = A at C ⊢
  have C : cC p s m args meth c cX11_find 6 (some .int) A D Y tp dp RX11 := C
  refine cg_lv (lv' := [(0, .ref o1), (1, .int (nI n1)), (2, .int x1), (3, .int x2)]) rfl ?_
  refine cg_aload_n C (i := 0) rfl 0 rfl dX11_find_0 ?_
  refine cg_iload_n C (i := 1) rfl 1 rfl dX11_find_1 ?_
  exact cg_callx C hne (z175_X11_snapshotOf l hlt S dp o1 o2 n1 (by omega) h3 h4 h5 h6 h7 h8) cc_X11_317 h5 h4 (by decide) rfl rfl ⟨by decide, by decide⟩ ⟨by decide, by decide⟩ rfl (Nat.le_of_ble_eq_true rfl) dX11_find_2 ⟨by decide, by decide⟩ (fun u_ h_ => by
      have hu_ := h_
      exact hu_)
set_option maxHeartbeats 4000000 in
set_option maxRecDepth 100000 in
theorem z413_L_find (l : Launch) (hlt : l.stackTraces = false) (S : cS) (dp : Nat) (o1 o2 o3 : Nat) (n1 : Nat) (x1 x2 : Int32) (h1 : n1 ≤ 2147483647) (h2 : x2 < 0) (h3 : cr S 360 o1 = (some o3)) (h4 : cK S o1 = 11) (h5 : o1 ∈ cL S) (h6 : ci S 386 o3 = (nI 0)) (h7 : cK S o3 = 12) (h8 : o3 ∈ cL S) : cMetW (cQi (fun r_ u_ => r_ = (nI 1) ∧ u_ = S)) l yL_find cL_find 6 (some .int) [(0, 12, 15, 28), (0, 12, 19, 13)] 8 1 6 129 [.ref o1, .int (nI n1), .int x1, .int x2, .ref o2] S dp := by
  intro D Y tp sz
  refine cg_bodyW (by decide +kernel) (Nat.le_of_ble_eq_true rfl) ?_
  intro p e s m args below meth c C htab
  generalize va_A (cWd Y S) sz = A at C ⊢
  have C : cC p s m args meth c cL_find 6 (some .int) A D Y tp dp RL := C
  refine cg_lv (lv' := [(0, .ref o1), (1, .int (nI n1)), (2, .int x1), (3, .int x2), (4, .ref o2)]) rfl ?_
  refine cg_aload C 4 rfl dL_find_0 ?_
  refine cg_iconst C (x := nI 0) rfl dL_find_2 ?_
  refine cg_aload_n C (i := 0) rfl 0 rfl dL_find_3 ?_
  refine cg_iload_n C (i := 1) rfl 1 rfl dL_find_4 ?_
  refine cg_iload_n C (i := 2) rfl 2 rfl dL_find_5 ?_
  refine cg_iload_n C (i := 3) rfl 3 rfl dL_find_6 ?_
  refine cg_callx_catch C htab (z412_X11_find l hlt S dp o1 o3 n1 x1 x2 (by omega) h2 h3 h4 h5 h6 h7 h8) cc_L_150 h5 h4 (by decide) rfl rfl ⟨by decide, by decide⟩ ⟨by decide, by decide⟩ rfl (Nat.le_of_ble_eq_true rfl) dL_find_7 (tableOf []) ⟨0, 12, 15, 28⟩ (tableOf [(0, 12, 19, 13)]) rfl (fun z hz => nomatch hz) (by decide) (by decide) (name := "java/lang/IndexOutOfBoundsException") ce_L_28 (by decide) 15 rfl (fun x_7 u_7 h_7 => ?_)
  have hu_7 := h_7
  have hw_7 := hu_7.symm
  subst hw_7
  refine cg_astore (lv' := [(5, .ref x_7), (0, .ref o1), (1, .int (nI n1)), (2, .int x1), (3, .int x2), (4, .ref o2)]) C (Nat.le_of_ble_eq_true rfl) rfl dL_find_15 ?_
  refine cg_iconst C (x := nI 1) rfl dL_find_17 ?_
  exact cg_iret C ⟨rfl, rfl⟩ dL_find_18 (by decide) (by decide)
set_option maxHeartbeats 4000000 in
set_option maxRecDepth 100000 in
theorem z414_X11_find (l : Launch) (hlt : l.stackTraces = false) (S : cS) (dp : Nat) (o1 o2 : Nat) (n1 n2 : Nat) (x1 : Int32) (h1 : n1 ≤ 2147483647) (h2 : n2 ≤ 2147483647) (h3 : cr S 360 o1 = (some o2)) (h4 : cK S o1 = 11) (h5 : o1 ∈ cL S) (h6 : ci S 386 o2 = (nI 0)) (h7 : cK S o2 = 12) (h8 : o2 ∈ cL S) : cMetX "java/lang/IndexOutOfBoundsException" (fun u_ => u_ = S) l yX11_find cX11_find 6 (some .int) 7 1 6 104 [.ref o1, .int (nI n1), .int x1, .int (nI n2)] S dp := by
  intro D Y tp sz
  refine cg_bodyX (by decide +kernel) (Nat.le_of_ble_eq_true rfl) ?_
  intro p e s m args below meth c C hne
  generalize va_A (cWd Y S) sz = A at C ⊢
  have C : cC p s m args meth c cX11_find 6 (some .int) A D Y tp dp RX11 := C
  refine cg_lv (lv' := [(0, .ref o1), (1, .int (nI n1)), (2, .int x1), (3, .int (nI n2))]) rfl ?_
  refine cg_aload_n C (i := 0) rfl 0 rfl dX11_find_0 ?_
  refine cg_iload_n C (i := 1) rfl 1 rfl dX11_find_1 ?_
  exact cg_callx C hne (z175_X11_snapshotOf l hlt S dp o1 o2 n1 (by omega) h3 h4 h5 h6 h7 h8) cc_X11_317 h5 h4 (by decide) rfl rfl ⟨by decide, by decide⟩ ⟨by decide, by decide⟩ rfl (Nat.le_of_ble_eq_true rfl) dX11_find_2 ⟨by decide, by decide⟩ (fun u_ h_ => by
      have hu_ := h_
      exact hu_)
set_option maxHeartbeats 4000000 in
set_option maxRecDepth 100000 in
theorem z415_L_find (l : Launch) (hlt : l.stackTraces = false) (S : cS) (dp : Nat) (o1 o2 o3 : Nat) (n1 n2 : Nat) (x1 : Int32) (h1 : n1 ≤ 2147483647) (h2 : n2 ≤ 2147483647) (h3 : cr S 360 o1 = (some o3)) (h4 : cK S o1 = 11) (h5 : o1 ∈ cL S) (h6 : ci S 386 o3 = (nI 0)) (h7 : cK S o3 = 12) (h8 : o3 ∈ cL S) : cMetW (cQi (fun r_ u_ => r_ = (nI 1) ∧ u_ = S)) l yL_find cL_find 6 (some .int) [(0, 12, 15, 28), (0, 12, 19, 13)] 8 1 6 129 [.ref o1, .int (nI n1), .int x1, .int (nI n2), .ref o2] S dp := by
  intro D Y tp sz
  refine cg_bodyW (by decide +kernel) (Nat.le_of_ble_eq_true rfl) ?_
  intro p e s m args below meth c C htab
  generalize va_A (cWd Y S) sz = A at C ⊢
  have C : cC p s m args meth c cL_find 6 (some .int) A D Y tp dp RL := C
  refine cg_lv (lv' := [(0, .ref o1), (1, .int (nI n1)), (2, .int x1), (3, .int (nI n2)), (4, .ref o2)]) rfl ?_
  refine cg_aload C 4 rfl dL_find_0 ?_
  refine cg_iconst C (x := nI 0) rfl dL_find_2 ?_
  refine cg_aload_n C (i := 0) rfl 0 rfl dL_find_3 ?_
  refine cg_iload_n C (i := 1) rfl 1 rfl dL_find_4 ?_
  refine cg_iload_n C (i := 2) rfl 2 rfl dL_find_5 ?_
  refine cg_iload_n C (i := 3) rfl 3 rfl dL_find_6 ?_
  refine cg_callx_catch C htab (z414_X11_find l hlt S dp o1 o3 n1 n2 x1 (by omega) (by omega) h3 h4 h5 h6 h7 h8) cc_L_150 h5 h4 (by decide) rfl rfl ⟨by decide, by decide⟩ ⟨by decide, by decide⟩ rfl (Nat.le_of_ble_eq_true rfl) dL_find_7 (tableOf []) ⟨0, 12, 15, 28⟩ (tableOf [(0, 12, 19, 13)]) rfl (fun z hz => nomatch hz) (by decide) (by decide) (name := "java/lang/IndexOutOfBoundsException") ce_L_28 (by decide) 15 rfl (fun x_7 u_7 h_7 => ?_)
  have hu_7 := h_7
  have hw_7 := hu_7.symm
  subst hw_7
  refine cg_astore (lv' := [(5, .ref x_7), (0, .ref o1), (1, .int (nI n1)), (2, .int x1), (3, .int (nI n2)), (4, .ref o2)]) C (Nat.le_of_ble_eq_true rfl) rfl dL_find_15 ?_
  refine cg_iconst C (x := nI 1) rfl dL_find_17 ?_
  exact cg_iret C ⟨rfl, rfl⟩ dL_find_18 (by decide) (by decide)
set_option maxHeartbeats 4000000 in
set_option maxRecDepth 100000 in
theorem z416_X11_find (l : Launch) (hlt : l.stackTraces = false) (S : cS) (dp : Nat) (o1 o2 : Nat) (n1 : Nat) (x1 : Int32) (h1 : n1 ≤ 2147483647) (h2 : cr S 360 o1 = (some o2)) (h3 : cK S o1 = 11) (h4 : o1 ∈ cL S) (h5 : ci S 386 o2 = (nI 0)) (h6 : cK S o2 = 12) (h7 : o2 ∈ cL S) : cMetX "java/lang/IndexOutOfBoundsException" (fun u_ => u_ = S) l yX11_find cX11_find 6 (some .int) 7 1 6 104 [.ref o1, .int (nI n1), .int x1, .int (nI 0)] S dp := by
  intro D Y tp sz
  refine cg_bodyX (by decide +kernel) (Nat.le_of_ble_eq_true rfl) ?_
  intro p e s m args below meth c C hne
  generalize va_A (cWd Y S) sz = A at C ⊢
  have C : cC p s m args meth c cX11_find 6 (some .int) A D Y tp dp RX11 := C
  refine cg_lv (lv' := [(0, .ref o1), (1, .int (nI n1)), (2, .int x1), (3, .int (nI 0))]) rfl ?_
  refine cg_aload_n C (i := 0) rfl 0 rfl dX11_find_0 ?_
  refine cg_iload_n C (i := 1) rfl 1 rfl dX11_find_1 ?_
  exact cg_callx C hne (z175_X11_snapshotOf l hlt S dp o1 o2 n1 (by omega) h2 h3 h4 h5 h6 h7) cc_X11_317 h4 h3 (by decide) rfl rfl ⟨by decide, by decide⟩ ⟨by decide, by decide⟩ rfl (Nat.le_of_ble_eq_true rfl) dX11_find_2 ⟨by decide, by decide⟩ (fun u_ h_ => by
      have hu_ := h_
      exact hu_)
set_option maxHeartbeats 4000000 in
set_option maxRecDepth 100000 in
theorem z417_L_find (l : Launch) (hlt : l.stackTraces = false) (S : cS) (dp : Nat) (o1 o2 o3 : Nat) (n1 : Nat) (x1 : Int32) (h1 : n1 ≤ 2147483647) (h2 : cr S 360 o1 = (some o3)) (h3 : cK S o1 = 11) (h4 : o1 ∈ cL S) (h5 : ci S 386 o3 = (nI 0)) (h6 : cK S o3 = 12) (h7 : o3 ∈ cL S) : cMetW (cQi (fun r_ u_ => r_ = (nI 1) ∧ u_ = S)) l yL_find cL_find 6 (some .int) [(0, 12, 15, 28), (0, 12, 19, 13)] 8 1 6 129 [.ref o1, .int (nI n1), .int x1, .int (nI 0), .ref o2] S dp := by
  intro D Y tp sz
  refine cg_bodyW (by decide +kernel) (Nat.le_of_ble_eq_true rfl) ?_
  intro p e s m args below meth c C htab
  generalize va_A (cWd Y S) sz = A at C ⊢
  have C : cC p s m args meth c cL_find 6 (some .int) A D Y tp dp RL := C
  refine cg_lv (lv' := [(0, .ref o1), (1, .int (nI n1)), (2, .int x1), (3, .int (nI 0)), (4, .ref o2)]) rfl ?_
  refine cg_aload C 4 rfl dL_find_0 ?_
  refine cg_iconst C (x := nI 0) rfl dL_find_2 ?_
  refine cg_aload_n C (i := 0) rfl 0 rfl dL_find_3 ?_
  refine cg_iload_n C (i := 1) rfl 1 rfl dL_find_4 ?_
  refine cg_iload_n C (i := 2) rfl 2 rfl dL_find_5 ?_
  refine cg_iload_n C (i := 3) rfl 3 rfl dL_find_6 ?_
  refine cg_callx_catch C htab (z416_X11_find l hlt S dp o1 o3 n1 x1 (by omega) h2 h3 h4 h5 h6 h7) cc_L_150 h4 h3 (by decide) rfl rfl ⟨by decide, by decide⟩ ⟨by decide, by decide⟩ rfl (Nat.le_of_ble_eq_true rfl) dL_find_7 (tableOf []) ⟨0, 12, 15, 28⟩ (tableOf [(0, 12, 19, 13)]) rfl (fun z hz => nomatch hz) (by decide) (by decide) (name := "java/lang/IndexOutOfBoundsException") ce_L_28 (by decide) 15 rfl (fun x_7 u_7 h_7 => ?_)
  have hu_7 := h_7
  have hw_7 := hu_7.symm
  subst hw_7
  refine cg_astore (lv' := [(5, .ref x_7), (0, .ref o1), (1, .int (nI n1)), (2, .int x1), (3, .int (nI 0)), (4, .ref o2)]) C (Nat.le_of_ble_eq_true rfl) rfl dL_find_15 ?_
  refine cg_iconst C (x := nI 1) rfl dL_find_17 ?_
  exact cg_iret C ⟨rfl, rfl⟩ dL_find_18 (by decide) (by decide)
set_option maxHeartbeats 4000000 in
set_option maxRecDepth 100000 in
theorem z418_X11_find (l : Launch) (hlt : l.stackTraces = false) (S : cS) (dp : Nat) (o1 o2 : Nat) (n1 n2 : Nat) (x1 : Int32) (h1 : n1 ≤ 2147483647) (h2 : 1 ≤ n2) (h3 : n2 ≤ 2147483647) (h4 : cr S 360 o1 = (some o2)) (h5 : cK S o1 = 11) (h6 : o1 ∈ cL S) (h7 : ci S 386 o2 = (nI 0)) (h8 : cK S o2 = 12) (h9 : o2 ∈ cL S) : cMetX "java/lang/IndexOutOfBoundsException" (fun u_ => u_ = S) l yX11_find cX11_find 6 (some .int) 7 1 6 104 [.ref o1, .int (nI n1), .int x1, .int (nI n2)] S dp := by
  intro D Y tp sz
  refine cg_bodyX (by decide +kernel) (Nat.le_of_ble_eq_true rfl) ?_
  intro p e s m args below meth c C hne
  generalize va_A (cWd Y S) sz = A at C ⊢
  have C : cC p s m args meth c cX11_find 6 (some .int) A D Y tp dp RX11 := C
  refine cg_lv (lv' := [(0, .ref o1), (1, .int (nI n1)), (2, .int x1), (3, .int (nI n2))]) rfl ?_
  refine cg_aload_n C (i := 0) rfl 0 rfl dX11_find_0 ?_
  refine cg_iload_n C (i := 1) rfl 1 rfl dX11_find_1 ?_
  exact cg_callx C hne (z175_X11_snapshotOf l hlt S dp o1 o2 n1 (by omega) h4 h5 h6 h7 h8 h9) cc_X11_317 h6 h5 (by decide) rfl rfl ⟨by decide, by decide⟩ ⟨by decide, by decide⟩ rfl (Nat.le_of_ble_eq_true rfl) dX11_find_2 ⟨by decide, by decide⟩ (fun u_ h_ => by
      have hu_ := h_
      exact hu_)
set_option maxHeartbeats 4000000 in
set_option maxRecDepth 100000 in
theorem z419_L_find (l : Launch) (hlt : l.stackTraces = false) (S : cS) (dp : Nat) (o1 o2 o3 : Nat) (n1 n2 : Nat) (x1 : Int32) (h1 : n1 ≤ 2147483647) (h2 : 1 ≤ n2) (h3 : n2 ≤ 2147483647) (h4 : cr S 360 o1 = (some o3)) (h5 : cK S o1 = 11) (h6 : o1 ∈ cL S) (h7 : ci S 386 o3 = (nI 0)) (h8 : cK S o3 = 12) (h9 : o3 ∈ cL S) : cMetW (cQi (fun r_ u_ => r_ = (nI 1) ∧ u_ = S)) l yL_find cL_find 6 (some .int) [(0, 12, 15, 28), (0, 12, 19, 13)] 8 1 6 129 [.ref o1, .int (nI n1), .int x1, .int (nI n2), .ref o2] S dp := by
  intro D Y tp sz
  refine cg_bodyW (by decide +kernel) (Nat.le_of_ble_eq_true rfl) ?_
  intro p e s m args below meth c C htab
  generalize va_A (cWd Y S) sz = A at C ⊢
  have C : cC p s m args meth c cL_find 6 (some .int) A D Y tp dp RL := C
  refine cg_lv (lv' := [(0, .ref o1), (1, .int (nI n1)), (2, .int x1), (3, .int (nI n2)), (4, .ref o2)]) rfl ?_
  refine cg_aload C 4 rfl dL_find_0 ?_
  refine cg_iconst C (x := nI 0) rfl dL_find_2 ?_
  refine cg_aload_n C (i := 0) rfl 0 rfl dL_find_3 ?_
  refine cg_iload_n C (i := 1) rfl 1 rfl dL_find_4 ?_
  refine cg_iload_n C (i := 2) rfl 2 rfl dL_find_5 ?_
  refine cg_iload_n C (i := 3) rfl 3 rfl dL_find_6 ?_
  refine cg_callx_catch C htab (z418_X11_find l hlt S dp o1 o3 n1 n2 x1 (by omega) (by omega) (by omega) h4 h5 h6 h7 h8 h9) cc_L_150 h6 h5 (by decide) rfl rfl ⟨by decide, by decide⟩ ⟨by decide, by decide⟩ rfl (Nat.le_of_ble_eq_true rfl) dL_find_7 (tableOf []) ⟨0, 12, 15, 28⟩ (tableOf [(0, 12, 19, 13)]) rfl (fun z hz => nomatch hz) (by decide) (by decide) (name := "java/lang/IndexOutOfBoundsException") ce_L_28 (by decide) 15 rfl (fun x_7 u_7 h_7 => ?_)
  have hu_7 := h_7
  have hw_7 := hu_7.symm
  subst hw_7
  refine cg_astore (lv' := [(5, .ref x_7), (0, .ref o1), (1, .int (nI n1)), (2, .int x1), (3, .int (nI n2)), (4, .ref o2)]) C (Nat.le_of_ble_eq_true rfl) rfl dL_find_15 ?_
  refine cg_iconst C (x := nI 1) rfl dL_find_17 ?_
  exact cg_iret C ⟨rfl, rfl⟩ dL_find_18 (by decide) (by decide)
set_option maxHeartbeats 4000000 in
set_option maxRecDepth 100000 in
theorem z420_X11_find (l : Launch) (hlt : l.stackTraces = false) (S : cS) (dp : Nat) (o1 o2 : Nat) (n1 n2 : Nat) (x1 : Int32) (h1 : n1 ≤ 2147483647) (h2 : 1 ≤ n2) (h3 : n2 ≤ 20) (h4 : cr S 360 o1 = (some o2)) (h5 : cK S o1 = 11) (h6 : o1 ∈ cL S) (h7 : ci S 386 o2 = (nI 0)) (h8 : cK S o2 = 12) (h9 : o2 ∈ cL S) : cMetX "java/lang/IndexOutOfBoundsException" (fun u_ => u_ = S) l yX11_find cX11_find 6 (some .int) 7 1 6 104 [.ref o1, .int (nI n1), .int x1, .int (nI n2)] S dp := by
  intro D Y tp sz
  refine cg_bodyX (by decide +kernel) (Nat.le_of_ble_eq_true rfl) ?_
  intro p e s m args below meth c C hne
  generalize va_A (cWd Y S) sz = A at C ⊢
  have C : cC p s m args meth c cX11_find 6 (some .int) A D Y tp dp RX11 := C
  refine cg_lv (lv' := [(0, .ref o1), (1, .int (nI n1)), (2, .int x1), (3, .int (nI n2))]) rfl ?_
  refine cg_aload_n C (i := 0) rfl 0 rfl dX11_find_0 ?_
  refine cg_iload_n C (i := 1) rfl 1 rfl dX11_find_1 ?_
  exact cg_callx C hne (z175_X11_snapshotOf l hlt S dp o1 o2 n1 (by omega) h4 h5 h6 h7 h8 h9) cc_X11_317 h6 h5 (by decide) rfl rfl ⟨by decide, by decide⟩ ⟨by decide, by decide⟩ rfl (Nat.le_of_ble_eq_true rfl) dX11_find_2 ⟨by decide, by decide⟩ (fun u_ h_ => by
      have hu_ := h_
      exact hu_)
set_option maxHeartbeats 4000000 in
set_option maxRecDepth 100000 in
theorem z421_L_find (l : Launch) (hlt : l.stackTraces = false) (S : cS) (dp : Nat) (o1 o2 o3 : Nat) (n1 n2 : Nat) (x1 : Int32) (h1 : n1 ≤ 2147483647) (h2 : 1 ≤ n2) (h3 : n2 ≤ 20) (h4 : cr S 360 o1 = (some o3)) (h5 : cK S o1 = 11) (h6 : o1 ∈ cL S) (h7 : ci S 386 o3 = (nI 0)) (h8 : cK S o3 = 12) (h9 : o3 ∈ cL S) : cMetW (cQi (fun r_ u_ => r_ = (nI 1) ∧ u_ = S)) l yL_find cL_find 6 (some .int) [(0, 12, 15, 28), (0, 12, 19, 13)] 8 1 6 129 [.ref o1, .int (nI n1), .int x1, .int (nI n2), .ref o2] S dp := by
  intro D Y tp sz
  refine cg_bodyW (by decide +kernel) (Nat.le_of_ble_eq_true rfl) ?_
  intro p e s m args below meth c C htab
  generalize va_A (cWd Y S) sz = A at C ⊢
  have C : cC p s m args meth c cL_find 6 (some .int) A D Y tp dp RL := C
  refine cg_lv (lv' := [(0, .ref o1), (1, .int (nI n1)), (2, .int x1), (3, .int (nI n2)), (4, .ref o2)]) rfl ?_
  refine cg_aload C 4 rfl dL_find_0 ?_
  refine cg_iconst C (x := nI 0) rfl dL_find_2 ?_
  refine cg_aload_n C (i := 0) rfl 0 rfl dL_find_3 ?_
  refine cg_iload_n C (i := 1) rfl 1 rfl dL_find_4 ?_
  refine cg_iload_n C (i := 2) rfl 2 rfl dL_find_5 ?_
  refine cg_iload_n C (i := 3) rfl 3 rfl dL_find_6 ?_
  refine cg_callx_catch C htab (z420_X11_find l hlt S dp o1 o3 n1 n2 x1 (by omega) (by omega) (by omega) h4 h5 h6 h7 h8 h9) cc_L_150 h6 h5 (by decide) rfl rfl ⟨by decide, by decide⟩ ⟨by decide, by decide⟩ rfl (Nat.le_of_ble_eq_true rfl) dL_find_7 (tableOf []) ⟨0, 12, 15, 28⟩ (tableOf [(0, 12, 19, 13)]) rfl (fun z hz => nomatch hz) (by decide) (by decide) (name := "java/lang/IndexOutOfBoundsException") ce_L_28 (by decide) 15 rfl (fun x_7 u_7 h_7 => ?_)
  have hu_7 := h_7
  have hw_7 := hu_7.symm
  subst hw_7
  refine cg_astore (lv' := [(5, .ref x_7), (0, .ref o1), (1, .int (nI n1)), (2, .int x1), (3, .int (nI n2)), (4, .ref o2)]) C (Nat.le_of_ble_eq_true rfl) rfl dL_find_15 ?_
  refine cg_iconst C (x := nI 1) rfl dL_find_17 ?_
  exact cg_iret C ⟨rfl, rfl⟩ dL_find_18 (by decide) (by decide)
set_option maxHeartbeats 4000000 in
set_option maxRecDepth 100000 in
theorem z422_X11_find (l : Launch) (hlt : l.stackTraces = false) (S : cS) (dp : Nat) (o1 o2 : Nat) (n1 n2 : Nat) (x1 : Int32) (h1 : n1 ≤ 2147483647) (h2 : 21 ≤ n2) (h3 : n2 ≤ 2147483647) (h4 : cr S 360 o1 = (some o2)) (h5 : cK S o1 = 11) (h6 : o1 ∈ cL S) (h7 : ci S 386 o2 = (nI 0)) (h8 : cK S o2 = 12) (h9 : o2 ∈ cL S) : cMetX "java/lang/IndexOutOfBoundsException" (fun u_ => u_ = S) l yX11_find cX11_find 6 (some .int) 7 1 6 104 [.ref o1, .int (nI n1), .int x1, .int (nI n2)] S dp := by
  intro D Y tp sz
  refine cg_bodyX (by decide +kernel) (Nat.le_of_ble_eq_true rfl) ?_
  intro p e s m args below meth c C hne
  generalize va_A (cWd Y S) sz = A at C ⊢
  have C : cC p s m args meth c cX11_find 6 (some .int) A D Y tp dp RX11 := C
  refine cg_lv (lv' := [(0, .ref o1), (1, .int (nI n1)), (2, .int x1), (3, .int (nI n2))]) rfl ?_
  refine cg_aload_n C (i := 0) rfl 0 rfl dX11_find_0 ?_
  refine cg_iload_n C (i := 1) rfl 1 rfl dX11_find_1 ?_
  exact cg_callx C hne (z175_X11_snapshotOf l hlt S dp o1 o2 n1 (by omega) h4 h5 h6 h7 h8 h9) cc_X11_317 h6 h5 (by decide) rfl rfl ⟨by decide, by decide⟩ ⟨by decide, by decide⟩ rfl (Nat.le_of_ble_eq_true rfl) dX11_find_2 ⟨by decide, by decide⟩ (fun u_ h_ => by
      have hu_ := h_
      exact hu_)
set_option maxHeartbeats 4000000 in
set_option maxRecDepth 100000 in
theorem z423_L_find (l : Launch) (hlt : l.stackTraces = false) (S : cS) (dp : Nat) (o1 o2 o3 : Nat) (n1 n2 : Nat) (x1 : Int32) (h1 : n1 ≤ 2147483647) (h2 : 21 ≤ n2) (h3 : n2 ≤ 2147483647) (h4 : cr S 360 o1 = (some o3)) (h5 : cK S o1 = 11) (h6 : o1 ∈ cL S) (h7 : ci S 386 o3 = (nI 0)) (h8 : cK S o3 = 12) (h9 : o3 ∈ cL S) : cMetW (cQi (fun r_ u_ => r_ = (nI 1) ∧ u_ = S)) l yL_find cL_find 6 (some .int) [(0, 12, 15, 28), (0, 12, 19, 13)] 8 1 6 129 [.ref o1, .int (nI n1), .int x1, .int (nI n2), .ref o2] S dp := by
  intro D Y tp sz
  refine cg_bodyW (by decide +kernel) (Nat.le_of_ble_eq_true rfl) ?_
  intro p e s m args below meth c C htab
  generalize va_A (cWd Y S) sz = A at C ⊢
  have C : cC p s m args meth c cL_find 6 (some .int) A D Y tp dp RL := C
  refine cg_lv (lv' := [(0, .ref o1), (1, .int (nI n1)), (2, .int x1), (3, .int (nI n2)), (4, .ref o2)]) rfl ?_
  refine cg_aload C 4 rfl dL_find_0 ?_
  refine cg_iconst C (x := nI 0) rfl dL_find_2 ?_
  refine cg_aload_n C (i := 0) rfl 0 rfl dL_find_3 ?_
  refine cg_iload_n C (i := 1) rfl 1 rfl dL_find_4 ?_
  refine cg_iload_n C (i := 2) rfl 2 rfl dL_find_5 ?_
  refine cg_iload_n C (i := 3) rfl 3 rfl dL_find_6 ?_
  refine cg_callx_catch C htab (z422_X11_find l hlt S dp o1 o3 n1 n2 x1 (by omega) (by omega) (by omega) h4 h5 h6 h7 h8 h9) cc_L_150 h6 h5 (by decide) rfl rfl ⟨by decide, by decide⟩ ⟨by decide, by decide⟩ rfl (Nat.le_of_ble_eq_true rfl) dL_find_7 (tableOf []) ⟨0, 12, 15, 28⟩ (tableOf [(0, 12, 19, 13)]) rfl (fun z hz => nomatch hz) (by decide) (by decide) (name := "java/lang/IndexOutOfBoundsException") ce_L_28 (by decide) 15 rfl (fun x_7 u_7 h_7 => ?_)
  have hu_7 := h_7
  have hw_7 := hu_7.symm
  subst hw_7
  refine cg_astore (lv' := [(5, .ref x_7), (0, .ref o1), (1, .int (nI n1)), (2, .int x1), (3, .int (nI n2)), (4, .ref o2)]) C (Nat.le_of_ble_eq_true rfl) rfl dL_find_15 ?_
  refine cg_iconst C (x := nI 1) rfl dL_find_17 ?_
  exact cg_iret C ⟨rfl, rfl⟩ dL_find_18 (by decide) (by decide)
set_option maxHeartbeats 4000000 in
set_option maxRecDepth 100000 in
theorem z424_X11_checkHit (l : Launch) (hlt : l.stackTraces = false) (S : cS) (dp : Nat) (o1 : Nat) (x1 : Int32) (h1 : x1 < 0) : cMetX "java/lang/IndexOutOfBoundsException" (fun u_ => u_ = S) l yX11_checkHit cX11_checkHit 2 none 6 1 6 82 [.ref o1, .int x1] S dp := by
  intro D Y tp sz
  refine cg_bodyX (by decide +kernel) (Nat.le_of_ble_eq_true rfl) ?_
  intro p e s m args below meth c C hne
  generalize va_A (cWd Y S) sz = A at C ⊢
  have C : cC p s m args meth c cX11_checkHit 2 none A D Y tp dp RX11 := C
  refine cg_lv (lv' := [(0, .ref o1), (1, .int x1)]) rfl ?_
  refine cg_iload_n C (i := 1) rfl 1 rfl dX11_checkHit_0 ?_
  refine cg_if_lt C 15 (by decide) dX11_checkHit_1 (fun c_1 => ?_) (fun c_ => absurd (cneg0_lt h1) c_)
  exact cg_throw3W C hlt hne "there are not so many hits" ce_X11_269 cei_3 (by decide) dX11_checkHit_15 dX11_checkHit_18 dX11_checkHit_19 dX11_checkHit_22 dX11_checkHit_25 (by decide) (by decide) ⟨by decide, by decide⟩ ⟨by decide, by decide⟩ rfl
set_option maxHeartbeats 4000000 in
set_option maxRecDepth 100000 in
theorem z425_X11_hitAt (l : Launch) (hlt : l.stackTraces = false) (S : cS) (dp : Nat) (o1 : Nat) (x1 : Int32) (h1 : x1 < 0) (h2 : o1 ∈ cL S) (h3 : cK S o1 = 11) : cMetX "java/lang/IndexOutOfBoundsException" (fun u_ => u_ = S) l yX11_hitAt cX11_hitAt 2 (some .int) 7 1 6 103 [.ref o1, .int x1] S dp := by
  intro D Y tp sz
  refine cg_bodyX (by decide +kernel) (Nat.le_of_ble_eq_true rfl) ?_
  intro p e s m args below meth c C hne
  generalize va_A (cWd Y S) sz = A at C ⊢
  have C : cC p s m args meth c cX11_hitAt 2 (some .int) A D Y tp dp RX11 := C
  refine cg_lv (lv' := [(0, .ref o1), (1, .int x1)]) rfl ?_
  refine cg_aload_n C (i := 0) rfl 0 rfl dX11_hitAt_0 ?_
  refine cg_iload_n C (i := 1) rfl 1 rfl dX11_hitAt_1 ?_
  exact cg_callx C hne (z424_X11_checkHit l hlt S dp o1 x1 h1) cc_X11_406 h2 h3 (by decide) rfl rfl ⟨by decide, by decide⟩ ⟨by decide, by decide⟩ rfl (Nat.le_of_ble_eq_true rfl) dX11_hitAt_2 ⟨by decide, by decide⟩ (fun u_ h_ => by
      have hu_ := h_
      exact hu_)
set_option maxHeartbeats 4000000 in
set_option maxRecDepth 100000 in
theorem z426_L_hitAt (l : Launch) (hlt : l.stackTraces = false) (S : cS) (dp : Nat) (o1 o2 : Nat) (x1 : Int32) (h1 : x1 < 0) (h2 : o1 ∈ cL S) (h3 : cK S o1 = 11) : cMetW (cQi (fun r_ u_ => r_ = (nI 1) ∧ u_ = S)) l yL_hitAt cL_hitAt 4 (some .int) [(0, 9, 12, 28)] 8 1 6 124 [.ref o1, .int x1, .ref o2] S dp := by
  intro D Y tp sz
  refine cg_bodyW (by decide +kernel) (Nat.le_of_ble_eq_true rfl) ?_
  intro p e s m args below meth c C htab
  generalize va_A (cWd Y S) sz = A at C ⊢
  have C : cC p s m args meth c cL_hitAt 4 (some .int) A D Y tp dp RL := C
  refine cg_lv (lv' := [(0, .ref o1), (1, .int x1), (2, .ref o2)]) rfl ?_
  refine cg_aload_n C (i := 2) rfl 2 rfl dL_hitAt_0 ?_
  refine cg_iconst C (x := nI 0) rfl dL_hitAt_1 ?_
  refine cg_aload_n C (i := 0) rfl 0 rfl dL_hitAt_2 ?_
  refine cg_iload_n C (i := 1) rfl 1 rfl dL_hitAt_3 ?_
  refine cg_callx_catch C htab (z425_X11_hitAt l hlt S dp o1 x1 h1 h2 h3) cc_L_153 h2 h3 (by decide) rfl rfl ⟨by decide, by decide⟩ ⟨by decide, by decide⟩ rfl (Nat.le_of_ble_eq_true rfl) dL_hitAt_4 (tableOf []) ⟨0, 9, 12, 28⟩ (tableOf []) rfl (fun z hz => nomatch hz) (by decide) (by decide) (name := "java/lang/IndexOutOfBoundsException") ce_L_28 (by decide) 12 rfl (fun x_4 u_4 h_4 => ?_)
  have hu_4 := h_4
  have hw_4 := hu_4.symm
  subst hw_4
  refine cg_astore_n (lv' := [(3, .ref x_4), (0, .ref o1), (1, .int x1), (2, .ref o2)]) C (i := 3) rfl (Nat.le_of_ble_eq_true rfl) rfl dL_hitAt_12 ?_
  refine cg_iconst C (x := nI 1) rfl dL_hitAt_13 ?_
  exact cg_iret C ⟨rfl, rfl⟩ dL_hitAt_14 (by decide) (by decide)
set_option maxHeartbeats 4000000 in
set_option maxRecDepth 100000 in
theorem z427_X11_checkHit (l : Launch) (hlt : l.stackTraces = false) (S : cS) (dp : Nat) (o1 o2 : Nat) (n1 : Nat) (h1 : n1 ≤ 2147483647) (h2 : cr S 365 o1 = (some o2)) (h3 : cK S o1 = 11) (h4 : o1 ∈ cL S) (h5 : ci S 33 o2 = (nI 0)) (h6 : cK S o2 = 1) (h7 : o2 ∈ cL S) : cMetX "java/lang/IndexOutOfBoundsException" (fun u_ => u_ = S) l yX11_checkHit cX11_checkHit 2 none 6 1 6 82 [.ref o1, .int (nI n1)] S dp := by
  intro D Y tp sz
  refine cg_bodyX (by decide +kernel) (Nat.le_of_ble_eq_true rfl) ?_
  intro p e s m args below meth c C hne
  generalize va_A (cWd Y S) sz = A at C ⊢
  have C : cC p s m args meth c cX11_checkHit 2 none A D Y tp dp RX11 := C
  refine cg_lv (lv' := [(0, .ref o1), (1, .int (nI n1))]) rfl ?_
  refine cg_iload_n C (i := 1) rfl 1 rfl dX11_checkHit_0 ?_
  refine cg_if_ltN C (by omega) 15 (by decide) dX11_checkHit_1 ?_
  refine cg_iload_n C (i := 1) rfl 1 rfl dX11_checkHit_4 ?_
  refine cg_aload_n C (i := 0) rfl 0 rfl dX11_checkHit_5 ?_
  refine cg_get C (k := 11) (j := 13) (.ref o2) h4 h3 (by decide) rfl (by decide) rfl (show cV _ 11 13 o1 = _ from congrArg va_rf h2) cWs_wsX110 cl_X11_80 rfl dX11_checkHit_6 ?_
  refine cg_get C (k := 1) (j := 1) (.int (nI 0)) h7 h6 (by decide) rfl (by decide) rfl (show cV _ 1 1 o2 = _ from congrArg Value.int h5) cWs_wsX10 cl_X11_473 rfl dX11_checkHit_9 ?_
  refine cg_icmp_ltN C (by omega) (by omega) 26 (by decide) dX11_checkHit_12 (fun c_ => absurd c_ (by omega)) (fun c_12 => ?_)
  exact cg_throw3W C hlt hne "there are not so many hits" ce_X11_269 cei_3 (by decide) dX11_checkHit_15 dX11_checkHit_18 dX11_checkHit_19 dX11_checkHit_22 dX11_checkHit_25 (by decide) (by decide) ⟨by decide, by decide⟩ ⟨by decide, by decide⟩ rfl
set_option maxHeartbeats 4000000 in
set_option maxRecDepth 100000 in
theorem z428_X11_hitAt (l : Launch) (hlt : l.stackTraces = false) (S : cS) (dp : Nat) (o1 o2 : Nat) (n1 : Nat) (h1 : n1 ≤ 2147483647) (h2 : cr S 365 o1 = (some o2)) (h3 : cK S o1 = 11) (h4 : o1 ∈ cL S) (h5 : ci S 33 o2 = (nI 0)) (h6 : cK S o2 = 1) (h7 : o2 ∈ cL S) : cMetX "java/lang/IndexOutOfBoundsException" (fun u_ => u_ = S) l yX11_hitAt cX11_hitAt 2 (some .int) 7 1 6 103 [.ref o1, .int (nI n1)] S dp := by
  intro D Y tp sz
  refine cg_bodyX (by decide +kernel) (Nat.le_of_ble_eq_true rfl) ?_
  intro p e s m args below meth c C hne
  generalize va_A (cWd Y S) sz = A at C ⊢
  have C : cC p s m args meth c cX11_hitAt 2 (some .int) A D Y tp dp RX11 := C
  refine cg_lv (lv' := [(0, .ref o1), (1, .int (nI n1))]) rfl ?_
  refine cg_aload_n C (i := 0) rfl 0 rfl dX11_hitAt_0 ?_
  refine cg_iload_n C (i := 1) rfl 1 rfl dX11_hitAt_1 ?_
  exact cg_callx C hne (z427_X11_checkHit l hlt S dp o1 o2 n1 (by omega) h2 h3 h4 h5 h6 h7) cc_X11_406 h4 h3 (by decide) rfl rfl ⟨by decide, by decide⟩ ⟨by decide, by decide⟩ rfl (Nat.le_of_ble_eq_true rfl) dX11_hitAt_2 ⟨by decide, by decide⟩ (fun u_ h_ => by
      have hu_ := h_
      exact hu_)
set_option maxHeartbeats 4000000 in
set_option maxRecDepth 100000 in
theorem z429_L_hitAt (l : Launch) (hlt : l.stackTraces = false) (S : cS) (dp : Nat) (o1 o2 o3 : Nat) (n1 : Nat) (h1 : n1 ≤ 2147483647) (h2 : cr S 365 o1 = (some o3)) (h3 : cK S o1 = 11) (h4 : o1 ∈ cL S) (h5 : ci S 33 o3 = (nI 0)) (h6 : cK S o3 = 1) (h7 : o3 ∈ cL S) : cMetW (cQi (fun r_ u_ => r_ = (nI 1) ∧ u_ = S)) l yL_hitAt cL_hitAt 4 (some .int) [(0, 9, 12, 28)] 8 1 6 124 [.ref o1, .int (nI n1), .ref o2] S dp := by
  intro D Y tp sz
  refine cg_bodyW (by decide +kernel) (Nat.le_of_ble_eq_true rfl) ?_
  intro p e s m args below meth c C htab
  generalize va_A (cWd Y S) sz = A at C ⊢
  have C : cC p s m args meth c cL_hitAt 4 (some .int) A D Y tp dp RL := C
  refine cg_lv (lv' := [(0, .ref o1), (1, .int (nI n1)), (2, .ref o2)]) rfl ?_
  refine cg_aload_n C (i := 2) rfl 2 rfl dL_hitAt_0 ?_
  refine cg_iconst C (x := nI 0) rfl dL_hitAt_1 ?_
  refine cg_aload_n C (i := 0) rfl 0 rfl dL_hitAt_2 ?_
  refine cg_iload_n C (i := 1) rfl 1 rfl dL_hitAt_3 ?_
  refine cg_callx_catch C htab (z428_X11_hitAt l hlt S dp o1 o3 n1 (by omega) h2 h3 h4 h5 h6 h7) cc_L_153 h4 h3 (by decide) rfl rfl ⟨by decide, by decide⟩ ⟨by decide, by decide⟩ rfl (Nat.le_of_ble_eq_true rfl) dL_hitAt_4 (tableOf []) ⟨0, 9, 12, 28⟩ (tableOf []) rfl (fun z hz => nomatch hz) (by decide) (by decide) (name := "java/lang/IndexOutOfBoundsException") ce_L_28 (by decide) 12 rfl (fun x_4 u_4 h_4 => ?_)
  have hu_4 := h_4
  have hw_4 := hu_4.symm
  subst hw_4
  refine cg_astore_n (lv' := [(3, .ref x_4), (0, .ref o1), (1, .int (nI n1)), (2, .ref o2)]) C (i := 3) rfl (Nat.le_of_ble_eq_true rfl) rfl dL_hitAt_12 ?_
  refine cg_iconst C (x := nI 1) rfl dL_hitAt_13 ?_
  exact cg_iret C ⟨rfl, rfl⟩ dL_hitAt_14 (by decide) (by decide)
set_option maxHeartbeats 4000000 in
set_option maxRecDepth 100000 in
theorem z430_X11_rankAt (l : Launch) (hlt : l.stackTraces = false) (S : cS) (dp : Nat) (o1 : Nat) (x1 : Int32) (h1 : x1 < 0) (h2 : o1 ∈ cL S) (h3 : cK S o1 = 11) : cMetX "java/lang/IndexOutOfBoundsException" (fun u_ => u_ = S) l yX11_rankAt cX11_rankAt 2 (some .int) 7 1 6 103 [.ref o1, .int x1] S dp := by
  intro D Y tp sz
  refine cg_bodyX (by decide +kernel) (Nat.le_of_ble_eq_true rfl) ?_
  intro p e s m args below meth c C hne
  generalize va_A (cWd Y S) sz = A at C ⊢
  have C : cC p s m args meth c cX11_rankAt 2 (some .int) A D Y tp dp RX11 := C
  refine cg_lv (lv' := [(0, .ref o1), (1, .int x1)]) rfl ?_
  refine cg_aload_n C (i := 0) rfl 0 rfl dX11_rankAt_0 ?_
  refine cg_iload_n C (i := 1) rfl 1 rfl dX11_rankAt_1 ?_
  exact cg_callx C hne (z424_X11_checkHit l hlt S dp o1 x1 h1) cc_X11_406 h2 h3 (by decide) rfl rfl ⟨by decide, by decide⟩ ⟨by decide, by decide⟩ rfl (Nat.le_of_ble_eq_true rfl) dX11_rankAt_2 ⟨by decide, by decide⟩ (fun u_ h_ => by
      have hu_ := h_
      exact hu_)
set_option maxHeartbeats 4000000 in
set_option maxRecDepth 100000 in
theorem z431_L_rankAt (l : Launch) (hlt : l.stackTraces = false) (S : cS) (dp : Nat) (o1 o2 : Nat) (x1 : Int32) (h1 : x1 < 0) (h2 : o1 ∈ cL S) (h3 : cK S o1 = 11) : cMetW (cQi (fun r_ u_ => r_ = (nI 1) ∧ u_ = S)) l yL_rankAt cL_rankAt 4 (some .int) [(0, 9, 12, 28)] 8 1 6 124 [.ref o1, .int x1, .ref o2] S dp := by
  intro D Y tp sz
  refine cg_bodyW (by decide +kernel) (Nat.le_of_ble_eq_true rfl) ?_
  intro p e s m args below meth c C htab
  generalize va_A (cWd Y S) sz = A at C ⊢
  have C : cC p s m args meth c cL_rankAt 4 (some .int) A D Y tp dp RL := C
  refine cg_lv (lv' := [(0, .ref o1), (1, .int x1), (2, .ref o2)]) rfl ?_
  refine cg_aload_n C (i := 2) rfl 2 rfl dL_rankAt_0 ?_
  refine cg_iconst C (x := nI 0) rfl dL_rankAt_1 ?_
  refine cg_aload_n C (i := 0) rfl 0 rfl dL_rankAt_2 ?_
  refine cg_iload_n C (i := 1) rfl 1 rfl dL_rankAt_3 ?_
  refine cg_callx_catch C htab (z430_X11_rankAt l hlt S dp o1 x1 h1 h2 h3) cc_L_156 h2 h3 (by decide) rfl rfl ⟨by decide, by decide⟩ ⟨by decide, by decide⟩ rfl (Nat.le_of_ble_eq_true rfl) dL_rankAt_4 (tableOf []) ⟨0, 9, 12, 28⟩ (tableOf []) rfl (fun z hz => nomatch hz) (by decide) (by decide) (name := "java/lang/IndexOutOfBoundsException") ce_L_28 (by decide) 12 rfl (fun x_4 u_4 h_4 => ?_)
  have hu_4 := h_4
  have hw_4 := hu_4.symm
  subst hw_4
  refine cg_astore_n (lv' := [(3, .ref x_4), (0, .ref o1), (1, .int x1), (2, .ref o2)]) C (i := 3) rfl (Nat.le_of_ble_eq_true rfl) rfl dL_rankAt_12 ?_
  refine cg_iconst C (x := nI 1) rfl dL_rankAt_13 ?_
  exact cg_iret C ⟨rfl, rfl⟩ dL_rankAt_14 (by decide) (by decide)
set_option maxHeartbeats 4000000 in
set_option maxRecDepth 100000 in
theorem z432_X11_rankAt (l : Launch) (hlt : l.stackTraces = false) (S : cS) (dp : Nat) (o1 o2 : Nat) (n1 : Nat) (h1 : n1 ≤ 2147483647) (h2 : cr S 365 o1 = (some o2)) (h3 : cK S o1 = 11) (h4 : o1 ∈ cL S) (h5 : ci S 33 o2 = (nI 0)) (h6 : cK S o2 = 1) (h7 : o2 ∈ cL S) : cMetX "java/lang/IndexOutOfBoundsException" (fun u_ => u_ = S) l yX11_rankAt cX11_rankAt 2 (some .int) 7 1 6 103 [.ref o1, .int (nI n1)] S dp := by
  intro D Y tp sz
  refine cg_bodyX (by decide +kernel) (Nat.le_of_ble_eq_true rfl) ?_
  intro p e s m args below meth c C hne
  generalize va_A (cWd Y S) sz = A at C ⊢
  have C : cC p s m args meth c cX11_rankAt 2 (some .int) A D Y tp dp RX11 := C
  refine cg_lv (lv' := [(0, .ref o1), (1, .int (nI n1))]) rfl ?_
  refine cg_aload_n C (i := 0) rfl 0 rfl dX11_rankAt_0 ?_
  refine cg_iload_n C (i := 1) rfl 1 rfl dX11_rankAt_1 ?_
  exact cg_callx C hne (z427_X11_checkHit l hlt S dp o1 o2 n1 (by omega) h2 h3 h4 h5 h6 h7) cc_X11_406 h4 h3 (by decide) rfl rfl ⟨by decide, by decide⟩ ⟨by decide, by decide⟩ rfl (Nat.le_of_ble_eq_true rfl) dX11_rankAt_2 ⟨by decide, by decide⟩ (fun u_ h_ => by
      have hu_ := h_
      exact hu_)
set_option maxHeartbeats 4000000 in
set_option maxRecDepth 100000 in
theorem z433_L_rankAt (l : Launch) (hlt : l.stackTraces = false) (S : cS) (dp : Nat) (o1 o2 o3 : Nat) (n1 : Nat) (h1 : n1 ≤ 2147483647) (h2 : cr S 365 o1 = (some o3)) (h3 : cK S o1 = 11) (h4 : o1 ∈ cL S) (h5 : ci S 33 o3 = (nI 0)) (h6 : cK S o3 = 1) (h7 : o3 ∈ cL S) : cMetW (cQi (fun r_ u_ => r_ = (nI 1) ∧ u_ = S)) l yL_rankAt cL_rankAt 4 (some .int) [(0, 9, 12, 28)] 8 1 6 124 [.ref o1, .int (nI n1), .ref o2] S dp := by
  intro D Y tp sz
  refine cg_bodyW (by decide +kernel) (Nat.le_of_ble_eq_true rfl) ?_
  intro p e s m args below meth c C htab
  generalize va_A (cWd Y S) sz = A at C ⊢
  have C : cC p s m args meth c cL_rankAt 4 (some .int) A D Y tp dp RL := C
  refine cg_lv (lv' := [(0, .ref o1), (1, .int (nI n1)), (2, .ref o2)]) rfl ?_
  refine cg_aload_n C (i := 2) rfl 2 rfl dL_rankAt_0 ?_
  refine cg_iconst C (x := nI 0) rfl dL_rankAt_1 ?_
  refine cg_aload_n C (i := 0) rfl 0 rfl dL_rankAt_2 ?_
  refine cg_iload_n C (i := 1) rfl 1 rfl dL_rankAt_3 ?_
  refine cg_callx_catch C htab (z432_X11_rankAt l hlt S dp o1 o3 n1 (by omega) h2 h3 h4 h5 h6 h7) cc_L_156 h4 h3 (by decide) rfl rfl ⟨by decide, by decide⟩ ⟨by decide, by decide⟩ rfl (Nat.le_of_ble_eq_true rfl) dL_rankAt_4 (tableOf []) ⟨0, 9, 12, 28⟩ (tableOf []) rfl (fun z hz => nomatch hz) (by decide) (by decide) (name := "java/lang/IndexOutOfBoundsException") ce_L_28 (by decide) 12 rfl (fun x_4 u_4 h_4 => ?_)
  have hu_4 := h_4
  have hw_4 := hu_4.symm
  subst hw_4
  refine cg_astore_n (lv' := [(3, .ref x_4), (0, .ref o1), (1, .int (nI n1)), (2, .ref o2)]) C (i := 3) rfl (Nat.le_of_ble_eq_true rfl) rfl dL_rankAt_12 ?_
  refine cg_iconst C (x := nI 1) rfl dL_rankAt_13 ?_
  exact cg_iret C ⟨rfl, rfl⟩ dL_rankAt_14 (by decide) (by decide)
set_option maxHeartbeats 4000000 in
set_option maxRecDepth 100000 in
theorem z434_X11_skipped (l : Launch) (hlt : l.stackTraces = false) (S : cS) (dp : Nat) (o1 o2 : Nat) (h1 : cr S 365 o1 = (some o2)) (h2 : cK S o1 = 11) (h3 : o1 ∈ cL S) (h4 : ci S 36 o2 = (nI 0)) (h5 : cK S o2 = 1) (h6 : o2 ∈ cL S) : cMet (cQi (fun r_ u_ => r_ = (nI 0) ∧ u_ = S)) l yX11_skipped cX11_skipped 1 (some .int) 0 0 0 0 [.ref o1] S dp := by
  intro D Y tp sz
  refine cg_body (by decide +kernel) (Nat.le_of_ble_eq_true rfl) ?_
  intro p e s m args below meth c C
  generalize va_A (cWd Y S) sz = A at C ⊢
  have C : cC p s m args meth c cX11_skipped 1 (some .int) A D Y tp dp RX11 := C
  refine cg_lv (lv' := [(0, .ref o1)]) rfl ?_
  refine cg_aload_n C (i := 0) rfl 0 rfl dX11_skipped_0 ?_
  refine cg_get C (k := 11) (j := 13) (.ref o2) h3 h2 (by decide) rfl (by decide) rfl (show cV _ 11 13 o1 = _ from congrArg va_rf h1) cWs_wsX110 cl_X11_80 rfl dX11_skipped_1 ?_
  refine cg_get C (k := 1) (j := 4) (.int (nI 0)) h6 h5 (by decide) rfl (by decide) rfl (show cV _ 1 4 o2 = _ from congrArg Value.int h4) cWs_wsX10 cl_X11_415 rfl dX11_skipped_4 ?_
  exact cg_iret C ⟨rfl, rfl⟩ dX11_skipped_7 (by decide) (by decide)
set_option maxHeartbeats 4000000 in
set_option maxRecDepth 100000 in
theorem z435_X11_cached (l : Launch) (hlt : l.stackTraces = false) (S : cS) (dp : Nat) (o1 o2 : Nat) (h1 : cr S 365 o1 = (some o2)) (h2 : cK S o1 = 11) (h3 : o1 ∈ cL S) (h4 : ci S 37 o2 = (nI 0)) (h5 : cK S o2 = 1) (h6 : o2 ∈ cL S) : cMet (cQi (fun r_ u_ => r_ = (nI 0) ∧ u_ = S)) l yX11_cached cX11_cached 1 (some .int) 0 0 0 0 [.ref o1] S dp := by
  intro D Y tp sz
  refine cg_body (by decide +kernel) (Nat.le_of_ble_eq_true rfl) ?_
  intro p e s m args below meth c C
  generalize va_A (cWd Y S) sz = A at C ⊢
  have C : cC p s m args meth c cX11_cached 1 (some .int) A D Y tp dp RX11 := C
  refine cg_lv (lv' := [(0, .ref o1)]) rfl ?_
  refine cg_aload_n C (i := 0) rfl 0 rfl dX11_cached_0 ?_
  refine cg_get C (k := 11) (j := 13) (.ref o2) h3 h2 (by decide) rfl (by decide) rfl (show cV _ 11 13 o1 = _ from congrArg va_rf h1) cWs_wsX110 cl_X11_80 rfl dX11_cached_1 ?_
  refine cg_get C (k := 1) (j := 5) (.int (nI 0)) h6 h5 (by decide) rfl (by decide) rfl (show cV _ 1 5 o2 = _ from congrArg Value.int h4) cWs_wsX10 cl_X11_418 rfl dX11_cached_4 ?_
  exact cg_iret C ⟨rfl, rfl⟩ dX11_cached_7 (by decide) (by decide)
set_option maxHeartbeats 4000000 in
set_option maxRecDepth 100000 in
theorem z436_X11_rankByScan (l : Launch) (hlt : l.stackTraces = false) (S : cS) (dp : Nat) (o1 o2 : Nat) (x1 x2 x3 : Int32) (h1 : cr S 360 o1 = (some o2)) (h2 : cK S o1 = 11) (h3 : o1 ∈ cL S) (h4 : ci S 386 o2 = (nI 0)) (h5 : cK S o2 = 12) (h6 : o2 ∈ cL S) : cMetX "java/lang/IndexOutOfBoundsException" (fun u_ => u_ = S) l yX11_rankByScan cX11_rankByScan 7 (some .int) 7 1 6 104 [.ref o1, .int x1, .int x2, .int x3] S dp := by
  intro D Y tp sz
  refine cg_bodyX (by decide +kernel) (Nat.le_of_ble_eq_true rfl) ?_
  intro p e s m args below meth c C hne
  generalize va_A (cWd Y S) sz = A at C ⊢
  have C : cC p s m args meth c cX11_rankByScan 7 (some .int) A D Y tp dp RX11 := C
  refine cg_lv (lv' := [(0, .ref o1), (1, .int x1), (2, .int x2), (3, .int x3)]) rfl ?_
  refine cg_aload_n C (i := 0) rfl 0 rfl dX11_rankByScan_0 ?_
  refine cg_iload_n C (i := 1) rfl 1 rfl dX11_rankByScan_1 ?_
  exact cg_callx C hne (z169_X11_snapshotOf l hlt S dp o1 o2 x1 h1 h2 h3 h4 h5 h6) cc_X11_317 h3 h2 (by decide) rfl rfl ⟨by decide, by decide⟩ ⟨by decide, by decide⟩ rfl (Nat.le_of_ble_eq_true rfl) dX11_rankByScan_2 ⟨by decide, by decide⟩ (fun u_ h_ => by
      have hu_ := h_
      exact hu_)
set_option maxHeartbeats 4000000 in
set_option maxRecDepth 100000 in
theorem z437_L_rankByScan (l : Launch) (hlt : l.stackTraces = false) (S : cS) (dp : Nat) (o1 o2 o3 : Nat) (x1 x2 x3 : Int32) (h1 : cr S 360 o1 = (some o3)) (h2 : cK S o1 = 11) (h3 : o1 ∈ cL S) (h4 : ci S 386 o3 = (nI 0)) (h5 : cK S o3 = 12) (h6 : o3 ∈ cL S) : cMetW (cQi (fun r_ u_ => r_ = (nI 1) ∧ u_ = S)) l yL_rankByScan cL_rankByScan 6 (some .int) [(0, 12, 15, 28)] 8 1 6 130 [.ref o1, .int x1, .int x2, .int x3, .ref o2] S dp := by
  intro D Y tp sz
  refine cg_bodyW (by decide +kernel) (Nat.le_of_ble_eq_true rfl) ?_
  intro p e s m args below meth c C htab
  generalize va_A (cWd Y S) sz = A at C ⊢
  have C : cC p s m args meth c cL_rankByScan 6 (some .int) A D Y tp dp RL := C
  refine cg_lv (lv' := [(0, .ref o1), (1, .int x1), (2, .int x2), (3, .int x3), (4, .ref o2)]) rfl ?_
  refine cg_aload C 4 rfl dL_rankByScan_0 ?_
  refine cg_iconst C (x := nI 0) rfl dL_rankByScan_2 ?_
  refine cg_aload_n C (i := 0) rfl 0 rfl dL_rankByScan_3 ?_
  refine cg_iload_n C (i := 1) rfl 1 rfl dL_rankByScan_4 ?_
  refine cg_iload_n C (i := 2) rfl 2 rfl dL_rankByScan_5 ?_
  refine cg_iload_n C (i := 3) rfl 3 rfl dL_rankByScan_6 ?_
  refine cg_callx_catch C htab (z436_X11_rankByScan l hlt S dp o1 o3 x1 x2 x3 h1 h2 h3 h4 h5 h6) cc_L_159 h3 h2 (by decide) rfl rfl ⟨by decide, by decide⟩ ⟨by decide, by decide⟩ rfl (Nat.le_of_ble_eq_true rfl) dL_rankByScan_7 (tableOf []) ⟨0, 12, 15, 28⟩ (tableOf []) rfl (fun z hz => nomatch hz) (by decide) (by decide) (name := "java/lang/IndexOutOfBoundsException") ce_L_28 (by decide) 15 rfl (fun x_7 u_7 h_7 => ?_)
  have hu_7 := h_7
  have hw_7 := hu_7.symm
  subst hw_7
  refine cg_astore (lv' := [(5, .ref x_7), (0, .ref o1), (1, .int x1), (2, .int x2), (3, .int x3), (4, .ref o2)]) C (Nat.le_of_ble_eq_true rfl) rfl dL_rankByScan_15 ?_
  refine cg_iconst C (x := nI 1) rfl dL_rankByScan_17 ?_
  exact cg_iret C ⟨rfl, rfl⟩ dL_rankByScan_18 (by decide) (by decide)
set_option maxHeartbeats 4000000 in
set_option maxRecDepth 100000 in
theorem z438_X11_rankByScan (l : Launch) (hlt : l.stackTraces = false) (S : cS) (dp : Nat) (o1 o2 : Nat) (x1 x2 x3 : Int32) (h1 : x1 < 0) (h2 : cr S 360 o1 = (some o2)) (h3 : cK S o1 = 11) (h4 : o1 ∈ cL S) (h5 : ci S 386 o2 = (nI 0)) (h6 : cK S o2 = 12) (h7 : o2 ∈ cL S) : cMetX "java/lang/IndexOutOfBoundsException" (fun u_ => u_ = S) l yX11_rankByScan cX11_rankByScan 7 (some .int) 7 1 6 104 [.ref o1, .int x1, .int x2, .int x3] S dp := by
  intro D Y tp sz
  refine cg_bodyX (by decide +kernel) (Nat.le_of_ble_eq_true rfl) ?_
  intro p e s m args below meth c C hne
  generalize va_A (cWd Y S) sz = A at C ⊢
  have C : cC p s m args meth c cX11_rankByScan 7 (some .int) A D Y tp dp RX11 := C
  refine cg_lv (lv' := [(0, .ref o1), (1, .int x1), (2, .int x2), (3, .int x3)]) rfl ?_
  refine cg_aload_n C (i := 0) rfl 0 rfl dX11_rankByScan_0 ?_
  refine cg_iload_n C (i := 1) rfl 1 rfl dX11_rankByScan_1 ?_
  exact cg_callx C hne (z172_X11_snapshotOf l hlt S dp o1 o2 x1 h1 h2 h3 h4 h5 h6 h7) cc_X11_317 h4 h3 (by decide) rfl rfl ⟨by decide, by decide⟩ ⟨by decide, by decide⟩ rfl (Nat.le_of_ble_eq_true rfl) dX11_rankByScan_2 ⟨by decide, by decide⟩ (fun u_ h_ => by
      have hu_ := h_
      exact hu_)
set_option maxHeartbeats 4000000 in
set_option maxRecDepth 100000 in
theorem z439_L_rankByScan (l : Launch) (hlt : l.stackTraces = false) (S : cS) (dp : Nat) (o1 o2 o3 : Nat) (x1 x2 x3 : Int32) (h1 : x1 < 0) (h2 : cr S 360 o1 = (some o3)) (h3 : cK S o1 = 11) (h4 : o1 ∈ cL S) (h5 : ci S 386 o3 = (nI 0)) (h6 : cK S o3 = 12) (h7 : o3 ∈ cL S) : cMetW (cQi (fun r_ u_ => r_ = (nI 1) ∧ u_ = S)) l yL_rankByScan cL_rankByScan 6 (some .int) [(0, 12, 15, 28)] 8 1 6 130 [.ref o1, .int x1, .int x2, .int x3, .ref o2] S dp := by
  intro D Y tp sz
  refine cg_bodyW (by decide +kernel) (Nat.le_of_ble_eq_true rfl) ?_
  intro p e s m args below meth c C htab
  generalize va_A (cWd Y S) sz = A at C ⊢
  have C : cC p s m args meth c cL_rankByScan 6 (some .int) A D Y tp dp RL := C
  refine cg_lv (lv' := [(0, .ref o1), (1, .int x1), (2, .int x2), (3, .int x3), (4, .ref o2)]) rfl ?_
  refine cg_aload C 4 rfl dL_rankByScan_0 ?_
  refine cg_iconst C (x := nI 0) rfl dL_rankByScan_2 ?_
  refine cg_aload_n C (i := 0) rfl 0 rfl dL_rankByScan_3 ?_
  refine cg_iload_n C (i := 1) rfl 1 rfl dL_rankByScan_4 ?_
  refine cg_iload_n C (i := 2) rfl 2 rfl dL_rankByScan_5 ?_
  refine cg_iload_n C (i := 3) rfl 3 rfl dL_rankByScan_6 ?_
  refine cg_callx_catch C htab (z438_X11_rankByScan l hlt S dp o1 o3 x1 x2 x3 h1 h2 h3 h4 h5 h6 h7) cc_L_159 h4 h3 (by decide) rfl rfl ⟨by decide, by decide⟩ ⟨by decide, by decide⟩ rfl (Nat.le_of_ble_eq_true rfl) dL_rankByScan_7 (tableOf []) ⟨0, 12, 15, 28⟩ (tableOf []) rfl (fun z hz => nomatch hz) (by decide) (by decide) (name := "java/lang/IndexOutOfBoundsException") ce_L_28 (by decide) 15 rfl (fun x_7 u_7 h_7 => ?_)
  have hu_7 := h_7
  have hw_7 := hu_7.symm
  subst hw_7
  refine cg_astore (lv' := [(5, .ref x_7), (0, .ref o1), (1, .int x1), (2, .int x2), (3, .int x3), (4, .ref o2)]) C (Nat.le_of_ble_eq_true rfl) rfl dL_rankByScan_15 ?_
  refine cg_iconst C (x := nI 1) rfl dL_rankByScan_17 ?_
  exact cg_iret C ⟨rfl, rfl⟩ dL_rankByScan_18 (by decide) (by decide)
set_option maxHeartbeats 4000000 in
set_option maxRecDepth 100000 in
theorem z440_X11_rankByScan (l : Launch) (hlt : l.stackTraces = false) (S : cS) (dp : Nat) (o1 o2 : Nat) (n1 : Nat) (x1 x2 : Int32) (h1 : n1 ≤ 2147483647) (h2 : cr S 360 o1 = (some o2)) (h3 : cK S o1 = 11) (h4 : o1 ∈ cL S) (h5 : ci S 386 o2 = (nI 0)) (h6 : cK S o2 = 12) (h7 : o2 ∈ cL S) : cMetX "java/lang/IndexOutOfBoundsException" (fun u_ => u_ = S) l yX11_rankByScan cX11_rankByScan 7 (some .int) 7 1 6 104 [.ref o1, .int (nI n1), .int x1, .int x2] S dp := by
  intro D Y tp sz
  refine cg_bodyX (by decide +kernel) (Nat.le_of_ble_eq_true rfl) ?_
  intro p e s m args below meth c C hne
  generalize va_A (cWd Y S) sz = A at C ⊢
  have C : cC p s m args meth c cX11_rankByScan 7 (some .int) A D Y tp dp RX11 := C
  refine cg_lv (lv' := [(0, .ref o1), (1, .int (nI n1)), (2, .int x1), (3, .int x2)]) rfl ?_
  refine cg_aload_n C (i := 0) rfl 0 rfl dX11_rankByScan_0 ?_
  refine cg_iload_n C (i := 1) rfl 1 rfl dX11_rankByScan_1 ?_
  exact cg_callx C hne (z175_X11_snapshotOf l hlt S dp o1 o2 n1 (by omega) h2 h3 h4 h5 h6 h7) cc_X11_317 h4 h3 (by decide) rfl rfl ⟨by decide, by decide⟩ ⟨by decide, by decide⟩ rfl (Nat.le_of_ble_eq_true rfl) dX11_rankByScan_2 ⟨by decide, by decide⟩ (fun u_ h_ => by
      have hu_ := h_
      exact hu_)
set_option maxHeartbeats 4000000 in
set_option maxRecDepth 100000 in
theorem z441_L_rankByScan (l : Launch) (hlt : l.stackTraces = false) (S : cS) (dp : Nat) (o1 o2 o3 : Nat) (n1 : Nat) (x1 x2 : Int32) (h1 : n1 ≤ 2147483647) (h2 : cr S 360 o1 = (some o3)) (h3 : cK S o1 = 11) (h4 : o1 ∈ cL S) (h5 : ci S 386 o3 = (nI 0)) (h6 : cK S o3 = 12) (h7 : o3 ∈ cL S) : cMetW (cQi (fun r_ u_ => r_ = (nI 1) ∧ u_ = S)) l yL_rankByScan cL_rankByScan 6 (some .int) [(0, 12, 15, 28)] 8 1 6 130 [.ref o1, .int (nI n1), .int x1, .int x2, .ref o2] S dp := by
  intro D Y tp sz
  refine cg_bodyW (by decide +kernel) (Nat.le_of_ble_eq_true rfl) ?_
  intro p e s m args below meth c C htab
  generalize va_A (cWd Y S) sz = A at C ⊢
  have C : cC p s m args meth c cL_rankByScan 6 (some .int) A D Y tp dp RL := C
  refine cg_lv (lv' := [(0, .ref o1), (1, .int (nI n1)), (2, .int x1), (3, .int x2), (4, .ref o2)]) rfl ?_
  refine cg_aload C 4 rfl dL_rankByScan_0 ?_
  refine cg_iconst C (x := nI 0) rfl dL_rankByScan_2 ?_
  refine cg_aload_n C (i := 0) rfl 0 rfl dL_rankByScan_3 ?_
  refine cg_iload_n C (i := 1) rfl 1 rfl dL_rankByScan_4 ?_
  refine cg_iload_n C (i := 2) rfl 2 rfl dL_rankByScan_5 ?_
  refine cg_iload_n C (i := 3) rfl 3 rfl dL_rankByScan_6 ?_
  refine cg_callx_catch C htab (z440_X11_rankByScan l hlt S dp o1 o3 n1 x1 x2 (by omega) h2 h3 h4 h5 h6 h7) cc_L_159 h4 h3 (by decide) rfl rfl ⟨by decide, by decide⟩ ⟨by decide, by decide⟩ rfl (Nat.le_of_ble_eq_true rfl) dL_rankByScan_7 (tableOf []) ⟨0, 12, 15, 28⟩ (tableOf []) rfl (fun z hz => nomatch hz) (by decide) (by decide) (name := "java/lang/IndexOutOfBoundsException") ce_L_28 (by decide) 15 rfl (fun x_7 u_7 h_7 => ?_)
  have hu_7 := h_7
  have hw_7 := hu_7.symm
  subst hw_7
  refine cg_astore (lv' := [(5, .ref x_7), (0, .ref o1), (1, .int (nI n1)), (2, .int x1), (3, .int x2), (4, .ref o2)]) C (Nat.le_of_ble_eq_true rfl) rfl dL_rankByScan_15 ?_
  refine cg_iconst C (x := nI 1) rfl dL_rankByScan_17 ?_
  exact cg_iret C ⟨rfl, rfl⟩ dL_rankByScan_18 (by decide) (by decide)
set_option maxHeartbeats 4000000 in
set_option maxRecDepth 100000 in
theorem z442_X11_matches (l : Launch) (hlt : l.stackTraces = false) (S : cS) (dp : Nat) (o1 o2 : Nat) (x1 x2 : Int32) (h1 : cr S 360 o1 = (some o2)) (h2 : cK S o1 = 11) (h3 : o1 ∈ cL S) (h4 : ci S 386 o2 = (nI 0)) (h5 : cK S o2 = 12) (h6 : o2 ∈ cL S) : cMetX "java/lang/IndexOutOfBoundsException" (fun u_ => u_ = S) l yX11_matches cX11_matches 5 (some .int) 7 1 6 104 [.ref o1, .int x1, .int x2] S dp := by
  intro D Y tp sz
  refine cg_bodyX (by decide +kernel) (Nat.le_of_ble_eq_true rfl) ?_
  intro p e s m args below meth c C hne
  generalize va_A (cWd Y S) sz = A at C ⊢
  have C : cC p s m args meth c cX11_matches 5 (some .int) A D Y tp dp RX11 := C
  refine cg_lv (lv' := [(0, .ref o1), (1, .int x1), (2, .int x2)]) rfl ?_
  refine cg_aload_n C (i := 0) rfl 0 rfl dX11_matches_0 ?_
  refine cg_iload_n C (i := 1) rfl 1 rfl dX11_matches_1 ?_
  exact cg_callx C hne (z169_X11_snapshotOf l hlt S dp o1 o2 x1 h1 h2 h3 h4 h5 h6) cc_X11_317 h3 h2 (by decide) rfl rfl ⟨by decide, by decide⟩ ⟨by decide, by decide⟩ rfl (Nat.le_of_ble_eq_true rfl) dX11_matches_2 ⟨by decide, by decide⟩ (fun u_ h_ => by
      have hu_ := h_
      exact hu_)
set_option maxHeartbeats 4000000 in
set_option maxRecDepth 100000 in
theorem z443_L_matches (l : Launch) (hlt : l.stackTraces = false) (S : cS) (dp : Nat) (o1 o2 o3 : Nat) (x1 x2 : Int32) (h1 : cr S 360 o1 = (some o3)) (h2 : cK S o1 = 11) (h3 : o1 ∈ cL S) (h4 : ci S 386 o3 = (nI 0)) (h5 : cK S o3 = 12) (h6 : o3 ∈ cL S) : cMetW (cQi (fun r_ u_ => r_ = (nI 1) ∧ u_ = S)) l yL_matches cL_matches 5 (some .int) [(0, 10, 13, 28)] 8 1 6 128 [.ref o1, .int x1, .int x2, .ref o2] S dp := by
  intro D Y tp sz
  refine cg_bodyW (by decide +kernel) (Nat.le_of_ble_eq_true rfl) ?_
  intro p e s m args below meth c C htab
  generalize va_A (cWd Y S) sz = A at C ⊢
  have C : cC p s m args meth c cL_matches 5 (some .int) A D Y tp dp RL := C
  refine cg_lv (lv' := [(0, .ref o1), (1, .int x1), (2, .int x2), (3, .ref o2)]) rfl ?_
  refine cg_aload_n C (i := 3) rfl 3 rfl dL_matches_0 ?_
  refine cg_iconst C (x := nI 0) rfl dL_matches_1 ?_
  refine cg_aload_n C (i := 0) rfl 0 rfl dL_matches_2 ?_
  refine cg_iload_n C (i := 1) rfl 1 rfl dL_matches_3 ?_
  refine cg_iload_n C (i := 2) rfl 2 rfl dL_matches_4 ?_
  refine cg_callx_catch C htab (z442_X11_matches l hlt S dp o1 o3 x1 x2 h1 h2 h3 h4 h5 h6) cc_L_162 h3 h2 (by decide) rfl rfl ⟨by decide, by decide⟩ ⟨by decide, by decide⟩ rfl (Nat.le_of_ble_eq_true rfl) dL_matches_5 (tableOf []) ⟨0, 10, 13, 28⟩ (tableOf []) rfl (fun z hz => nomatch hz) (by decide) (by decide) (name := "java/lang/IndexOutOfBoundsException") ce_L_28 (by decide) 13 rfl (fun x_5 u_5 h_5 => ?_)
  have hu_5 := h_5
  have hw_5 := hu_5.symm
  subst hw_5
  refine cg_astore (lv' := [(4, .ref x_5), (0, .ref o1), (1, .int x1), (2, .int x2), (3, .ref o2)]) C (Nat.le_of_ble_eq_true rfl) rfl dL_matches_13 ?_
  refine cg_iconst C (x := nI 1) rfl dL_matches_15 ?_
  exact cg_iret C ⟨rfl, rfl⟩ dL_matches_16 (by decide) (by decide)
set_option maxHeartbeats 4000000 in
set_option maxRecDepth 100000 in
theorem z444_X11_matches (l : Launch) (hlt : l.stackTraces = false) (S : cS) (dp : Nat) (o1 o2 : Nat) (x1 x2 : Int32) (h1 : x1 < 0) (h2 : cr S 360 o1 = (some o2)) (h3 : cK S o1 = 11) (h4 : o1 ∈ cL S) (h5 : ci S 386 o2 = (nI 0)) (h6 : cK S o2 = 12) (h7 : o2 ∈ cL S) : cMetX "java/lang/IndexOutOfBoundsException" (fun u_ => u_ = S) l yX11_matches cX11_matches 5 (some .int) 7 1 6 104 [.ref o1, .int x1, .int x2] S dp := by
  intro D Y tp sz
  refine cg_bodyX (by decide +kernel) (Nat.le_of_ble_eq_true rfl) ?_
  intro p e s m args below meth c C hne
  generalize va_A (cWd Y S) sz = A at C ⊢
  have C : cC p s m args meth c cX11_matches 5 (some .int) A D Y tp dp RX11 := C
  refine cg_lv (lv' := [(0, .ref o1), (1, .int x1), (2, .int x2)]) rfl ?_
  refine cg_aload_n C (i := 0) rfl 0 rfl dX11_matches_0 ?_
  refine cg_iload_n C (i := 1) rfl 1 rfl dX11_matches_1 ?_
  exact cg_callx C hne (z172_X11_snapshotOf l hlt S dp o1 o2 x1 h1 h2 h3 h4 h5 h6 h7) cc_X11_317 h4 h3 (by decide) rfl rfl ⟨by decide, by decide⟩ ⟨by decide, by decide⟩ rfl (Nat.le_of_ble_eq_true rfl) dX11_matches_2 ⟨by decide, by decide⟩ (fun u_ h_ => by
      have hu_ := h_
      exact hu_)
set_option maxHeartbeats 4000000 in
set_option maxRecDepth 100000 in
theorem z445_L_matches (l : Launch) (hlt : l.stackTraces = false) (S : cS) (dp : Nat) (o1 o2 o3 : Nat) (x1 x2 : Int32) (h1 : x1 < 0) (h2 : cr S 360 o1 = (some o3)) (h3 : cK S o1 = 11) (h4 : o1 ∈ cL S) (h5 : ci S 386 o3 = (nI 0)) (h6 : cK S o3 = 12) (h7 : o3 ∈ cL S) : cMetW (cQi (fun r_ u_ => r_ = (nI 1) ∧ u_ = S)) l yL_matches cL_matches 5 (some .int) [(0, 10, 13, 28)] 8 1 6 128 [.ref o1, .int x1, .int x2, .ref o2] S dp := by
  intro D Y tp sz
  refine cg_bodyW (by decide +kernel) (Nat.le_of_ble_eq_true rfl) ?_
  intro p e s m args below meth c C htab
  generalize va_A (cWd Y S) sz = A at C ⊢
  have C : cC p s m args meth c cL_matches 5 (some .int) A D Y tp dp RL := C
  refine cg_lv (lv' := [(0, .ref o1), (1, .int x1), (2, .int x2), (3, .ref o2)]) rfl ?_
  refine cg_aload_n C (i := 3) rfl 3 rfl dL_matches_0 ?_
  refine cg_iconst C (x := nI 0) rfl dL_matches_1 ?_
  refine cg_aload_n C (i := 0) rfl 0 rfl dL_matches_2 ?_
  refine cg_iload_n C (i := 1) rfl 1 rfl dL_matches_3 ?_
  refine cg_iload_n C (i := 2) rfl 2 rfl dL_matches_4 ?_
  refine cg_callx_catch C htab (z444_X11_matches l hlt S dp o1 o3 x1 x2 h1 h2 h3 h4 h5 h6 h7) cc_L_162 h4 h3 (by decide) rfl rfl ⟨by decide, by decide⟩ ⟨by decide, by decide⟩ rfl (Nat.le_of_ble_eq_true rfl) dL_matches_5 (tableOf []) ⟨0, 10, 13, 28⟩ (tableOf []) rfl (fun z hz => nomatch hz) (by decide) (by decide) (name := "java/lang/IndexOutOfBoundsException") ce_L_28 (by decide) 13 rfl (fun x_5 u_5 h_5 => ?_)
  have hu_5 := h_5
  have hw_5 := hu_5.symm
  subst hw_5
  refine cg_astore (lv' := [(4, .ref x_5), (0, .ref o1), (1, .int x1), (2, .int x2), (3, .ref o2)]) C (Nat.le_of_ble_eq_true rfl) rfl dL_matches_13 ?_
  refine cg_iconst C (x := nI 1) rfl dL_matches_15 ?_
  exact cg_iret C ⟨rfl, rfl⟩ dL_matches_16 (by decide) (by decide)
set_option maxHeartbeats 4000000 in
set_option maxRecDepth 100000 in
theorem z446_X11_matches (l : Launch) (hlt : l.stackTraces = false) (S : cS) (dp : Nat) (o1 o2 : Nat) (n1 : Nat) (x1 : Int32) (h1 : n1 ≤ 2147483647) (h2 : cr S 360 o1 = (some o2)) (h3 : cK S o1 = 11) (h4 : o1 ∈ cL S) (h5 : ci S 386 o2 = (nI 0)) (h6 : cK S o2 = 12) (h7 : o2 ∈ cL S) : cMetX "java/lang/IndexOutOfBoundsException" (fun u_ => u_ = S) l yX11_matches cX11_matches 5 (some .int) 7 1 6 104 [.ref o1, .int (nI n1), .int x1] S dp := by
  intro D Y tp sz
  refine cg_bodyX (by decide +kernel) (Nat.le_of_ble_eq_true rfl) ?_
  intro p e s m args below meth c C hne
  generalize va_A (cWd Y S) sz = A at C ⊢
  have C : cC p s m args meth c cX11_matches 5 (some .int) A D Y tp dp RX11 := C
  refine cg_lv (lv' := [(0, .ref o1), (1, .int (nI n1)), (2, .int x1)]) rfl ?_
  refine cg_aload_n C (i := 0) rfl 0 rfl dX11_matches_0 ?_
  refine cg_iload_n C (i := 1) rfl 1 rfl dX11_matches_1 ?_
  exact cg_callx C hne (z175_X11_snapshotOf l hlt S dp o1 o2 n1 (by omega) h2 h3 h4 h5 h6 h7) cc_X11_317 h4 h3 (by decide) rfl rfl ⟨by decide, by decide⟩ ⟨by decide, by decide⟩ rfl (Nat.le_of_ble_eq_true rfl) dX11_matches_2 ⟨by decide, by decide⟩ (fun u_ h_ => by
      have hu_ := h_
      exact hu_)
set_option maxHeartbeats 4000000 in
set_option maxRecDepth 100000 in
theorem z447_L_matches (l : Launch) (hlt : l.stackTraces = false) (S : cS) (dp : Nat) (o1 o2 o3 : Nat) (n1 : Nat) (x1 : Int32) (h1 : n1 ≤ 2147483647) (h2 : cr S 360 o1 = (some o3)) (h3 : cK S o1 = 11) (h4 : o1 ∈ cL S) (h5 : ci S 386 o3 = (nI 0)) (h6 : cK S o3 = 12) (h7 : o3 ∈ cL S) : cMetW (cQi (fun r_ u_ => r_ = (nI 1) ∧ u_ = S)) l yL_matches cL_matches 5 (some .int) [(0, 10, 13, 28)] 8 1 6 128 [.ref o1, .int (nI n1), .int x1, .ref o2] S dp := by
  intro D Y tp sz
  refine cg_bodyW (by decide +kernel) (Nat.le_of_ble_eq_true rfl) ?_
  intro p e s m args below meth c C htab
  generalize va_A (cWd Y S) sz = A at C ⊢
  have C : cC p s m args meth c cL_matches 5 (some .int) A D Y tp dp RL := C
  refine cg_lv (lv' := [(0, .ref o1), (1, .int (nI n1)), (2, .int x1), (3, .ref o2)]) rfl ?_
  refine cg_aload_n C (i := 3) rfl 3 rfl dL_matches_0 ?_
  refine cg_iconst C (x := nI 0) rfl dL_matches_1 ?_
  refine cg_aload_n C (i := 0) rfl 0 rfl dL_matches_2 ?_
  refine cg_iload_n C (i := 1) rfl 1 rfl dL_matches_3 ?_
  refine cg_iload_n C (i := 2) rfl 2 rfl dL_matches_4 ?_
  refine cg_callx_catch C htab (z446_X11_matches l hlt S dp o1 o3 n1 x1 (by omega) h2 h3 h4 h5 h6 h7) cc_L_162 h4 h3 (by decide) rfl rfl ⟨by decide, by decide⟩ ⟨by decide, by decide⟩ rfl (Nat.le_of_ble_eq_true rfl) dL_matches_5 (tableOf []) ⟨0, 10, 13, 28⟩ (tableOf []) rfl (fun z hz => nomatch hz) (by decide) (by decide) (name := "java/lang/IndexOutOfBoundsException") ce_L_28 (by decide) 13 rfl (fun x_5 u_5 h_5 => ?_)
  have hu_5 := h_5
  have hw_5 := hu_5.symm
  subst hw_5
  refine cg_astore (lv' := [(4, .ref x_5), (0, .ref o1), (1, .int (nI n1)), (2, .int x1), (3, .ref o2)]) C (Nat.le_of_ble_eq_true rfl) rfl dL_matches_13 ?_
  refine cg_iconst C (x := nI 1) rfl dL_matches_15 ?_
  exact cg_iret C ⟨rfl, rfl⟩ dL_matches_16 (by decide) (by decide)
set_option maxHeartbeats 4000000 in
set_option maxRecDepth 100000 in
theorem z448_X11_matchesByScan (l : Launch) (hlt : l.stackTraces = false) (S : cS) (dp : Nat) (o1 o2 : Nat) (x1 x2 : Int32) (h1 : cr S 360 o1 = (some o2)) (h2 : cK S o1 = 11) (h3 : o1 ∈ cL S) (h4 : ci S 386 o2 = (nI 0)) (h5 : cK S o2 = 12) (h6 : o2 ∈ cL S) : cMetX "java/lang/IndexOutOfBoundsException" (fun u_ => u_ = S) l yX11_matchesByScan cX11_matchesByScan 5 (some .int) 7 1 6 104 [.ref o1, .int x1, .int x2] S dp := by
  intro D Y tp sz
  refine cg_bodyX (by decide +kernel) (Nat.le_of_ble_eq_true rfl) ?_
  intro p e s m args below meth c C hne
  generalize va_A (cWd Y S) sz = A at C ⊢
  have C : cC p s m args meth c cX11_matchesByScan 5 (some .int) A D Y tp dp RX11 := C
  refine cg_lv (lv' := [(0, .ref o1), (1, .int x1), (2, .int x2)]) rfl ?_
  refine cg_aload_n C (i := 0) rfl 0 rfl dX11_matchesByScan_0 ?_
  refine cg_iload_n C (i := 1) rfl 1 rfl dX11_matchesByScan_1 ?_
  exact cg_callx C hne (z169_X11_snapshotOf l hlt S dp o1 o2 x1 h1 h2 h3 h4 h5 h6) cc_X11_317 h3 h2 (by decide) rfl rfl ⟨by decide, by decide⟩ ⟨by decide, by decide⟩ rfl (Nat.le_of_ble_eq_true rfl) dX11_matchesByScan_2 ⟨by decide, by decide⟩ (fun u_ h_ => by
      have hu_ := h_
      exact hu_)
set_option maxHeartbeats 4000000 in
set_option maxRecDepth 100000 in
theorem z449_L_matchesByScan (l : Launch) (hlt : l.stackTraces = false) (S : cS) (dp : Nat) (o1 o2 o3 : Nat) (x1 x2 : Int32) (h1 : cr S 360 o1 = (some o3)) (h2 : cK S o1 = 11) (h3 : o1 ∈ cL S) (h4 : ci S 386 o3 = (nI 0)) (h5 : cK S o3 = 12) (h6 : o3 ∈ cL S) : cMetW (cQi (fun r_ u_ => r_ = (nI 1) ∧ u_ = S)) l yL_matchesByScan cL_matchesByScan 5 (some .int) [(0, 10, 13, 28)] 8 1 6 128 [.ref o1, .int x1, .int x2, .ref o2] S dp := by
  intro D Y tp sz
  refine cg_bodyW (by decide +kernel) (Nat.le_of_ble_eq_true rfl) ?_
  intro p e s m args below meth c C htab
  generalize va_A (cWd Y S) sz = A at C ⊢
  have C : cC p s m args meth c cL_matchesByScan 5 (some .int) A D Y tp dp RL := C
  refine cg_lv (lv' := [(0, .ref o1), (1, .int x1), (2, .int x2), (3, .ref o2)]) rfl ?_
  refine cg_aload_n C (i := 3) rfl 3 rfl dL_matchesByScan_0 ?_
  refine cg_iconst C (x := nI 0) rfl dL_matchesByScan_1 ?_
  refine cg_aload_n C (i := 0) rfl 0 rfl dL_matchesByScan_2 ?_
  refine cg_iload_n C (i := 1) rfl 1 rfl dL_matchesByScan_3 ?_
  refine cg_iload_n C (i := 2) rfl 2 rfl dL_matchesByScan_4 ?_
  refine cg_callx_catch C htab (z448_X11_matchesByScan l hlt S dp o1 o3 x1 x2 h1 h2 h3 h4 h5 h6) cc_L_165 h3 h2 (by decide) rfl rfl ⟨by decide, by decide⟩ ⟨by decide, by decide⟩ rfl (Nat.le_of_ble_eq_true rfl) dL_matchesByScan_5 (tableOf []) ⟨0, 10, 13, 28⟩ (tableOf []) rfl (fun z hz => nomatch hz) (by decide) (by decide) (name := "java/lang/IndexOutOfBoundsException") ce_L_28 (by decide) 13 rfl (fun x_5 u_5 h_5 => ?_)
  have hu_5 := h_5
  have hw_5 := hu_5.symm
  subst hw_5
  refine cg_astore (lv' := [(4, .ref x_5), (0, .ref o1), (1, .int x1), (2, .int x2), (3, .ref o2)]) C (Nat.le_of_ble_eq_true rfl) rfl dL_matchesByScan_13 ?_
  refine cg_iconst C (x := nI 1) rfl dL_matchesByScan_15 ?_
  exact cg_iret C ⟨rfl, rfl⟩ dL_matchesByScan_16 (by decide) (by decide)
set_option maxHeartbeats 4000000 in
set_option maxRecDepth 100000 in
theorem z450_X11_matchesByScan (l : Launch) (hlt : l.stackTraces = false) (S : cS) (dp : Nat) (o1 o2 : Nat) (x1 x2 : Int32) (h1 : x1 < 0) (h2 : cr S 360 o1 = (some o2)) (h3 : cK S o1 = 11) (h4 : o1 ∈ cL S) (h5 : ci S 386 o2 = (nI 0)) (h6 : cK S o2 = 12) (h7 : o2 ∈ cL S) : cMetX "java/lang/IndexOutOfBoundsException" (fun u_ => u_ = S) l yX11_matchesByScan cX11_matchesByScan 5 (some .int) 7 1 6 104 [.ref o1, .int x1, .int x2] S dp := by
  intro D Y tp sz
  refine cg_bodyX (by decide +kernel) (Nat.le_of_ble_eq_true rfl) ?_
  intro p e s m args below meth c C hne
  generalize va_A (cWd Y S) sz = A at C ⊢
  have C : cC p s m args meth c cX11_matchesByScan 5 (some .int) A D Y tp dp RX11 := C
  refine cg_lv (lv' := [(0, .ref o1), (1, .int x1), (2, .int x2)]) rfl ?_
  refine cg_aload_n C (i := 0) rfl 0 rfl dX11_matchesByScan_0 ?_
  refine cg_iload_n C (i := 1) rfl 1 rfl dX11_matchesByScan_1 ?_
  exact cg_callx C hne (z172_X11_snapshotOf l hlt S dp o1 o2 x1 h1 h2 h3 h4 h5 h6 h7) cc_X11_317 h4 h3 (by decide) rfl rfl ⟨by decide, by decide⟩ ⟨by decide, by decide⟩ rfl (Nat.le_of_ble_eq_true rfl) dX11_matchesByScan_2 ⟨by decide, by decide⟩ (fun u_ h_ => by
      have hu_ := h_
      exact hu_)
set_option maxHeartbeats 4000000 in
set_option maxRecDepth 100000 in
theorem z451_L_matchesByScan (l : Launch) (hlt : l.stackTraces = false) (S : cS) (dp : Nat) (o1 o2 o3 : Nat) (x1 x2 : Int32) (h1 : x1 < 0) (h2 : cr S 360 o1 = (some o3)) (h3 : cK S o1 = 11) (h4 : o1 ∈ cL S) (h5 : ci S 386 o3 = (nI 0)) (h6 : cK S o3 = 12) (h7 : o3 ∈ cL S) : cMetW (cQi (fun r_ u_ => r_ = (nI 1) ∧ u_ = S)) l yL_matchesByScan cL_matchesByScan 5 (some .int) [(0, 10, 13, 28)] 8 1 6 128 [.ref o1, .int x1, .int x2, .ref o2] S dp := by
  intro D Y tp sz
  refine cg_bodyW (by decide +kernel) (Nat.le_of_ble_eq_true rfl) ?_
  intro p e s m args below meth c C htab
  generalize va_A (cWd Y S) sz = A at C ⊢
  have C : cC p s m args meth c cL_matchesByScan 5 (some .int) A D Y tp dp RL := C
  refine cg_lv (lv' := [(0, .ref o1), (1, .int x1), (2, .int x2), (3, .ref o2)]) rfl ?_
  refine cg_aload_n C (i := 3) rfl 3 rfl dL_matchesByScan_0 ?_
  refine cg_iconst C (x := nI 0) rfl dL_matchesByScan_1 ?_
  refine cg_aload_n C (i := 0) rfl 0 rfl dL_matchesByScan_2 ?_
  refine cg_iload_n C (i := 1) rfl 1 rfl dL_matchesByScan_3 ?_
  refine cg_iload_n C (i := 2) rfl 2 rfl dL_matchesByScan_4 ?_
  refine cg_callx_catch C htab (z450_X11_matchesByScan l hlt S dp o1 o3 x1 x2 h1 h2 h3 h4 h5 h6 h7) cc_L_165 h4 h3 (by decide) rfl rfl ⟨by decide, by decide⟩ ⟨by decide, by decide⟩ rfl (Nat.le_of_ble_eq_true rfl) dL_matchesByScan_5 (tableOf []) ⟨0, 10, 13, 28⟩ (tableOf []) rfl (fun z hz => nomatch hz) (by decide) (by decide) (name := "java/lang/IndexOutOfBoundsException") ce_L_28 (by decide) 13 rfl (fun x_5 u_5 h_5 => ?_)
  have hu_5 := h_5
  have hw_5 := hu_5.symm
  subst hw_5
  refine cg_astore (lv' := [(4, .ref x_5), (0, .ref o1), (1, .int x1), (2, .int x2), (3, .ref o2)]) C (Nat.le_of_ble_eq_true rfl) rfl dL_matchesByScan_13 ?_
  refine cg_iconst C (x := nI 1) rfl dL_matchesByScan_15 ?_
  exact cg_iret C ⟨rfl, rfl⟩ dL_matchesByScan_16 (by decide) (by decide)
set_option maxHeartbeats 4000000 in
set_option maxRecDepth 100000 in
theorem z452_X11_matchesByScan (l : Launch) (hlt : l.stackTraces = false) (S : cS) (dp : Nat) (o1 o2 : Nat) (n1 : Nat) (x1 : Int32) (h1 : n1 ≤ 2147483647) (h2 : cr S 360 o1 = (some o2)) (h3 : cK S o1 = 11) (h4 : o1 ∈ cL S) (h5 : ci S 386 o2 = (nI 0)) (h6 : cK S o2 = 12) (h7 : o2 ∈ cL S) : cMetX "java/lang/IndexOutOfBoundsException" (fun u_ => u_ = S) l yX11_matchesByScan cX11_matchesByScan 5 (some .int) 7 1 6 104 [.ref o1, .int (nI n1), .int x1] S dp := by
  intro D Y tp sz
  refine cg_bodyX (by decide +kernel) (Nat.le_of_ble_eq_true rfl) ?_
  intro p e s m args below meth c C hne
  generalize va_A (cWd Y S) sz = A at C ⊢
  have C : cC p s m args meth c cX11_matchesByScan 5 (some .int) A D Y tp dp RX11 := C
  refine cg_lv (lv' := [(0, .ref o1), (1, .int (nI n1)), (2, .int x1)]) rfl ?_
  refine cg_aload_n C (i := 0) rfl 0 rfl dX11_matchesByScan_0 ?_
  refine cg_iload_n C (i := 1) rfl 1 rfl dX11_matchesByScan_1 ?_
  exact cg_callx C hne (z175_X11_snapshotOf l hlt S dp o1 o2 n1 (by omega) h2 h3 h4 h5 h6 h7) cc_X11_317 h4 h3 (by decide) rfl rfl ⟨by decide, by decide⟩ ⟨by decide, by decide⟩ rfl (Nat.le_of_ble_eq_true rfl) dX11_matchesByScan_2 ⟨by decide, by decide⟩ (fun u_ h_ => by
      have hu_ := h_
      exact hu_)
set_option maxHeartbeats 4000000 in
set_option maxRecDepth 100000 in
theorem z453_L_matchesByScan (l : Launch) (hlt : l.stackTraces = false) (S : cS) (dp : Nat) (o1 o2 o3 : Nat) (n1 : Nat) (x1 : Int32) (h1 : n1 ≤ 2147483647) (h2 : cr S 360 o1 = (some o3)) (h3 : cK S o1 = 11) (h4 : o1 ∈ cL S) (h5 : ci S 386 o3 = (nI 0)) (h6 : cK S o3 = 12) (h7 : o3 ∈ cL S) : cMetW (cQi (fun r_ u_ => r_ = (nI 1) ∧ u_ = S)) l yL_matchesByScan cL_matchesByScan 5 (some .int) [(0, 10, 13, 28)] 8 1 6 128 [.ref o1, .int (nI n1), .int x1, .ref o2] S dp := by
  intro D Y tp sz
  refine cg_bodyW (by decide +kernel) (Nat.le_of_ble_eq_true rfl) ?_
  intro p e s m args below meth c C htab
  generalize va_A (cWd Y S) sz = A at C ⊢
  have C : cC p s m args meth c cL_matchesByScan 5 (some .int) A D Y tp dp RL := C
  refine cg_lv (lv' := [(0, .ref o1), (1, .int (nI n1)), (2, .int x1), (3, .ref o2)]) rfl ?_
  refine cg_aload_n C (i := 3) rfl 3 rfl dL_matchesByScan_0 ?_
  refine cg_iconst C (x := nI 0) rfl dL_matchesByScan_1 ?_
  refine cg_aload_n C (i := 0) rfl 0 rfl dL_matchesByScan_2 ?_
  refine cg_iload_n C (i := 1) rfl 1 rfl dL_matchesByScan_3 ?_
  refine cg_iload_n C (i := 2) rfl 2 rfl dL_matchesByScan_4 ?_
  refine cg_callx_catch C htab (z452_X11_matchesByScan l hlt S dp o1 o3 n1 x1 (by omega) h2 h3 h4 h5 h6 h7) cc_L_165 h4 h3 (by decide) rfl rfl ⟨by decide, by decide⟩ ⟨by decide, by decide⟩ rfl (Nat.le_of_ble_eq_true rfl) dL_matchesByScan_5 (tableOf []) ⟨0, 10, 13, 28⟩ (tableOf []) rfl (fun z hz => nomatch hz) (by decide) (by decide) (name := "java/lang/IndexOutOfBoundsException") ce_L_28 (by decide) 13 rfl (fun x_5 u_5 h_5 => ?_)
  have hu_5 := h_5
  have hw_5 := hu_5.symm
  subst hw_5
  refine cg_astore (lv' := [(4, .ref x_5), (0, .ref o1), (1, .int (nI n1)), (2, .int x1), (3, .ref o2)]) C (Nat.le_of_ble_eq_true rfl) rfl dL_matchesByScan_13 ?_
  refine cg_iconst C (x := nI 1) rfl dL_matchesByScan_15 ?_
  exact cg_iret C ⟨rfl, rfl⟩ dL_matchesByScan_16 (by decide) (by decide)
set_option maxHeartbeats 4000000 in
set_option maxRecDepth 100000 in
theorem z454_X11_facet (l : Launch) (hlt : l.stackTraces = false) (S : cS) (dp : Nat) (o1 o2 : Nat) (x1 x2 x3 : Int32) (h1 : cr S 360 o1 = (some o2)) (h2 : cK S o1 = 11) (h3 : o1 ∈ cL S) (h4 : ci S 386 o2 = (nI 0)) (h5 : cK S o2 = 12) (h6 : o2 ∈ cL S) : cMetX "java/lang/IndexOutOfBoundsException" (fun u_ => u_ = S) l yX11_facet cX11_facet 9 (some .int) 7 1 6 104 [.ref o1, .int x1, .int x2, .int x3] S dp := by
  intro D Y tp sz
  refine cg_bodyX (by decide +kernel) (Nat.le_of_ble_eq_true rfl) ?_
  intro p e s m args below meth c C hne
  generalize va_A (cWd Y S) sz = A at C ⊢
  have C : cC p s m args meth c cX11_facet 9 (some .int) A D Y tp dp RX11 := C
  refine cg_lv (lv' := [(0, .ref o1), (1, .int x1), (2, .int x2), (3, .int x3)]) rfl ?_
  refine cg_aload_n C (i := 0) rfl 0 rfl dX11_facet_0 ?_
  refine cg_iload_n C (i := 1) rfl 1 rfl dX11_facet_1 ?_
  exact cg_callx C hne (z169_X11_snapshotOf l hlt S dp o1 o2 x1 h1 h2 h3 h4 h5 h6) cc_X11_317 h3 h2 (by decide) rfl rfl ⟨by decide, by decide⟩ ⟨by decide, by decide⟩ rfl (Nat.le_of_ble_eq_true rfl) dX11_facet_2 ⟨by decide, by decide⟩ (fun u_ h_ => by
      have hu_ := h_
      exact hu_)
set_option maxHeartbeats 4000000 in
set_option maxRecDepth 100000 in
theorem z455_L_facet (l : Launch) (hlt : l.stackTraces = false) (S : cS) (dp : Nat) (o1 o2 o3 : Nat) (x1 x2 x3 : Int32) (h1 : cr S 360 o1 = (some o3)) (h2 : cK S o1 = 11) (h3 : o1 ∈ cL S) (h4 : ci S 386 o3 = (nI 0)) (h5 : cK S o3 = 12) (h6 : o3 ∈ cL S) : cMetW (cQi (fun r_ u_ => r_ = (nI 1) ∧ u_ = S)) l yL_facet cL_facet 6 (some .int) [(0, 12, 15, 28), (0, 12, 19, 13)] 8 1 6 132 [.ref o1, .int x1, .int x2, .int x3, .ref o2] S dp := by
  intro D Y tp sz
  refine cg_bodyW (by decide +kernel) (Nat.le_of_ble_eq_true rfl) ?_
  intro p e s m args below meth c C htab
  generalize va_A (cWd Y S) sz = A at C ⊢
  have C : cC p s m args meth c cL_facet 6 (some .int) A D Y tp dp RL := C
  refine cg_lv (lv' := [(0, .ref o1), (1, .int x1), (2, .int x2), (3, .int x3), (4, .ref o2)]) rfl ?_
  refine cg_aload C 4 rfl dL_facet_0 ?_
  refine cg_iconst C (x := nI 0) rfl dL_facet_2 ?_
  refine cg_aload_n C (i := 0) rfl 0 rfl dL_facet_3 ?_
  refine cg_iload_n C (i := 1) rfl 1 rfl dL_facet_4 ?_
  refine cg_iload_n C (i := 2) rfl 2 rfl dL_facet_5 ?_
  refine cg_iload_n C (i := 3) rfl 3 rfl dL_facet_6 ?_
  refine cg_callx_catch C htab (z454_X11_facet l hlt S dp o1 o3 x1 x2 x3 h1 h2 h3 h4 h5 h6) cc_L_168 h3 h2 (by decide) rfl rfl ⟨by decide, by decide⟩ ⟨by decide, by decide⟩ rfl (Nat.le_of_ble_eq_true rfl) dL_facet_7 (tableOf []) ⟨0, 12, 15, 28⟩ (tableOf [(0, 12, 19, 13)]) rfl (fun z hz => nomatch hz) (by decide) (by decide) (name := "java/lang/IndexOutOfBoundsException") ce_L_28 (by decide) 15 rfl (fun x_7 u_7 h_7 => ?_)
  have hu_7 := h_7
  have hw_7 := hu_7.symm
  subst hw_7
  refine cg_astore (lv' := [(5, .ref x_7), (0, .ref o1), (1, .int x1), (2, .int x2), (3, .int x3), (4, .ref o2)]) C (Nat.le_of_ble_eq_true rfl) rfl dL_facet_15 ?_
  refine cg_iconst C (x := nI 1) rfl dL_facet_17 ?_
  exact cg_iret C ⟨rfl, rfl⟩ dL_facet_18 (by decide) (by decide)
set_option maxHeartbeats 4000000 in
set_option maxRecDepth 100000 in
theorem z456_X11_facet (l : Launch) (hlt : l.stackTraces = false) (S : cS) (dp : Nat) (o1 o2 : Nat) (x1 x2 x3 : Int32) (h1 : x1 < 0) (h2 : cr S 360 o1 = (some o2)) (h3 : cK S o1 = 11) (h4 : o1 ∈ cL S) (h5 : ci S 386 o2 = (nI 0)) (h6 : cK S o2 = 12) (h7 : o2 ∈ cL S) : cMetX "java/lang/IndexOutOfBoundsException" (fun u_ => u_ = S) l yX11_facet cX11_facet 9 (some .int) 7 1 6 104 [.ref o1, .int x1, .int x2, .int x3] S dp := by
  intro D Y tp sz
  refine cg_bodyX (by decide +kernel) (Nat.le_of_ble_eq_true rfl) ?_
  intro p e s m args below meth c C hne
  generalize va_A (cWd Y S) sz = A at C ⊢
  have C : cC p s m args meth c cX11_facet 9 (some .int) A D Y tp dp RX11 := C
  refine cg_lv (lv' := [(0, .ref o1), (1, .int x1), (2, .int x2), (3, .int x3)]) rfl ?_
  refine cg_aload_n C (i := 0) rfl 0 rfl dX11_facet_0 ?_
  refine cg_iload_n C (i := 1) rfl 1 rfl dX11_facet_1 ?_
  exact cg_callx C hne (z172_X11_snapshotOf l hlt S dp o1 o2 x1 h1 h2 h3 h4 h5 h6 h7) cc_X11_317 h4 h3 (by decide) rfl rfl ⟨by decide, by decide⟩ ⟨by decide, by decide⟩ rfl (Nat.le_of_ble_eq_true rfl) dX11_facet_2 ⟨by decide, by decide⟩ (fun u_ h_ => by
      have hu_ := h_
      exact hu_)
set_option maxHeartbeats 4000000 in
set_option maxRecDepth 100000 in
theorem z457_L_facet (l : Launch) (hlt : l.stackTraces = false) (S : cS) (dp : Nat) (o1 o2 o3 : Nat) (x1 x2 x3 : Int32) (h1 : x1 < 0) (h2 : cr S 360 o1 = (some o3)) (h3 : cK S o1 = 11) (h4 : o1 ∈ cL S) (h5 : ci S 386 o3 = (nI 0)) (h6 : cK S o3 = 12) (h7 : o3 ∈ cL S) : cMetW (cQi (fun r_ u_ => r_ = (nI 1) ∧ u_ = S)) l yL_facet cL_facet 6 (some .int) [(0, 12, 15, 28), (0, 12, 19, 13)] 8 1 6 132 [.ref o1, .int x1, .int x2, .int x3, .ref o2] S dp := by
  intro D Y tp sz
  refine cg_bodyW (by decide +kernel) (Nat.le_of_ble_eq_true rfl) ?_
  intro p e s m args below meth c C htab
  generalize va_A (cWd Y S) sz = A at C ⊢
  have C : cC p s m args meth c cL_facet 6 (some .int) A D Y tp dp RL := C
  refine cg_lv (lv' := [(0, .ref o1), (1, .int x1), (2, .int x2), (3, .int x3), (4, .ref o2)]) rfl ?_
  refine cg_aload C 4 rfl dL_facet_0 ?_
  refine cg_iconst C (x := nI 0) rfl dL_facet_2 ?_
  refine cg_aload_n C (i := 0) rfl 0 rfl dL_facet_3 ?_
  refine cg_iload_n C (i := 1) rfl 1 rfl dL_facet_4 ?_
  refine cg_iload_n C (i := 2) rfl 2 rfl dL_facet_5 ?_
  refine cg_iload_n C (i := 3) rfl 3 rfl dL_facet_6 ?_
  refine cg_callx_catch C htab (z456_X11_facet l hlt S dp o1 o3 x1 x2 x3 h1 h2 h3 h4 h5 h6 h7) cc_L_168 h4 h3 (by decide) rfl rfl ⟨by decide, by decide⟩ ⟨by decide, by decide⟩ rfl (Nat.le_of_ble_eq_true rfl) dL_facet_7 (tableOf []) ⟨0, 12, 15, 28⟩ (tableOf [(0, 12, 19, 13)]) rfl (fun z hz => nomatch hz) (by decide) (by decide) (name := "java/lang/IndexOutOfBoundsException") ce_L_28 (by decide) 15 rfl (fun x_7 u_7 h_7 => ?_)
  have hu_7 := h_7
  have hw_7 := hu_7.symm
  subst hw_7
  refine cg_astore (lv' := [(5, .ref x_7), (0, .ref o1), (1, .int x1), (2, .int x2), (3, .int x3), (4, .ref o2)]) C (Nat.le_of_ble_eq_true rfl) rfl dL_facet_15 ?_
  refine cg_iconst C (x := nI 1) rfl dL_facet_17 ?_
  exact cg_iret C ⟨rfl, rfl⟩ dL_facet_18 (by decide) (by decide)
set_option maxHeartbeats 4000000 in
set_option maxRecDepth 100000 in
theorem z458_X11_facet (l : Launch) (hlt : l.stackTraces = false) (S : cS) (dp : Nat) (o1 o2 : Nat) (x1 x2 x3 : Int32) (h1 : x1 < 0) (h2 : x3 < 0) (h3 : cr S 360 o1 = (some o2)) (h4 : cK S o1 = 11) (h5 : o1 ∈ cL S) (h6 : ci S 386 o2 = (nI 0)) (h7 : cK S o2 = 12) (h8 : o2 ∈ cL S) : cMetX "java/lang/IndexOutOfBoundsException" (fun u_ => u_ = S) l yX11_facet cX11_facet 9 (some .int) 7 1 6 104 [.ref o1, .int x1, .int x2, .int x3] S dp := by
  intro D Y tp sz
  refine cg_bodyX (by decide +kernel) (Nat.le_of_ble_eq_true rfl) ?_
  intro p e s m args below meth c C hne
  generalize va_A (cWd Y S) sz = A at C ⊢
  have C : cC p s m args meth c cX11_facet 9 (some .int) A D Y tp dp RX11 := C
  refine cg_lv (lv' := [(0, .ref o1), (1, .int x1), (2, .int x2), (3, .int x3)]) rfl ?_
  refine cg_aload_n C (i := 0) rfl 0 rfl dX11_facet_0 ?_
  refine cg_iload_n C (i := 1) rfl 1 rfl dX11_facet_1 ?_
  exact cg_callx C hne (z172_X11_snapshotOf l hlt S dp o1 o2 x1 h1 h3 h4 h5 h6 h7 h8) cc_X11_317 h5 h4 (by decide) rfl rfl ⟨by decide, by decide⟩ ⟨by decide, by decide⟩ rfl (Nat.le_of_ble_eq_true rfl) dX11_facet_2 ⟨by decide, by decide⟩ (fun u_ h_ => by
      have hu_ := h_
      exact hu_)
set_option maxHeartbeats 4000000 in
set_option maxRecDepth 100000 in
theorem z459_L_facet (l : Launch) (hlt : l.stackTraces = false) (S : cS) (dp : Nat) (o1 o2 o3 : Nat) (x1 x2 x3 : Int32) (h1 : x1 < 0) (h2 : x3 < 0) (h3 : cr S 360 o1 = (some o3)) (h4 : cK S o1 = 11) (h5 : o1 ∈ cL S) (h6 : ci S 386 o3 = (nI 0)) (h7 : cK S o3 = 12) (h8 : o3 ∈ cL S) : cMetW (cQi (fun r_ u_ => r_ = (nI 1) ∧ u_ = S)) l yL_facet cL_facet 6 (some .int) [(0, 12, 15, 28), (0, 12, 19, 13)] 8 1 6 132 [.ref o1, .int x1, .int x2, .int x3, .ref o2] S dp := by
  intro D Y tp sz
  refine cg_bodyW (by decide +kernel) (Nat.le_of_ble_eq_true rfl) ?_
  intro p e s m args below meth c C htab
  generalize va_A (cWd Y S) sz = A at C ⊢
  have C : cC p s m args meth c cL_facet 6 (some .int) A D Y tp dp RL := C
  refine cg_lv (lv' := [(0, .ref o1), (1, .int x1), (2, .int x2), (3, .int x3), (4, .ref o2)]) rfl ?_
  refine cg_aload C 4 rfl dL_facet_0 ?_
  refine cg_iconst C (x := nI 0) rfl dL_facet_2 ?_
  refine cg_aload_n C (i := 0) rfl 0 rfl dL_facet_3 ?_
  refine cg_iload_n C (i := 1) rfl 1 rfl dL_facet_4 ?_
  refine cg_iload_n C (i := 2) rfl 2 rfl dL_facet_5 ?_
  refine cg_iload_n C (i := 3) rfl 3 rfl dL_facet_6 ?_
  refine cg_callx_catch C htab (z458_X11_facet l hlt S dp o1 o3 x1 x2 x3 h1 h2 h3 h4 h5 h6 h7 h8) cc_L_168 h5 h4 (by decide) rfl rfl ⟨by decide, by decide⟩ ⟨by decide, by decide⟩ rfl (Nat.le_of_ble_eq_true rfl) dL_facet_7 (tableOf []) ⟨0, 12, 15, 28⟩ (tableOf [(0, 12, 19, 13)]) rfl (fun z hz => nomatch hz) (by decide) (by decide) (name := "java/lang/IndexOutOfBoundsException") ce_L_28 (by decide) 15 rfl (fun x_7 u_7 h_7 => ?_)
  have hu_7 := h_7
  have hw_7 := hu_7.symm
  subst hw_7
  refine cg_astore (lv' := [(5, .ref x_7), (0, .ref o1), (1, .int x1), (2, .int x2), (3, .int x3), (4, .ref o2)]) C (Nat.le_of_ble_eq_true rfl) rfl dL_facet_15 ?_
  refine cg_iconst C (x := nI 1) rfl dL_facet_17 ?_
  exact cg_iret C ⟨rfl, rfl⟩ dL_facet_18 (by decide) (by decide)
set_option maxHeartbeats 4000000 in
set_option maxRecDepth 100000 in
theorem z460_X11_facet (l : Launch) (hlt : l.stackTraces = false) (S : cS) (dp : Nat) (o1 o2 : Nat) (n1 : Nat) (x1 x2 : Int32) (h1 : x1 < 0) (h2 : n1 ≤ 2147483647) (h3 : cr S 360 o1 = (some o2)) (h4 : cK S o1 = 11) (h5 : o1 ∈ cL S) (h6 : ci S 386 o2 = (nI 0)) (h7 : cK S o2 = 12) (h8 : o2 ∈ cL S) : cMetX "java/lang/IndexOutOfBoundsException" (fun u_ => u_ = S) l yX11_facet cX11_facet 9 (some .int) 7 1 6 104 [.ref o1, .int x1, .int x2, .int (nI n1)] S dp := by
  intro D Y tp sz
  refine cg_bodyX (by decide +kernel) (Nat.le_of_ble_eq_true rfl) ?_
  intro p e s m args below meth c C hne
  generalize va_A (cWd Y S) sz = A at C ⊢
  have C : cC p s m args meth c cX11_facet 9 (some .int) A D Y tp dp RX11 := C
  refine cg_lv (lv' := [(0, .ref o1), (1, .int x1), (2, .int x2), (3, .int (nI n1))]) rfl ?_
  refine cg_aload_n C (i := 0) rfl 0 rfl dX11_facet_0 ?_
  refine cg_iload_n C (i := 1) rfl 1 rfl dX11_facet_1 ?_
  exact cg_callx C hne (z172_X11_snapshotOf l hlt S dp o1 o2 x1 h1 h3 h4 h5 h6 h7 h8) cc_X11_317 h5 h4 (by decide) rfl rfl ⟨by decide, by decide⟩ ⟨by decide, by decide⟩ rfl (Nat.le_of_ble_eq_true rfl) dX11_facet_2 ⟨by decide, by decide⟩ (fun u_ h_ => by
      have hu_ := h_
      exact hu_)
set_option maxHeartbeats 4000000 in
set_option maxRecDepth 100000 in
theorem z461_L_facet (l : Launch) (hlt : l.stackTraces = false) (S : cS) (dp : Nat) (o1 o2 o3 : Nat) (n1 : Nat) (x1 x2 : Int32) (h1 : x1 < 0) (h2 : n1 ≤ 2147483647) (h3 : cr S 360 o1 = (some o3)) (h4 : cK S o1 = 11) (h5 : o1 ∈ cL S) (h6 : ci S 386 o3 = (nI 0)) (h7 : cK S o3 = 12) (h8 : o3 ∈ cL S) : cMetW (cQi (fun r_ u_ => r_ = (nI 1) ∧ u_ = S)) l yL_facet cL_facet 6 (some .int) [(0, 12, 15, 28), (0, 12, 19, 13)] 8 1 6 132 [.ref o1, .int x1, .int x2, .int (nI n1), .ref o2] S dp := by
  intro D Y tp sz
  refine cg_bodyW (by decide +kernel) (Nat.le_of_ble_eq_true rfl) ?_
  intro p e s m args below meth c C htab
  generalize va_A (cWd Y S) sz = A at C ⊢
  have C : cC p s m args meth c cL_facet 6 (some .int) A D Y tp dp RL := C
  refine cg_lv (lv' := [(0, .ref o1), (1, .int x1), (2, .int x2), (3, .int (nI n1)), (4, .ref o2)]) rfl ?_
  refine cg_aload C 4 rfl dL_facet_0 ?_
  refine cg_iconst C (x := nI 0) rfl dL_facet_2 ?_
  refine cg_aload_n C (i := 0) rfl 0 rfl dL_facet_3 ?_
  refine cg_iload_n C (i := 1) rfl 1 rfl dL_facet_4 ?_
  refine cg_iload_n C (i := 2) rfl 2 rfl dL_facet_5 ?_
  refine cg_iload_n C (i := 3) rfl 3 rfl dL_facet_6 ?_
  refine cg_callx_catch C htab (z460_X11_facet l hlt S dp o1 o3 n1 x1 x2 h1 (by omega) h3 h4 h5 h6 h7 h8) cc_L_168 h5 h4 (by decide) rfl rfl ⟨by decide, by decide⟩ ⟨by decide, by decide⟩ rfl (Nat.le_of_ble_eq_true rfl) dL_facet_7 (tableOf []) ⟨0, 12, 15, 28⟩ (tableOf [(0, 12, 19, 13)]) rfl (fun z hz => nomatch hz) (by decide) (by decide) (name := "java/lang/IndexOutOfBoundsException") ce_L_28 (by decide) 15 rfl (fun x_7 u_7 h_7 => ?_)
  have hu_7 := h_7
  have hw_7 := hu_7.symm
  subst hw_7
  refine cg_astore (lv' := [(5, .ref x_7), (0, .ref o1), (1, .int x1), (2, .int x2), (3, .int (nI n1)), (4, .ref o2)]) C (Nat.le_of_ble_eq_true rfl) rfl dL_facet_15 ?_
  refine cg_iconst C (x := nI 1) rfl dL_facet_17 ?_
  exact cg_iret C ⟨rfl, rfl⟩ dL_facet_18 (by decide) (by decide)
set_option maxHeartbeats 4000000 in
set_option maxRecDepth 100000 in
theorem z462_X11_facet (l : Launch) (hlt : l.stackTraces = false) (S : cS) (dp : Nat) (o1 o2 : Nat) (n1 : Nat) (x1 x2 : Int32) (h1 : x1 < 0) (h2 : n1 ≤ 9) (h3 : cr S 360 o1 = (some o2)) (h4 : cK S o1 = 11) (h5 : o1 ∈ cL S) (h6 : ci S 386 o2 = (nI 0)) (h7 : cK S o2 = 12) (h8 : o2 ∈ cL S) : cMetX "java/lang/IndexOutOfBoundsException" (fun u_ => u_ = S) l yX11_facet cX11_facet 9 (some .int) 7 1 6 104 [.ref o1, .int x1, .int x2, .int (nI n1)] S dp := by
  intro D Y tp sz
  refine cg_bodyX (by decide +kernel) (Nat.le_of_ble_eq_true rfl) ?_
  intro p e s m args below meth c C hne
  generalize va_A (cWd Y S) sz = A at C ⊢
  have C : cC p s m args meth c cX11_facet 9 (some .int) A D Y tp dp RX11 := C
  refine cg_lv (lv' := [(0, .ref o1), (1, .int x1), (2, .int x2), (3, .int (nI n1))]) rfl ?_
  refine cg_aload_n C (i := 0) rfl 0 rfl dX11_facet_0 ?_
  refine cg_iload_n C (i := 1) rfl 1 rfl dX11_facet_1 ?_
  exact cg_callx C hne (z172_X11_snapshotOf l hlt S dp o1 o2 x1 h1 h3 h4 h5 h6 h7 h8) cc_X11_317 h5 h4 (by decide) rfl rfl ⟨by decide, by decide⟩ ⟨by decide, by decide⟩ rfl (Nat.le_of_ble_eq_true rfl) dX11_facet_2 ⟨by decide, by decide⟩ (fun u_ h_ => by
      have hu_ := h_
      exact hu_)
set_option maxHeartbeats 4000000 in
set_option maxRecDepth 100000 in
theorem z463_L_facet (l : Launch) (hlt : l.stackTraces = false) (S : cS) (dp : Nat) (o1 o2 o3 : Nat) (n1 : Nat) (x1 x2 : Int32) (h1 : x1 < 0) (h2 : n1 ≤ 9) (h3 : cr S 360 o1 = (some o3)) (h4 : cK S o1 = 11) (h5 : o1 ∈ cL S) (h6 : ci S 386 o3 = (nI 0)) (h7 : cK S o3 = 12) (h8 : o3 ∈ cL S) : cMetW (cQi (fun r_ u_ => r_ = (nI 1) ∧ u_ = S)) l yL_facet cL_facet 6 (some .int) [(0, 12, 15, 28), (0, 12, 19, 13)] 8 1 6 132 [.ref o1, .int x1, .int x2, .int (nI n1), .ref o2] S dp := by
  intro D Y tp sz
  refine cg_bodyW (by decide +kernel) (Nat.le_of_ble_eq_true rfl) ?_
  intro p e s m args below meth c C htab
  generalize va_A (cWd Y S) sz = A at C ⊢
  have C : cC p s m args meth c cL_facet 6 (some .int) A D Y tp dp RL := C
  refine cg_lv (lv' := [(0, .ref o1), (1, .int x1), (2, .int x2), (3, .int (nI n1)), (4, .ref o2)]) rfl ?_
  refine cg_aload C 4 rfl dL_facet_0 ?_
  refine cg_iconst C (x := nI 0) rfl dL_facet_2 ?_
  refine cg_aload_n C (i := 0) rfl 0 rfl dL_facet_3 ?_
  refine cg_iload_n C (i := 1) rfl 1 rfl dL_facet_4 ?_
  refine cg_iload_n C (i := 2) rfl 2 rfl dL_facet_5 ?_
  refine cg_iload_n C (i := 3) rfl 3 rfl dL_facet_6 ?_
  refine cg_callx_catch C htab (z462_X11_facet l hlt S dp o1 o3 n1 x1 x2 h1 (by omega) h3 h4 h5 h6 h7 h8) cc_L_168 h5 h4 (by decide) rfl rfl ⟨by decide, by decide⟩ ⟨by decide, by decide⟩ rfl (Nat.le_of_ble_eq_true rfl) dL_facet_7 (tableOf []) ⟨0, 12, 15, 28⟩ (tableOf [(0, 12, 19, 13)]) rfl (fun z hz => nomatch hz) (by decide) (by decide) (name := "java/lang/IndexOutOfBoundsException") ce_L_28 (by decide) 15 rfl (fun x_7 u_7 h_7 => ?_)
  have hu_7 := h_7
  have hw_7 := hu_7.symm
  subst hw_7
  refine cg_astore (lv' := [(5, .ref x_7), (0, .ref o1), (1, .int x1), (2, .int x2), (3, .int (nI n1)), (4, .ref o2)]) C (Nat.le_of_ble_eq_true rfl) rfl dL_facet_15 ?_
  refine cg_iconst C (x := nI 1) rfl dL_facet_17 ?_
  exact cg_iret C ⟨rfl, rfl⟩ dL_facet_18 (by decide) (by decide)
set_option maxHeartbeats 4000000 in
set_option maxRecDepth 100000 in
theorem z464_X11_facet (l : Launch) (hlt : l.stackTraces = false) (S : cS) (dp : Nat) (o1 o2 : Nat) (n1 : Nat) (x1 x2 : Int32) (h1 : x1 < 0) (h2 : 10 ≤ n1) (h3 : n1 ≤ 2147483647) (h4 : cr S 360 o1 = (some o2)) (h5 : cK S o1 = 11) (h6 : o1 ∈ cL S) (h7 : ci S 386 o2 = (nI 0)) (h8 : cK S o2 = 12) (h9 : o2 ∈ cL S) : cMetX "java/lang/IndexOutOfBoundsException" (fun u_ => u_ = S) l yX11_facet cX11_facet 9 (some .int) 7 1 6 104 [.ref o1, .int x1, .int x2, .int (nI n1)] S dp := by
  intro D Y tp sz
  refine cg_bodyX (by decide +kernel) (Nat.le_of_ble_eq_true rfl) ?_
  intro p e s m args below meth c C hne
  generalize va_A (cWd Y S) sz = A at C ⊢
  have C : cC p s m args meth c cX11_facet 9 (some .int) A D Y tp dp RX11 := C
  refine cg_lv (lv' := [(0, .ref o1), (1, .int x1), (2, .int x2), (3, .int (nI n1))]) rfl ?_
  refine cg_aload_n C (i := 0) rfl 0 rfl dX11_facet_0 ?_
  refine cg_iload_n C (i := 1) rfl 1 rfl dX11_facet_1 ?_
  exact cg_callx C hne (z172_X11_snapshotOf l hlt S dp o1 o2 x1 h1 h4 h5 h6 h7 h8 h9) cc_X11_317 h6 h5 (by decide) rfl rfl ⟨by decide, by decide⟩ ⟨by decide, by decide⟩ rfl (Nat.le_of_ble_eq_true rfl) dX11_facet_2 ⟨by decide, by decide⟩ (fun u_ h_ => by
      have hu_ := h_
      exact hu_)
set_option maxHeartbeats 4000000 in
set_option maxRecDepth 100000 in
theorem z465_L_facet (l : Launch) (hlt : l.stackTraces = false) (S : cS) (dp : Nat) (o1 o2 o3 : Nat) (n1 : Nat) (x1 x2 : Int32) (h1 : x1 < 0) (h2 : 10 ≤ n1) (h3 : n1 ≤ 2147483647) (h4 : cr S 360 o1 = (some o3)) (h5 : cK S o1 = 11) (h6 : o1 ∈ cL S) (h7 : ci S 386 o3 = (nI 0)) (h8 : cK S o3 = 12) (h9 : o3 ∈ cL S) : cMetW (cQi (fun r_ u_ => r_ = (nI 1) ∧ u_ = S)) l yL_facet cL_facet 6 (some .int) [(0, 12, 15, 28), (0, 12, 19, 13)] 8 1 6 132 [.ref o1, .int x1, .int x2, .int (nI n1), .ref o2] S dp := by
  intro D Y tp sz
  refine cg_bodyW (by decide +kernel) (Nat.le_of_ble_eq_true rfl) ?_
  intro p e s m args below meth c C htab
  generalize va_A (cWd Y S) sz = A at C ⊢
  have C : cC p s m args meth c cL_facet 6 (some .int) A D Y tp dp RL := C
  refine cg_lv (lv' := [(0, .ref o1), (1, .int x1), (2, .int x2), (3, .int (nI n1)), (4, .ref o2)]) rfl ?_
  refine cg_aload C 4 rfl dL_facet_0 ?_
  refine cg_iconst C (x := nI 0) rfl dL_facet_2 ?_
  refine cg_aload_n C (i := 0) rfl 0 rfl dL_facet_3 ?_
  refine cg_iload_n C (i := 1) rfl 1 rfl dL_facet_4 ?_
  refine cg_iload_n C (i := 2) rfl 2 rfl dL_facet_5 ?_
  refine cg_iload_n C (i := 3) rfl 3 rfl dL_facet_6 ?_
  refine cg_callx_catch C htab (z464_X11_facet l hlt S dp o1 o3 n1 x1 x2 h1 (by omega) (by omega) h4 h5 h6 h7 h8 h9) cc_L_168 h6 h5 (by decide) rfl rfl ⟨by decide, by decide⟩ ⟨by decide, by decide⟩ rfl (Nat.le_of_ble_eq_true rfl) dL_facet_7 (tableOf []) ⟨0, 12, 15, 28⟩ (tableOf [(0, 12, 19, 13)]) rfl (fun z hz => nomatch hz) (by decide) (by decide) (name := "java/lang/IndexOutOfBoundsException") ce_L_28 (by decide) 15 rfl (fun x_7 u_7 h_7 => ?_)
  have hu_7 := h_7
  have hw_7 := hu_7.symm
  subst hw_7
  refine cg_astore (lv' := [(5, .ref x_7), (0, .ref o1), (1, .int x1), (2, .int x2), (3, .int (nI n1)), (4, .ref o2)]) C (Nat.le_of_ble_eq_true rfl) rfl dL_facet_15 ?_
  refine cg_iconst C (x := nI 1) rfl dL_facet_17 ?_
  exact cg_iret C ⟨rfl, rfl⟩ dL_facet_18 (by decide) (by decide)
set_option maxHeartbeats 4000000 in
set_option maxRecDepth 100000 in
theorem z466_X11_facet (l : Launch) (hlt : l.stackTraces = false) (S : cS) (dp : Nat) (o1 o2 : Nat) (n1 : Nat) (x1 x2 : Int32) (h1 : n1 ≤ 2147483647) (h2 : cr S 360 o1 = (some o2)) (h3 : cK S o1 = 11) (h4 : o1 ∈ cL S) (h5 : ci S 386 o2 = (nI 0)) (h6 : cK S o2 = 12) (h7 : o2 ∈ cL S) : cMetX "java/lang/IndexOutOfBoundsException" (fun u_ => u_ = S) l yX11_facet cX11_facet 9 (some .int) 7 1 6 104 [.ref o1, .int (nI n1), .int x1, .int x2] S dp := by
  intro D Y tp sz
  refine cg_bodyX (by decide +kernel) (Nat.le_of_ble_eq_true rfl) ?_
  intro p e s m args below meth c C hne
  generalize va_A (cWd Y S) sz = A at C ⊢
  have C : cC p s m args meth c cX11_facet 9 (some .int) A D Y tp dp RX11 := C
  refine cg_lv (lv' := [(0, .ref o1), (1, .int (nI n1)), (2, .int x1), (3, .int x2)]) rfl ?_
  refine cg_aload_n C (i := 0) rfl 0 rfl dX11_facet_0 ?_
  refine cg_iload_n C (i := 1) rfl 1 rfl dX11_facet_1 ?_
  exact cg_callx C hne (z175_X11_snapshotOf l hlt S dp o1 o2 n1 (by omega) h2 h3 h4 h5 h6 h7) cc_X11_317 h4 h3 (by decide) rfl rfl ⟨by decide, by decide⟩ ⟨by decide, by decide⟩ rfl (Nat.le_of_ble_eq_true rfl) dX11_facet_2 ⟨by decide, by decide⟩ (fun u_ h_ => by
      have hu_ := h_
      exact hu_)
set_option maxHeartbeats 4000000 in
set_option maxRecDepth 100000 in
theorem z467_L_facet (l : Launch) (hlt : l.stackTraces = false) (S : cS) (dp : Nat) (o1 o2 o3 : Nat) (n1 : Nat) (x1 x2 : Int32) (h1 : n1 ≤ 2147483647) (h2 : cr S 360 o1 = (some o3)) (h3 : cK S o1 = 11) (h4 : o1 ∈ cL S) (h5 : ci S 386 o3 = (nI 0)) (h6 : cK S o3 = 12) (h7 : o3 ∈ cL S) : cMetW (cQi (fun r_ u_ => r_ = (nI 1) ∧ u_ = S)) l yL_facet cL_facet 6 (some .int) [(0, 12, 15, 28), (0, 12, 19, 13)] 8 1 6 132 [.ref o1, .int (nI n1), .int x1, .int x2, .ref o2] S dp := by
  intro D Y tp sz
  refine cg_bodyW (by decide +kernel) (Nat.le_of_ble_eq_true rfl) ?_
  intro p e s m args below meth c C htab
  generalize va_A (cWd Y S) sz = A at C ⊢
  have C : cC p s m args meth c cL_facet 6 (some .int) A D Y tp dp RL := C
  refine cg_lv (lv' := [(0, .ref o1), (1, .int (nI n1)), (2, .int x1), (3, .int x2), (4, .ref o2)]) rfl ?_
  refine cg_aload C 4 rfl dL_facet_0 ?_
  refine cg_iconst C (x := nI 0) rfl dL_facet_2 ?_
  refine cg_aload_n C (i := 0) rfl 0 rfl dL_facet_3 ?_
  refine cg_iload_n C (i := 1) rfl 1 rfl dL_facet_4 ?_
  refine cg_iload_n C (i := 2) rfl 2 rfl dL_facet_5 ?_
  refine cg_iload_n C (i := 3) rfl 3 rfl dL_facet_6 ?_
  refine cg_callx_catch C htab (z466_X11_facet l hlt S dp o1 o3 n1 x1 x2 (by omega) h2 h3 h4 h5 h6 h7) cc_L_168 h4 h3 (by decide) rfl rfl ⟨by decide, by decide⟩ ⟨by decide, by decide⟩ rfl (Nat.le_of_ble_eq_true rfl) dL_facet_7 (tableOf []) ⟨0, 12, 15, 28⟩ (tableOf [(0, 12, 19, 13)]) rfl (fun z hz => nomatch hz) (by decide) (by decide) (name := "java/lang/IndexOutOfBoundsException") ce_L_28 (by decide) 15 rfl (fun x_7 u_7 h_7 => ?_)
  have hu_7 := h_7
  have hw_7 := hu_7.symm
  subst hw_7
  refine cg_astore (lv' := [(5, .ref x_7), (0, .ref o1), (1, .int (nI n1)), (2, .int x1), (3, .int x2), (4, .ref o2)]) C (Nat.le_of_ble_eq_true rfl) rfl dL_facet_15 ?_
  refine cg_iconst C (x := nI 1) rfl dL_facet_17 ?_
  exact cg_iret C ⟨rfl, rfl⟩ dL_facet_18 (by decide) (by decide)
set_option maxHeartbeats 4000000 in
set_option maxRecDepth 100000 in
theorem z468_X11_facet (l : Launch) (hlt : l.stackTraces = false) (S : cS) (dp : Nat) (o1 o2 : Nat) (n1 : Nat) (x1 x2 : Int32) (h1 : n1 ≤ 2147483647) (h2 : x2 < 0) (h3 : cr S 360 o1 = (some o2)) (h4 : cK S o1 = 11) (h5 : o1 ∈ cL S) (h6 : ci S 386 o2 = (nI 0)) (h7 : cK S o2 = 12) (h8 : o2 ∈ cL S) : cMetX "java/lang/IndexOutOfBoundsException" (fun u_ => u_ = S) l yX11_facet cX11_facet 9 (some .int) 7 1 6 104 [.ref o1, .int (nI n1), .int x1, .int x2] S dp := by
  intro D Y tp sz
  refine cg_bodyX (by decide +kernel) (Nat.le_of_ble_eq_true rfl) ?_
  intro p e s m args below meth c C hne
  generalize va_A (cWd Y S) sz = A at C ⊢
  have C : cC p s m args meth c cX11_facet 9 (some .int) A D Y tp dp RX11 := C
  refine cg_lv (lv' := [(0, .ref o1), (1, .int (nI n1)), (2, .int x1), (3, .int x2)]) rfl ?_
  refine cg_aload_n C (i := 0) rfl 0 rfl dX11_facet_0 ?_
  refine cg_iload_n C (i := 1) rfl 1 rfl dX11_facet_1 ?_
  exact cg_callx C hne (z175_X11_snapshotOf l hlt S dp o1 o2 n1 (by omega) h3 h4 h5 h6 h7 h8) cc_X11_317 h5 h4 (by decide) rfl rfl ⟨by decide, by decide⟩ ⟨by decide, by decide⟩ rfl (Nat.le_of_ble_eq_true rfl) dX11_facet_2 ⟨by decide, by decide⟩ (fun u_ h_ => by
      have hu_ := h_
      exact hu_)
set_option maxHeartbeats 4000000 in
set_option maxRecDepth 100000 in
theorem z469_L_facet (l : Launch) (hlt : l.stackTraces = false) (S : cS) (dp : Nat) (o1 o2 o3 : Nat) (n1 : Nat) (x1 x2 : Int32) (h1 : n1 ≤ 2147483647) (h2 : x2 < 0) (h3 : cr S 360 o1 = (some o3)) (h4 : cK S o1 = 11) (h5 : o1 ∈ cL S) (h6 : ci S 386 o3 = (nI 0)) (h7 : cK S o3 = 12) (h8 : o3 ∈ cL S) : cMetW (cQi (fun r_ u_ => r_ = (nI 1) ∧ u_ = S)) l yL_facet cL_facet 6 (some .int) [(0, 12, 15, 28), (0, 12, 19, 13)] 8 1 6 132 [.ref o1, .int (nI n1), .int x1, .int x2, .ref o2] S dp := by
  intro D Y tp sz
  refine cg_bodyW (by decide +kernel) (Nat.le_of_ble_eq_true rfl) ?_
  intro p e s m args below meth c C htab
  generalize va_A (cWd Y S) sz = A at C ⊢
  have C : cC p s m args meth c cL_facet 6 (some .int) A D Y tp dp RL := C
  refine cg_lv (lv' := [(0, .ref o1), (1, .int (nI n1)), (2, .int x1), (3, .int x2), (4, .ref o2)]) rfl ?_
  refine cg_aload C 4 rfl dL_facet_0 ?_
  refine cg_iconst C (x := nI 0) rfl dL_facet_2 ?_
  refine cg_aload_n C (i := 0) rfl 0 rfl dL_facet_3 ?_
  refine cg_iload_n C (i := 1) rfl 1 rfl dL_facet_4 ?_
  refine cg_iload_n C (i := 2) rfl 2 rfl dL_facet_5 ?_
  refine cg_iload_n C (i := 3) rfl 3 rfl dL_facet_6 ?_
  refine cg_callx_catch C htab (z468_X11_facet l hlt S dp o1 o3 n1 x1 x2 (by omega) h2 h3 h4 h5 h6 h7 h8) cc_L_168 h5 h4 (by decide) rfl rfl ⟨by decide, by decide⟩ ⟨by decide, by decide⟩ rfl (Nat.le_of_ble_eq_true rfl) dL_facet_7 (tableOf []) ⟨0, 12, 15, 28⟩ (tableOf [(0, 12, 19, 13)]) rfl (fun z hz => nomatch hz) (by decide) (by decide) (name := "java/lang/IndexOutOfBoundsException") ce_L_28 (by decide) 15 rfl (fun x_7 u_7 h_7 => ?_)
  have hu_7 := h_7
  have hw_7 := hu_7.symm
  subst hw_7
  refine cg_astore (lv' := [(5, .ref x_7), (0, .ref o1), (1, .int (nI n1)), (2, .int x1), (3, .int x2), (4, .ref o2)]) C (Nat.le_of_ble_eq_true rfl) rfl dL_facet_15 ?_
  refine cg_iconst C (x := nI 1) rfl dL_facet_17 ?_
  exact cg_iret C ⟨rfl, rfl⟩ dL_facet_18 (by decide) (by decide)
set_option maxHeartbeats 4000000 in
set_option maxRecDepth 100000 in
theorem z470_X11_facet (l : Launch) (hlt : l.stackTraces = false) (S : cS) (dp : Nat) (o1 o2 : Nat) (n1 n2 : Nat) (x1 : Int32) (h1 : n1 ≤ 2147483647) (h2 : n2 ≤ 2147483647) (h3 : cr S 360 o1 = (some o2)) (h4 : cK S o1 = 11) (h5 : o1 ∈ cL S) (h6 : ci S 386 o2 = (nI 0)) (h7 : cK S o2 = 12) (h8 : o2 ∈ cL S) : cMetX "java/lang/IndexOutOfBoundsException" (fun u_ => u_ = S) l yX11_facet cX11_facet 9 (some .int) 7 1 6 104 [.ref o1, .int (nI n1), .int x1, .int (nI n2)] S dp := by
  intro D Y tp sz
  refine cg_bodyX (by decide +kernel) (Nat.le_of_ble_eq_true rfl) ?_
  intro p e s m args below meth c C hne
  generalize va_A (cWd Y S) sz = A at C ⊢
  have C : cC p s m args meth c cX11_facet 9 (some .int) A D Y tp dp RX11 := C
  refine cg_lv (lv' := [(0, .ref o1), (1, .int (nI n1)), (2, .int x1), (3, .int (nI n2))]) rfl ?_
  refine cg_aload_n C (i := 0) rfl 0 rfl dX11_facet_0 ?_
  refine cg_iload_n C (i := 1) rfl 1 rfl dX11_facet_1 ?_
  exact cg_callx C hne (z175_X11_snapshotOf l hlt S dp o1 o2 n1 (by omega) h3 h4 h5 h6 h7 h8) cc_X11_317 h5 h4 (by decide) rfl rfl ⟨by decide, by decide⟩ ⟨by decide, by decide⟩ rfl (Nat.le_of_ble_eq_true rfl) dX11_facet_2 ⟨by decide, by decide⟩ (fun u_ h_ => by
      have hu_ := h_
      exact hu_)
set_option maxHeartbeats 4000000 in
set_option maxRecDepth 100000 in
theorem z471_L_facet (l : Launch) (hlt : l.stackTraces = false) (S : cS) (dp : Nat) (o1 o2 o3 : Nat) (n1 n2 : Nat) (x1 : Int32) (h1 : n1 ≤ 2147483647) (h2 : n2 ≤ 2147483647) (h3 : cr S 360 o1 = (some o3)) (h4 : cK S o1 = 11) (h5 : o1 ∈ cL S) (h6 : ci S 386 o3 = (nI 0)) (h7 : cK S o3 = 12) (h8 : o3 ∈ cL S) : cMetW (cQi (fun r_ u_ => r_ = (nI 1) ∧ u_ = S)) l yL_facet cL_facet 6 (some .int) [(0, 12, 15, 28), (0, 12, 19, 13)] 8 1 6 132 [.ref o1, .int (nI n1), .int x1, .int (nI n2), .ref o2] S dp := by
  intro D Y tp sz
  refine cg_bodyW (by decide +kernel) (Nat.le_of_ble_eq_true rfl) ?_
  intro p e s m args below meth c C htab
  generalize va_A (cWd Y S) sz = A at C ⊢
  have C : cC p s m args meth c cL_facet 6 (some .int) A D Y tp dp RL := C
  refine cg_lv (lv' := [(0, .ref o1), (1, .int (nI n1)), (2, .int x1), (3, .int (nI n2)), (4, .ref o2)]) rfl ?_
  refine cg_aload C 4 rfl dL_facet_0 ?_
  refine cg_iconst C (x := nI 0) rfl dL_facet_2 ?_
  refine cg_aload_n C (i := 0) rfl 0 rfl dL_facet_3 ?_
  refine cg_iload_n C (i := 1) rfl 1 rfl dL_facet_4 ?_
  refine cg_iload_n C (i := 2) rfl 2 rfl dL_facet_5 ?_
  refine cg_iload_n C (i := 3) rfl 3 rfl dL_facet_6 ?_
  refine cg_callx_catch C htab (z470_X11_facet l hlt S dp o1 o3 n1 n2 x1 (by omega) (by omega) h3 h4 h5 h6 h7 h8) cc_L_168 h5 h4 (by decide) rfl rfl ⟨by decide, by decide⟩ ⟨by decide, by decide⟩ rfl (Nat.le_of_ble_eq_true rfl) dL_facet_7 (tableOf []) ⟨0, 12, 15, 28⟩ (tableOf [(0, 12, 19, 13)]) rfl (fun z hz => nomatch hz) (by decide) (by decide) (name := "java/lang/IndexOutOfBoundsException") ce_L_28 (by decide) 15 rfl (fun x_7 u_7 h_7 => ?_)
  have hu_7 := h_7
  have hw_7 := hu_7.symm
  subst hw_7
  refine cg_astore (lv' := [(5, .ref x_7), (0, .ref o1), (1, .int (nI n1)), (2, .int x1), (3, .int (nI n2)), (4, .ref o2)]) C (Nat.le_of_ble_eq_true rfl) rfl dL_facet_15 ?_
  refine cg_iconst C (x := nI 1) rfl dL_facet_17 ?_
  exact cg_iret C ⟨rfl, rfl⟩ dL_facet_18 (by decide) (by decide)
set_option maxHeartbeats 4000000 in
set_option maxRecDepth 100000 in
theorem z472_X11_facet (l : Launch) (hlt : l.stackTraces = false) (S : cS) (dp : Nat) (o1 o2 : Nat) (n1 n2 : Nat) (x1 : Int32) (h1 : n1 ≤ 2147483647) (h2 : n2 ≤ 9) (h3 : cr S 360 o1 = (some o2)) (h4 : cK S o1 = 11) (h5 : o1 ∈ cL S) (h6 : ci S 386 o2 = (nI 0)) (h7 : cK S o2 = 12) (h8 : o2 ∈ cL S) : cMetX "java/lang/IndexOutOfBoundsException" (fun u_ => u_ = S) l yX11_facet cX11_facet 9 (some .int) 7 1 6 104 [.ref o1, .int (nI n1), .int x1, .int (nI n2)] S dp := by
  intro D Y tp sz
  refine cg_bodyX (by decide +kernel) (Nat.le_of_ble_eq_true rfl) ?_
  intro p e s m args below meth c C hne
  generalize va_A (cWd Y S) sz = A at C ⊢
  have C : cC p s m args meth c cX11_facet 9 (some .int) A D Y tp dp RX11 := C
  refine cg_lv (lv' := [(0, .ref o1), (1, .int (nI n1)), (2, .int x1), (3, .int (nI n2))]) rfl ?_
  refine cg_aload_n C (i := 0) rfl 0 rfl dX11_facet_0 ?_
  refine cg_iload_n C (i := 1) rfl 1 rfl dX11_facet_1 ?_
  exact cg_callx C hne (z175_X11_snapshotOf l hlt S dp o1 o2 n1 (by omega) h3 h4 h5 h6 h7 h8) cc_X11_317 h5 h4 (by decide) rfl rfl ⟨by decide, by decide⟩ ⟨by decide, by decide⟩ rfl (Nat.le_of_ble_eq_true rfl) dX11_facet_2 ⟨by decide, by decide⟩ (fun u_ h_ => by
      have hu_ := h_
      exact hu_)
set_option maxHeartbeats 4000000 in
set_option maxRecDepth 100000 in
theorem z473_L_facet (l : Launch) (hlt : l.stackTraces = false) (S : cS) (dp : Nat) (o1 o2 o3 : Nat) (n1 n2 : Nat) (x1 : Int32) (h1 : n1 ≤ 2147483647) (h2 : n2 ≤ 9) (h3 : cr S 360 o1 = (some o3)) (h4 : cK S o1 = 11) (h5 : o1 ∈ cL S) (h6 : ci S 386 o3 = (nI 0)) (h7 : cK S o3 = 12) (h8 : o3 ∈ cL S) : cMetW (cQi (fun r_ u_ => r_ = (nI 1) ∧ u_ = S)) l yL_facet cL_facet 6 (some .int) [(0, 12, 15, 28), (0, 12, 19, 13)] 8 1 6 132 [.ref o1, .int (nI n1), .int x1, .int (nI n2), .ref o2] S dp := by
  intro D Y tp sz
  refine cg_bodyW (by decide +kernel) (Nat.le_of_ble_eq_true rfl) ?_
  intro p e s m args below meth c C htab
  generalize va_A (cWd Y S) sz = A at C ⊢
  have C : cC p s m args meth c cL_facet 6 (some .int) A D Y tp dp RL := C
  refine cg_lv (lv' := [(0, .ref o1), (1, .int (nI n1)), (2, .int x1), (3, .int (nI n2)), (4, .ref o2)]) rfl ?_
  refine cg_aload C 4 rfl dL_facet_0 ?_
  refine cg_iconst C (x := nI 0) rfl dL_facet_2 ?_
  refine cg_aload_n C (i := 0) rfl 0 rfl dL_facet_3 ?_
  refine cg_iload_n C (i := 1) rfl 1 rfl dL_facet_4 ?_
  refine cg_iload_n C (i := 2) rfl 2 rfl dL_facet_5 ?_
  refine cg_iload_n C (i := 3) rfl 3 rfl dL_facet_6 ?_
  refine cg_callx_catch C htab (z472_X11_facet l hlt S dp o1 o3 n1 n2 x1 (by omega) (by omega) h3 h4 h5 h6 h7 h8) cc_L_168 h5 h4 (by decide) rfl rfl ⟨by decide, by decide⟩ ⟨by decide, by decide⟩ rfl (Nat.le_of_ble_eq_true rfl) dL_facet_7 (tableOf []) ⟨0, 12, 15, 28⟩ (tableOf [(0, 12, 19, 13)]) rfl (fun z hz => nomatch hz) (by decide) (by decide) (name := "java/lang/IndexOutOfBoundsException") ce_L_28 (by decide) 15 rfl (fun x_7 u_7 h_7 => ?_)
  have hu_7 := h_7
  have hw_7 := hu_7.symm
  subst hw_7
  refine cg_astore (lv' := [(5, .ref x_7), (0, .ref o1), (1, .int (nI n1)), (2, .int x1), (3, .int (nI n2)), (4, .ref o2)]) C (Nat.le_of_ble_eq_true rfl) rfl dL_facet_15 ?_
  refine cg_iconst C (x := nI 1) rfl dL_facet_17 ?_
  exact cg_iret C ⟨rfl, rfl⟩ dL_facet_18 (by decide) (by decide)
set_option maxHeartbeats 4000000 in
set_option maxRecDepth 100000 in
theorem z474_X11_facet (l : Launch) (hlt : l.stackTraces = false) (S : cS) (dp : Nat) (o1 o2 : Nat) (n1 n2 : Nat) (x1 : Int32) (h1 : n1 ≤ 2147483647) (h2 : 10 ≤ n2) (h3 : n2 ≤ 2147483647) (h4 : cr S 360 o1 = (some o2)) (h5 : cK S o1 = 11) (h6 : o1 ∈ cL S) (h7 : ci S 386 o2 = (nI 0)) (h8 : cK S o2 = 12) (h9 : o2 ∈ cL S) : cMetX "java/lang/IndexOutOfBoundsException" (fun u_ => u_ = S) l yX11_facet cX11_facet 9 (some .int) 7 1 6 104 [.ref o1, .int (nI n1), .int x1, .int (nI n2)] S dp := by
  intro D Y tp sz
  refine cg_bodyX (by decide +kernel) (Nat.le_of_ble_eq_true rfl) ?_
  intro p e s m args below meth c C hne
  generalize va_A (cWd Y S) sz = A at C ⊢
  have C : cC p s m args meth c cX11_facet 9 (some .int) A D Y tp dp RX11 := C
  refine cg_lv (lv' := [(0, .ref o1), (1, .int (nI n1)), (2, .int x1), (3, .int (nI n2))]) rfl ?_
  refine cg_aload_n C (i := 0) rfl 0 rfl dX11_facet_0 ?_
  refine cg_iload_n C (i := 1) rfl 1 rfl dX11_facet_1 ?_
  exact cg_callx C hne (z175_X11_snapshotOf l hlt S dp o1 o2 n1 (by omega) h4 h5 h6 h7 h8 h9) cc_X11_317 h6 h5 (by decide) rfl rfl ⟨by decide, by decide⟩ ⟨by decide, by decide⟩ rfl (Nat.le_of_ble_eq_true rfl) dX11_facet_2 ⟨by decide, by decide⟩ (fun u_ h_ => by
      have hu_ := h_
      exact hu_)
set_option maxHeartbeats 4000000 in
set_option maxRecDepth 100000 in
theorem z475_L_facet (l : Launch) (hlt : l.stackTraces = false) (S : cS) (dp : Nat) (o1 o2 o3 : Nat) (n1 n2 : Nat) (x1 : Int32) (h1 : n1 ≤ 2147483647) (h2 : 10 ≤ n2) (h3 : n2 ≤ 2147483647) (h4 : cr S 360 o1 = (some o3)) (h5 : cK S o1 = 11) (h6 : o1 ∈ cL S) (h7 : ci S 386 o3 = (nI 0)) (h8 : cK S o3 = 12) (h9 : o3 ∈ cL S) : cMetW (cQi (fun r_ u_ => r_ = (nI 1) ∧ u_ = S)) l yL_facet cL_facet 6 (some .int) [(0, 12, 15, 28), (0, 12, 19, 13)] 8 1 6 132 [.ref o1, .int (nI n1), .int x1, .int (nI n2), .ref o2] S dp := by
  intro D Y tp sz
  refine cg_bodyW (by decide +kernel) (Nat.le_of_ble_eq_true rfl) ?_
  intro p e s m args below meth c C htab
  generalize va_A (cWd Y S) sz = A at C ⊢
  have C : cC p s m args meth c cL_facet 6 (some .int) A D Y tp dp RL := C
  refine cg_lv (lv' := [(0, .ref o1), (1, .int (nI n1)), (2, .int x1), (3, .int (nI n2)), (4, .ref o2)]) rfl ?_
  refine cg_aload C 4 rfl dL_facet_0 ?_
  refine cg_iconst C (x := nI 0) rfl dL_facet_2 ?_
  refine cg_aload_n C (i := 0) rfl 0 rfl dL_facet_3 ?_
  refine cg_iload_n C (i := 1) rfl 1 rfl dL_facet_4 ?_
  refine cg_iload_n C (i := 2) rfl 2 rfl dL_facet_5 ?_
  refine cg_iload_n C (i := 3) rfl 3 rfl dL_facet_6 ?_
  refine cg_callx_catch C htab (z474_X11_facet l hlt S dp o1 o3 n1 n2 x1 (by omega) (by omega) (by omega) h4 h5 h6 h7 h8 h9) cc_L_168 h6 h5 (by decide) rfl rfl ⟨by decide, by decide⟩ ⟨by decide, by decide⟩ rfl (Nat.le_of_ble_eq_true rfl) dL_facet_7 (tableOf []) ⟨0, 12, 15, 28⟩ (tableOf [(0, 12, 19, 13)]) rfl (fun z hz => nomatch hz) (by decide) (by decide) (name := "java/lang/IndexOutOfBoundsException") ce_L_28 (by decide) 15 rfl (fun x_7 u_7 h_7 => ?_)
  have hu_7 := h_7
  have hw_7 := hu_7.symm
  subst hw_7
  refine cg_astore (lv' := [(5, .ref x_7), (0, .ref o1), (1, .int (nI n1)), (2, .int x1), (3, .int (nI n2)), (4, .ref o2)]) C (Nat.le_of_ble_eq_true rfl) rfl dL_facet_15 ?_
  refine cg_iconst C (x := nI 1) rfl dL_facet_17 ?_
  exact cg_iret C ⟨rfl, rfl⟩ dL_facet_18 (by decide) (by decide)
set_option maxHeartbeats 4000000 in
set_option maxRecDepth 100000 in
theorem z476_X11_sortedAt (l : Launch) (hlt : l.stackTraces = false) (S : cS) (dp : Nat) (o1 o2 : Nat) (x1 x2 x3 : Int32) (h1 : cr S 360 o1 = (some o2)) (h2 : cK S o1 = 11) (h3 : o1 ∈ cL S) (h4 : ci S 386 o2 = (nI 0)) (h5 : cK S o2 = 12) (h6 : o2 ∈ cL S) : cMetX "java/lang/IndexOutOfBoundsException" (fun u_ => u_ = S) l yX11_sortedAt cX11_sortedAt 9 (some .int) 7 1 6 104 [.ref o1, .int x1, .int x2, .int (nI 1), .int x3] S dp := by
  intro D Y tp sz
  refine cg_bodyX (by decide +kernel) (Nat.le_of_ble_eq_true rfl) ?_
  intro p e s m args below meth c C hne
  generalize va_A (cWd Y S) sz = A at C ⊢
  have C : cC p s m args meth c cX11_sortedAt 9 (some .int) A D Y tp dp RX11 := C
  refine cg_lv (lv' := [(0, .ref o1), (1, .int x1), (2, .int x2), (3, .int (nI 1)), (4, .int x3)]) rfl ?_
  refine cg_aload_n C (i := 0) rfl 0 rfl dX11_sortedAt_0 ?_
  refine cg_iload_n C (i := 1) rfl 1 rfl dX11_sortedAt_1 ?_
  exact cg_callx C hne (z169_X11_snapshotOf l hlt S dp o1 o2 x1 h1 h2 h3 h4 h5 h6) cc_X11_317 h3 h2 (by decide) rfl rfl ⟨by decide, by decide⟩ ⟨by decide, by decide⟩ rfl (Nat.le_of_ble_eq_true rfl) dX11_sortedAt_2 ⟨by decide, by decide⟩ (fun u_ h_ => by
      have hu_ := h_
      exact hu_)
set_option maxHeartbeats 4000000 in
set_option maxRecDepth 100000 in
theorem z477_L_sortedAt (l : Launch) (hlt : l.stackTraces = false) (S : cS) (dp : Nat) (o1 o2 o3 : Nat) (x1 x2 x3 : Int32) (h1 : cr S 360 o1 = (some o3)) (h2 : cK S o1 = 11) (h3 : o1 ∈ cL S) (h4 : ci S 386 o3 = (nI 0)) (h5 : cK S o3 = 12) (h6 : o3 ∈ cL S) : cMetW (cQi (fun r_ u_ => r_ = (nI 1) ∧ u_ = S)) l yL_sortedAt cL_sortedAt 7 (some .int) [(0, 14, 17, 28)] 8 1 6 132 [.ref o1, .int x1, .int x2, .int (nI 1), .int x3, .ref o2] S dp := by
  intro D Y tp sz
  refine cg_bodyW (by decide +kernel) (Nat.le_of_ble_eq_true rfl) ?_
  intro p e s m args below meth c C htab
  generalize va_A (cWd Y S) sz = A at C ⊢
  have C : cC p s m args meth c cL_sortedAt 7 (some .int) A D Y tp dp RL := C
  refine cg_lv (lv' := [(0, .ref o1), (1, .int x1), (2, .int x2), (3, .int (nI 1)), (4, .int x3), (5, .ref o2)]) rfl ?_
  refine cg_aload C 5 rfl dL_sortedAt_0 ?_
  refine cg_iconst C (x := nI 0) rfl dL_sortedAt_2 ?_
  refine cg_aload_n C (i := 0) rfl 0 rfl dL_sortedAt_3 ?_
  refine cg_iload_n C (i := 1) rfl 1 rfl dL_sortedAt_4 ?_
  refine cg_iload_n C (i := 2) rfl 2 rfl dL_sortedAt_5 ?_
  refine cg_iload_n C (i := 3) rfl 3 rfl dL_sortedAt_6 ?_
  refine cg_iload C 4 rfl dL_sortedAt_7 ?_
  refine cg_callx_catch C htab (z476_X11_sortedAt l hlt S dp o1 o3 x1 x2 x3 h1 h2 h3 h4 h5 h6) cc_L_171 h3 h2 (by decide) rfl rfl ⟨by decide, by decide⟩ ⟨by decide, by decide⟩ rfl (Nat.le_of_ble_eq_true rfl) dL_sortedAt_9 (tableOf []) ⟨0, 14, 17, 28⟩ (tableOf []) rfl (fun z hz => nomatch hz) (by decide) (by decide) (name := "java/lang/IndexOutOfBoundsException") ce_L_28 (by decide) 17 rfl (fun x_9 u_9 h_9 => ?_)
  have hu_9 := h_9
  have hw_9 := hu_9.symm
  subst hw_9
  refine cg_astore (lv' := [(6, .ref x_9), (0, .ref o1), (1, .int x1), (2, .int x2), (3, .int (nI 1)), (4, .int x3), (5, .ref o2)]) C (Nat.le_of_ble_eq_true rfl) rfl dL_sortedAt_17 ?_
  refine cg_iconst C (x := nI 1) rfl dL_sortedAt_19 ?_
  exact cg_iret C ⟨rfl, rfl⟩ dL_sortedAt_20 (by decide) (by decide)
set_option maxHeartbeats 4000000 in
set_option maxRecDepth 100000 in
theorem z478_X11_sortedAt (l : Launch) (hlt : l.stackTraces = false) (S : cS) (dp : Nat) (o1 o2 : Nat) (x1 x2 x3 : Int32) (h1 : x1 < 0) (h2 : cr S 360 o1 = (some o2)) (h3 : cK S o1 = 11) (h4 : o1 ∈ cL S) (h5 : ci S 386 o2 = (nI 0)) (h6 : cK S o2 = 12) (h7 : o2 ∈ cL S) : cMetX "java/lang/IndexOutOfBoundsException" (fun u_ => u_ = S) l yX11_sortedAt cX11_sortedAt 9 (some .int) 7 1 6 104 [.ref o1, .int x1, .int x2, .int (nI 1), .int x3] S dp := by
  intro D Y tp sz
  refine cg_bodyX (by decide +kernel) (Nat.le_of_ble_eq_true rfl) ?_
  intro p e s m args below meth c C hne
  generalize va_A (cWd Y S) sz = A at C ⊢
  have C : cC p s m args meth c cX11_sortedAt 9 (some .int) A D Y tp dp RX11 := C
  refine cg_lv (lv' := [(0, .ref o1), (1, .int x1), (2, .int x2), (3, .int (nI 1)), (4, .int x3)]) rfl ?_
  refine cg_aload_n C (i := 0) rfl 0 rfl dX11_sortedAt_0 ?_
  refine cg_iload_n C (i := 1) rfl 1 rfl dX11_sortedAt_1 ?_
  exact cg_callx C hne (z172_X11_snapshotOf l hlt S dp o1 o2 x1 h1 h2 h3 h4 h5 h6 h7) cc_X11_317 h4 h3 (by decide) rfl rfl ⟨by decide, by decide⟩ ⟨by decide, by decide⟩ rfl (Nat.le_of_ble_eq_true rfl) dX11_sortedAt_2 ⟨by decide, by decide⟩ (fun u_ h_ => by
      have hu_ := h_
      exact hu_)
set_option maxHeartbeats 4000000 in
set_option maxRecDepth 100000 in
theorem z479_L_sortedAt (l : Launch) (hlt : l.stackTraces = false) (S : cS) (dp : Nat) (o1 o2 o3 : Nat) (x1 x2 x3 : Int32) (h1 : x1 < 0) (h2 : cr S 360 o1 = (some o3)) (h3 : cK S o1 = 11) (h4 : o1 ∈ cL S) (h5 : ci S 386 o3 = (nI 0)) (h6 : cK S o3 = 12) (h7 : o3 ∈ cL S) : cMetW (cQi (fun r_ u_ => r_ = (nI 1) ∧ u_ = S)) l yL_sortedAt cL_sortedAt 7 (some .int) [(0, 14, 17, 28)] 8 1 6 132 [.ref o1, .int x1, .int x2, .int (nI 1), .int x3, .ref o2] S dp := by
  intro D Y tp sz
  refine cg_bodyW (by decide +kernel) (Nat.le_of_ble_eq_true rfl) ?_
  intro p e s m args below meth c C htab
  generalize va_A (cWd Y S) sz = A at C ⊢
  have C : cC p s m args meth c cL_sortedAt 7 (some .int) A D Y tp dp RL := C
  refine cg_lv (lv' := [(0, .ref o1), (1, .int x1), (2, .int x2), (3, .int (nI 1)), (4, .int x3), (5, .ref o2)]) rfl ?_
  refine cg_aload C 5 rfl dL_sortedAt_0 ?_
  refine cg_iconst C (x := nI 0) rfl dL_sortedAt_2 ?_
  refine cg_aload_n C (i := 0) rfl 0 rfl dL_sortedAt_3 ?_
  refine cg_iload_n C (i := 1) rfl 1 rfl dL_sortedAt_4 ?_
  refine cg_iload_n C (i := 2) rfl 2 rfl dL_sortedAt_5 ?_
  refine cg_iload_n C (i := 3) rfl 3 rfl dL_sortedAt_6 ?_
  refine cg_iload C 4 rfl dL_sortedAt_7 ?_
  refine cg_callx_catch C htab (z478_X11_sortedAt l hlt S dp o1 o3 x1 x2 x3 h1 h2 h3 h4 h5 h6 h7) cc_L_171 h4 h3 (by decide) rfl rfl ⟨by decide, by decide⟩ ⟨by decide, by decide⟩ rfl (Nat.le_of_ble_eq_true rfl) dL_sortedAt_9 (tableOf []) ⟨0, 14, 17, 28⟩ (tableOf []) rfl (fun z hz => nomatch hz) (by decide) (by decide) (name := "java/lang/IndexOutOfBoundsException") ce_L_28 (by decide) 17 rfl (fun x_9 u_9 h_9 => ?_)
  have hu_9 := h_9
  have hw_9 := hu_9.symm
  subst hw_9
  refine cg_astore (lv' := [(6, .ref x_9), (0, .ref o1), (1, .int x1), (2, .int x2), (3, .int (nI 1)), (4, .int x3), (5, .ref o2)]) C (Nat.le_of_ble_eq_true rfl) rfl dL_sortedAt_17 ?_
  refine cg_iconst C (x := nI 1) rfl dL_sortedAt_19 ?_
  exact cg_iret C ⟨rfl, rfl⟩ dL_sortedAt_20 (by decide) (by decide)
set_option maxHeartbeats 4000000 in
set_option maxRecDepth 100000 in
theorem z480_X11_sortedAt (l : Launch) (hlt : l.stackTraces = false) (S : cS) (dp : Nat) (o1 o2 : Nat) (x1 x2 x3 : Int32) (h1 : x1 < 0) (h2 : x3 < 0) (h3 : cr S 360 o1 = (some o2)) (h4 : cK S o1 = 11) (h5 : o1 ∈ cL S) (h6 : ci S 386 o2 = (nI 0)) (h7 : cK S o2 = 12) (h8 : o2 ∈ cL S) : cMetX "java/lang/IndexOutOfBoundsException" (fun u_ => u_ = S) l yX11_sortedAt cX11_sortedAt 9 (some .int) 7 1 6 104 [.ref o1, .int x1, .int x2, .int (nI 1), .int x3] S dp := by
  intro D Y tp sz
  refine cg_bodyX (by decide +kernel) (Nat.le_of_ble_eq_true rfl) ?_
  intro p e s m args below meth c C hne
  generalize va_A (cWd Y S) sz = A at C ⊢
  have C : cC p s m args meth c cX11_sortedAt 9 (some .int) A D Y tp dp RX11 := C
  refine cg_lv (lv' := [(0, .ref o1), (1, .int x1), (2, .int x2), (3, .int (nI 1)), (4, .int x3)]) rfl ?_
  refine cg_aload_n C (i := 0) rfl 0 rfl dX11_sortedAt_0 ?_
  refine cg_iload_n C (i := 1) rfl 1 rfl dX11_sortedAt_1 ?_
  exact cg_callx C hne (z172_X11_snapshotOf l hlt S dp o1 o2 x1 h1 h3 h4 h5 h6 h7 h8) cc_X11_317 h5 h4 (by decide) rfl rfl ⟨by decide, by decide⟩ ⟨by decide, by decide⟩ rfl (Nat.le_of_ble_eq_true rfl) dX11_sortedAt_2 ⟨by decide, by decide⟩ (fun u_ h_ => by
      have hu_ := h_
      exact hu_)
set_option maxHeartbeats 4000000 in
set_option maxRecDepth 100000 in
theorem z481_L_sortedAt (l : Launch) (hlt : l.stackTraces = false) (S : cS) (dp : Nat) (o1 o2 o3 : Nat) (x1 x2 x3 : Int32) (h1 : x1 < 0) (h2 : x3 < 0) (h3 : cr S 360 o1 = (some o3)) (h4 : cK S o1 = 11) (h5 : o1 ∈ cL S) (h6 : ci S 386 o3 = (nI 0)) (h7 : cK S o3 = 12) (h8 : o3 ∈ cL S) : cMetW (cQi (fun r_ u_ => r_ = (nI 1) ∧ u_ = S)) l yL_sortedAt cL_sortedAt 7 (some .int) [(0, 14, 17, 28)] 8 1 6 132 [.ref o1, .int x1, .int x2, .int (nI 1), .int x3, .ref o2] S dp := by
  intro D Y tp sz
  refine cg_bodyW (by decide +kernel) (Nat.le_of_ble_eq_true rfl) ?_
  intro p e s m args below meth c C htab
  generalize va_A (cWd Y S) sz = A at C ⊢
  have C : cC p s m args meth c cL_sortedAt 7 (some .int) A D Y tp dp RL := C
  refine cg_lv (lv' := [(0, .ref o1), (1, .int x1), (2, .int x2), (3, .int (nI 1)), (4, .int x3), (5, .ref o2)]) rfl ?_
  refine cg_aload C 5 rfl dL_sortedAt_0 ?_
  refine cg_iconst C (x := nI 0) rfl dL_sortedAt_2 ?_
  refine cg_aload_n C (i := 0) rfl 0 rfl dL_sortedAt_3 ?_
  refine cg_iload_n C (i := 1) rfl 1 rfl dL_sortedAt_4 ?_
  refine cg_iload_n C (i := 2) rfl 2 rfl dL_sortedAt_5 ?_
  refine cg_iload_n C (i := 3) rfl 3 rfl dL_sortedAt_6 ?_
  refine cg_iload C 4 rfl dL_sortedAt_7 ?_
  refine cg_callx_catch C htab (z480_X11_sortedAt l hlt S dp o1 o3 x1 x2 x3 h1 h2 h3 h4 h5 h6 h7 h8) cc_L_171 h5 h4 (by decide) rfl rfl ⟨by decide, by decide⟩ ⟨by decide, by decide⟩ rfl (Nat.le_of_ble_eq_true rfl) dL_sortedAt_9 (tableOf []) ⟨0, 14, 17, 28⟩ (tableOf []) rfl (fun z hz => nomatch hz) (by decide) (by decide) (name := "java/lang/IndexOutOfBoundsException") ce_L_28 (by decide) 17 rfl (fun x_9 u_9 h_9 => ?_)
  have hu_9 := h_9
  have hw_9 := hu_9.symm
  subst hw_9
  refine cg_astore (lv' := [(6, .ref x_9), (0, .ref o1), (1, .int x1), (2, .int x2), (3, .int (nI 1)), (4, .int x3), (5, .ref o2)]) C (Nat.le_of_ble_eq_true rfl) rfl dL_sortedAt_17 ?_
  refine cg_iconst C (x := nI 1) rfl dL_sortedAt_19 ?_
  exact cg_iret C ⟨rfl, rfl⟩ dL_sortedAt_20 (by decide) (by decide)
set_option maxHeartbeats 4000000 in
set_option maxRecDepth 100000 in
theorem z482_X11_sortedAt (l : Launch) (hlt : l.stackTraces = false) (S : cS) (dp : Nat) (o1 o2 : Nat) (n1 : Nat) (x1 x2 : Int32) (h1 : x1 < 0) (h2 : n1 ≤ 2147483647) (h3 : cr S 360 o1 = (some o2)) (h4 : cK S o1 = 11) (h5 : o1 ∈ cL S) (h6 : ci S 386 o2 = (nI 0)) (h7 : cK S o2 = 12) (h8 : o2 ∈ cL S) : cMetX "java/lang/IndexOutOfBoundsException" (fun u_ => u_ = S) l yX11_sortedAt cX11_sortedAt 9 (some .int) 7 1 6 104 [.ref o1, .int x1, .int x2, .int (nI 1), .int (nI n1)] S dp := by
  intro D Y tp sz
  refine cg_bodyX (by decide +kernel) (Nat.le_of_ble_eq_true rfl) ?_
  intro p e s m args below meth c C hne
  generalize va_A (cWd Y S) sz = A at C ⊢
  have C : cC p s m args meth c cX11_sortedAt 9 (some .int) A D Y tp dp RX11 := C
  refine cg_lv (lv' := [(0, .ref o1), (1, .int x1), (2, .int x2), (3, .int (nI 1)), (4, .int (nI n1))]) rfl ?_
  refine cg_aload_n C (i := 0) rfl 0 rfl dX11_sortedAt_0 ?_
  refine cg_iload_n C (i := 1) rfl 1 rfl dX11_sortedAt_1 ?_
  exact cg_callx C hne (z172_X11_snapshotOf l hlt S dp o1 o2 x1 h1 h3 h4 h5 h6 h7 h8) cc_X11_317 h5 h4 (by decide) rfl rfl ⟨by decide, by decide⟩ ⟨by decide, by decide⟩ rfl (Nat.le_of_ble_eq_true rfl) dX11_sortedAt_2 ⟨by decide, by decide⟩ (fun u_ h_ => by
      have hu_ := h_
      exact hu_)
set_option maxHeartbeats 4000000 in
set_option maxRecDepth 100000 in
theorem z483_L_sortedAt (l : Launch) (hlt : l.stackTraces = false) (S : cS) (dp : Nat) (o1 o2 o3 : Nat) (n1 : Nat) (x1 x2 : Int32) (h1 : x1 < 0) (h2 : n1 ≤ 2147483647) (h3 : cr S 360 o1 = (some o3)) (h4 : cK S o1 = 11) (h5 : o1 ∈ cL S) (h6 : ci S 386 o3 = (nI 0)) (h7 : cK S o3 = 12) (h8 : o3 ∈ cL S) : cMetW (cQi (fun r_ u_ => r_ = (nI 1) ∧ u_ = S)) l yL_sortedAt cL_sortedAt 7 (some .int) [(0, 14, 17, 28)] 8 1 6 132 [.ref o1, .int x1, .int x2, .int (nI 1), .int (nI n1), .ref o2] S dp := by
  intro D Y tp sz
  refine cg_bodyW (by decide +kernel) (Nat.le_of_ble_eq_true rfl) ?_
  intro p e s m args below meth c C htab
  generalize va_A (cWd Y S) sz = A at C ⊢
  have C : cC p s m args meth c cL_sortedAt 7 (some .int) A D Y tp dp RL := C
  refine cg_lv (lv' := [(0, .ref o1), (1, .int x1), (2, .int x2), (3, .int (nI 1)), (4, .int (nI n1)), (5, .ref o2)]) rfl ?_
  refine cg_aload C 5 rfl dL_sortedAt_0 ?_
  refine cg_iconst C (x := nI 0) rfl dL_sortedAt_2 ?_
  refine cg_aload_n C (i := 0) rfl 0 rfl dL_sortedAt_3 ?_
  refine cg_iload_n C (i := 1) rfl 1 rfl dL_sortedAt_4 ?_
  refine cg_iload_n C (i := 2) rfl 2 rfl dL_sortedAt_5 ?_
  refine cg_iload_n C (i := 3) rfl 3 rfl dL_sortedAt_6 ?_
  refine cg_iload C 4 rfl dL_sortedAt_7 ?_
  refine cg_callx_catch C htab (z482_X11_sortedAt l hlt S dp o1 o3 n1 x1 x2 h1 (by omega) h3 h4 h5 h6 h7 h8) cc_L_171 h5 h4 (by decide) rfl rfl ⟨by decide, by decide⟩ ⟨by decide, by decide⟩ rfl (Nat.le_of_ble_eq_true rfl) dL_sortedAt_9 (tableOf []) ⟨0, 14, 17, 28⟩ (tableOf []) rfl (fun z hz => nomatch hz) (by decide) (by decide) (name := "java/lang/IndexOutOfBoundsException") ce_L_28 (by decide) 17 rfl (fun x_9 u_9 h_9 => ?_)
  have hu_9 := h_9
  have hw_9 := hu_9.symm
  subst hw_9
  refine cg_astore (lv' := [(6, .ref x_9), (0, .ref o1), (1, .int x1), (2, .int x2), (3, .int (nI 1)), (4, .int (nI n1)), (5, .ref o2)]) C (Nat.le_of_ble_eq_true rfl) rfl dL_sortedAt_17 ?_
  refine cg_iconst C (x := nI 1) rfl dL_sortedAt_19 ?_
  exact cg_iret C ⟨rfl, rfl⟩ dL_sortedAt_20 (by decide) (by decide)
set_option maxHeartbeats 4000000 in
set_option maxRecDepth 100000 in
theorem z484_X11_sortedAt (l : Launch) (hlt : l.stackTraces = false) (S : cS) (dp : Nat) (o1 o2 : Nat) (n1 : Nat) (x1 x2 : Int32) (h1 : n1 ≤ 2147483647) (h2 : cr S 360 o1 = (some o2)) (h3 : cK S o1 = 11) (h4 : o1 ∈ cL S) (h5 : ci S 386 o2 = (nI 0)) (h6 : cK S o2 = 12) (h7 : o2 ∈ cL S) : cMetX "java/lang/IndexOutOfBoundsException" (fun u_ => u_ = S) l yX11_sortedAt cX11_sortedAt 9 (some .int) 7 1 6 104 [.ref o1, .int (nI n1), .int x1, .int (nI 1), .int x2] S dp := by
  intro D Y tp sz
  refine cg_bodyX (by decide +kernel) (Nat.le_of_ble_eq_true rfl) ?_
  intro p e s m args below meth c C hne
  generalize va_A (cWd Y S) sz = A at C ⊢
  have C : cC p s m args meth c cX11_sortedAt 9 (some .int) A D Y tp dp RX11 := C
  refine cg_lv (lv' := [(0, .ref o1), (1, .int (nI n1)), (2, .int x1), (3, .int (nI 1)), (4, .int x2)]) rfl ?_
  refine cg_aload_n C (i := 0) rfl 0 rfl dX11_sortedAt_0 ?_
  refine cg_iload_n C (i := 1) rfl 1 rfl dX11_sortedAt_1 ?_
  exact cg_callx C hne (z175_X11_snapshotOf l hlt S dp o1 o2 n1 (by omega) h2 h3 h4 h5 h6 h7) cc_X11_317 h4 h3 (by decide) rfl rfl ⟨by decide, by decide⟩ ⟨by decide, by decide⟩ rfl (Nat.le_of_ble_eq_true rfl) dX11_sortedAt_2 ⟨by decide, by decide⟩ (fun u_ h_ => by
      have hu_ := h_
      exact hu_)
set_option maxHeartbeats 4000000 in
set_option maxRecDepth 100000 in
theorem z485_L_sortedAt (l : Launch) (hlt : l.stackTraces = false) (S : cS) (dp : Nat) (o1 o2 o3 : Nat) (n1 : Nat) (x1 x2 : Int32) (h1 : n1 ≤ 2147483647) (h2 : cr S 360 o1 = (some o3)) (h3 : cK S o1 = 11) (h4 : o1 ∈ cL S) (h5 : ci S 386 o3 = (nI 0)) (h6 : cK S o3 = 12) (h7 : o3 ∈ cL S) : cMetW (cQi (fun r_ u_ => r_ = (nI 1) ∧ u_ = S)) l yL_sortedAt cL_sortedAt 7 (some .int) [(0, 14, 17, 28)] 8 1 6 132 [.ref o1, .int (nI n1), .int x1, .int (nI 1), .int x2, .ref o2] S dp := by
  intro D Y tp sz
  refine cg_bodyW (by decide +kernel) (Nat.le_of_ble_eq_true rfl) ?_
  intro p e s m args below meth c C htab
  generalize va_A (cWd Y S) sz = A at C ⊢
  have C : cC p s m args meth c cL_sortedAt 7 (some .int) A D Y tp dp RL := C
  refine cg_lv (lv' := [(0, .ref o1), (1, .int (nI n1)), (2, .int x1), (3, .int (nI 1)), (4, .int x2), (5, .ref o2)]) rfl ?_
  refine cg_aload C 5 rfl dL_sortedAt_0 ?_
  refine cg_iconst C (x := nI 0) rfl dL_sortedAt_2 ?_
  refine cg_aload_n C (i := 0) rfl 0 rfl dL_sortedAt_3 ?_
  refine cg_iload_n C (i := 1) rfl 1 rfl dL_sortedAt_4 ?_
  refine cg_iload_n C (i := 2) rfl 2 rfl dL_sortedAt_5 ?_
  refine cg_iload_n C (i := 3) rfl 3 rfl dL_sortedAt_6 ?_
  refine cg_iload C 4 rfl dL_sortedAt_7 ?_
  refine cg_callx_catch C htab (z484_X11_sortedAt l hlt S dp o1 o3 n1 x1 x2 (by omega) h2 h3 h4 h5 h6 h7) cc_L_171 h4 h3 (by decide) rfl rfl ⟨by decide, by decide⟩ ⟨by decide, by decide⟩ rfl (Nat.le_of_ble_eq_true rfl) dL_sortedAt_9 (tableOf []) ⟨0, 14, 17, 28⟩ (tableOf []) rfl (fun z hz => nomatch hz) (by decide) (by decide) (name := "java/lang/IndexOutOfBoundsException") ce_L_28 (by decide) 17 rfl (fun x_9 u_9 h_9 => ?_)
  have hu_9 := h_9
  have hw_9 := hu_9.symm
  subst hw_9
  refine cg_astore (lv' := [(6, .ref x_9), (0, .ref o1), (1, .int (nI n1)), (2, .int x1), (3, .int (nI 1)), (4, .int x2), (5, .ref o2)]) C (Nat.le_of_ble_eq_true rfl) rfl dL_sortedAt_17 ?_
  refine cg_iconst C (x := nI 1) rfl dL_sortedAt_19 ?_
  exact cg_iret C ⟨rfl, rfl⟩ dL_sortedAt_20 (by decide) (by decide)
set_option maxHeartbeats 4000000 in
set_option maxRecDepth 100000 in
theorem z486_X11_sortedAt (l : Launch) (hlt : l.stackTraces = false) (S : cS) (dp : Nat) (o1 o2 : Nat) (n1 : Nat) (x1 x2 : Int32) (h1 : n1 ≤ 2147483647) (h2 : x2 < 0) (h3 : cr S 360 o1 = (some o2)) (h4 : cK S o1 = 11) (h5 : o1 ∈ cL S) (h6 : ci S 386 o2 = (nI 0)) (h7 : cK S o2 = 12) (h8 : o2 ∈ cL S) : cMetX "java/lang/IndexOutOfBoundsException" (fun u_ => u_ = S) l yX11_sortedAt cX11_sortedAt 9 (some .int) 7 1 6 104 [.ref o1, .int (nI n1), .int x1, .int (nI 1), .int x2] S dp := by
  intro D Y tp sz
  refine cg_bodyX (by decide +kernel) (Nat.le_of_ble_eq_true rfl) ?_
  intro p e s m args below meth c C hne
  generalize va_A (cWd Y S) sz = A at C ⊢
  have C : cC p s m args meth c cX11_sortedAt 9 (some .int) A D Y tp dp RX11 := C
  refine cg_lv (lv' := [(0, .ref o1), (1, .int (nI n1)), (2, .int x1), (3, .int (nI 1)), (4, .int x2)]) rfl ?_
  refine cg_aload_n C (i := 0) rfl 0 rfl dX11_sortedAt_0 ?_
  refine cg_iload_n C (i := 1) rfl 1 rfl dX11_sortedAt_1 ?_
  exact cg_callx C hne (z175_X11_snapshotOf l hlt S dp o1 o2 n1 (by omega) h3 h4 h5 h6 h7 h8) cc_X11_317 h5 h4 (by decide) rfl rfl ⟨by decide, by decide⟩ ⟨by decide, by decide⟩ rfl (Nat.le_of_ble_eq_true rfl) dX11_sortedAt_2 ⟨by decide, by decide⟩ (fun u_ h_ => by
      have hu_ := h_
      exact hu_)
set_option maxHeartbeats 4000000 in
set_option maxRecDepth 100000 in
theorem z487_L_sortedAt (l : Launch) (hlt : l.stackTraces = false) (S : cS) (dp : Nat) (o1 o2 o3 : Nat) (n1 : Nat) (x1 x2 : Int32) (h1 : n1 ≤ 2147483647) (h2 : x2 < 0) (h3 : cr S 360 o1 = (some o3)) (h4 : cK S o1 = 11) (h5 : o1 ∈ cL S) (h6 : ci S 386 o3 = (nI 0)) (h7 : cK S o3 = 12) (h8 : o3 ∈ cL S) : cMetW (cQi (fun r_ u_ => r_ = (nI 1) ∧ u_ = S)) l yL_sortedAt cL_sortedAt 7 (some .int) [(0, 14, 17, 28)] 8 1 6 132 [.ref o1, .int (nI n1), .int x1, .int (nI 1), .int x2, .ref o2] S dp := by
  intro D Y tp sz
  refine cg_bodyW (by decide +kernel) (Nat.le_of_ble_eq_true rfl) ?_
  intro p e s m args below meth c C htab
  generalize va_A (cWd Y S) sz = A at C ⊢
  have C : cC p s m args meth c cL_sortedAt 7 (some .int) A D Y tp dp RL := C
  refine cg_lv (lv' := [(0, .ref o1), (1, .int (nI n1)), (2, .int x1), (3, .int (nI 1)), (4, .int x2), (5, .ref o2)]) rfl ?_
  refine cg_aload C 5 rfl dL_sortedAt_0 ?_
  refine cg_iconst C (x := nI 0) rfl dL_sortedAt_2 ?_
  refine cg_aload_n C (i := 0) rfl 0 rfl dL_sortedAt_3 ?_
  refine cg_iload_n C (i := 1) rfl 1 rfl dL_sortedAt_4 ?_
  refine cg_iload_n C (i := 2) rfl 2 rfl dL_sortedAt_5 ?_
  refine cg_iload_n C (i := 3) rfl 3 rfl dL_sortedAt_6 ?_
  refine cg_iload C 4 rfl dL_sortedAt_7 ?_
  refine cg_callx_catch C htab (z486_X11_sortedAt l hlt S dp o1 o3 n1 x1 x2 (by omega) h2 h3 h4 h5 h6 h7 h8) cc_L_171 h5 h4 (by decide) rfl rfl ⟨by decide, by decide⟩ ⟨by decide, by decide⟩ rfl (Nat.le_of_ble_eq_true rfl) dL_sortedAt_9 (tableOf []) ⟨0, 14, 17, 28⟩ (tableOf []) rfl (fun z hz => nomatch hz) (by decide) (by decide) (name := "java/lang/IndexOutOfBoundsException") ce_L_28 (by decide) 17 rfl (fun x_9 u_9 h_9 => ?_)
  have hu_9 := h_9
  have hw_9 := hu_9.symm
  subst hw_9
  refine cg_astore (lv' := [(6, .ref x_9), (0, .ref o1), (1, .int (nI n1)), (2, .int x1), (3, .int (nI 1)), (4, .int x2), (5, .ref o2)]) C (Nat.le_of_ble_eq_true rfl) rfl dL_sortedAt_17 ?_
  refine cg_iconst C (x := nI 1) rfl dL_sortedAt_19 ?_
  exact cg_iret C ⟨rfl, rfl⟩ dL_sortedAt_20 (by decide) (by decide)
set_option maxHeartbeats 4000000 in
set_option maxRecDepth 100000 in
theorem z488_X11_sortedAt (l : Launch) (hlt : l.stackTraces = false) (S : cS) (dp : Nat) (o1 o2 : Nat) (n1 n2 : Nat) (x1 : Int32) (h1 : n1 ≤ 2147483647) (h2 : n2 ≤ 2147483647) (h3 : cr S 360 o1 = (some o2)) (h4 : cK S o1 = 11) (h5 : o1 ∈ cL S) (h6 : ci S 386 o2 = (nI 0)) (h7 : cK S o2 = 12) (h8 : o2 ∈ cL S) : cMetX "java/lang/IndexOutOfBoundsException" (fun u_ => u_ = S) l yX11_sortedAt cX11_sortedAt 9 (some .int) 7 1 6 104 [.ref o1, .int (nI n1), .int x1, .int (nI 1), .int (nI n2)] S dp := by
  intro D Y tp sz
  refine cg_bodyX (by decide +kernel) (Nat.le_of_ble_eq_true rfl) ?_
  intro p e s m args below meth c C hne
  generalize va_A (cWd Y S) sz = A at C ⊢
  have C : cC p s m args meth c cX11_sortedAt 9 (some .int) A D Y tp dp RX11 := C
  refine cg_lv (lv' := [(0, .ref o1), (1, .int (nI n1)), (2, .int x1), (3, .int (nI 1)), (4, .int (nI n2))]) rfl ?_
  refine cg_aload_n C (i := 0) rfl 0 rfl dX11_sortedAt_0 ?_
  refine cg_iload_n C (i := 1) rfl 1 rfl dX11_sortedAt_1 ?_
  exact cg_callx C hne (z175_X11_snapshotOf l hlt S dp o1 o2 n1 (by omega) h3 h4 h5 h6 h7 h8) cc_X11_317 h5 h4 (by decide) rfl rfl ⟨by decide, by decide⟩ ⟨by decide, by decide⟩ rfl (Nat.le_of_ble_eq_true rfl) dX11_sortedAt_2 ⟨by decide, by decide⟩ (fun u_ h_ => by
      have hu_ := h_
      exact hu_)
set_option maxHeartbeats 4000000 in
set_option maxRecDepth 100000 in
theorem z489_L_sortedAt (l : Launch) (hlt : l.stackTraces = false) (S : cS) (dp : Nat) (o1 o2 o3 : Nat) (n1 n2 : Nat) (x1 : Int32) (h1 : n1 ≤ 2147483647) (h2 : n2 ≤ 2147483647) (h3 : cr S 360 o1 = (some o3)) (h4 : cK S o1 = 11) (h5 : o1 ∈ cL S) (h6 : ci S 386 o3 = (nI 0)) (h7 : cK S o3 = 12) (h8 : o3 ∈ cL S) : cMetW (cQi (fun r_ u_ => r_ = (nI 1) ∧ u_ = S)) l yL_sortedAt cL_sortedAt 7 (some .int) [(0, 14, 17, 28)] 8 1 6 132 [.ref o1, .int (nI n1), .int x1, .int (nI 1), .int (nI n2), .ref o2] S dp := by
  intro D Y tp sz
  refine cg_bodyW (by decide +kernel) (Nat.le_of_ble_eq_true rfl) ?_
  intro p e s m args below meth c C htab
  generalize va_A (cWd Y S) sz = A at C ⊢
  have C : cC p s m args meth c cL_sortedAt 7 (some .int) A D Y tp dp RL := C
  refine cg_lv (lv' := [(0, .ref o1), (1, .int (nI n1)), (2, .int x1), (3, .int (nI 1)), (4, .int (nI n2)), (5, .ref o2)]) rfl ?_
  refine cg_aload C 5 rfl dL_sortedAt_0 ?_
  refine cg_iconst C (x := nI 0) rfl dL_sortedAt_2 ?_
  refine cg_aload_n C (i := 0) rfl 0 rfl dL_sortedAt_3 ?_
  refine cg_iload_n C (i := 1) rfl 1 rfl dL_sortedAt_4 ?_
  refine cg_iload_n C (i := 2) rfl 2 rfl dL_sortedAt_5 ?_
  refine cg_iload_n C (i := 3) rfl 3 rfl dL_sortedAt_6 ?_
  refine cg_iload C 4 rfl dL_sortedAt_7 ?_
  refine cg_callx_catch C htab (z488_X11_sortedAt l hlt S dp o1 o3 n1 n2 x1 (by omega) (by omega) h3 h4 h5 h6 h7 h8) cc_L_171 h5 h4 (by decide) rfl rfl ⟨by decide, by decide⟩ ⟨by decide, by decide⟩ rfl (Nat.le_of_ble_eq_true rfl) dL_sortedAt_9 (tableOf []) ⟨0, 14, 17, 28⟩ (tableOf []) rfl (fun z hz => nomatch hz) (by decide) (by decide) (name := "java/lang/IndexOutOfBoundsException") ce_L_28 (by decide) 17 rfl (fun x_9 u_9 h_9 => ?_)
  have hu_9 := h_9
  have hw_9 := hu_9.symm
  subst hw_9
  refine cg_astore (lv' := [(6, .ref x_9), (0, .ref o1), (1, .int (nI n1)), (2, .int x1), (3, .int (nI 1)), (4, .int (nI n2)), (5, .ref o2)]) C (Nat.le_of_ble_eq_true rfl) rfl dL_sortedAt_17 ?_
  refine cg_iconst C (x := nI 1) rfl dL_sortedAt_19 ?_
  exact cg_iret C ⟨rfl, rfl⟩ dL_sortedAt_20 (by decide) (by decide)
set_option maxHeartbeats 4000000 in
set_option maxRecDepth 100000 in
theorem z490_X11_sortedAt (l : Launch) (hlt : l.stackTraces = false) (S : cS) (dp : Nat) (o1 o2 : Nat) (x1 x2 x3 : Int32) (h1 : cr S 360 o1 = (some o2)) (h2 : cK S o1 = 11) (h3 : o1 ∈ cL S) (h4 : ci S 386 o2 = (nI 0)) (h5 : cK S o2 = 12) (h6 : o2 ∈ cL S) : cMetX "java/lang/IndexOutOfBoundsException" (fun u_ => u_ = S) l yX11_sortedAt cX11_sortedAt 9 (some .int) 7 1 6 104 [.ref o1, .int x1, .int x2, .int (nI 0), .int x3] S dp := by
  intro D Y tp sz
  refine cg_bodyX (by decide +kernel) (Nat.le_of_ble_eq_true rfl) ?_
  intro p e s m args below meth c C hne
  generalize va_A (cWd Y S) sz = A at C ⊢
  have C : cC p s m args meth c cX11_sortedAt 9 (some .int) A D Y tp dp RX11 := C
  refine cg_lv (lv' := [(0, .ref o1), (1, .int x1), (2, .int x2), (3, .int (nI 0)), (4, .int x3)]) rfl ?_
  refine cg_aload_n C (i := 0) rfl 0 rfl dX11_sortedAt_0 ?_
  refine cg_iload_n C (i := 1) rfl 1 rfl dX11_sortedAt_1 ?_
  exact cg_callx C hne (z169_X11_snapshotOf l hlt S dp o1 o2 x1 h1 h2 h3 h4 h5 h6) cc_X11_317 h3 h2 (by decide) rfl rfl ⟨by decide, by decide⟩ ⟨by decide, by decide⟩ rfl (Nat.le_of_ble_eq_true rfl) dX11_sortedAt_2 ⟨by decide, by decide⟩ (fun u_ h_ => by
      have hu_ := h_
      exact hu_)
set_option maxHeartbeats 4000000 in
set_option maxRecDepth 100000 in
theorem z491_L_sortedAt (l : Launch) (hlt : l.stackTraces = false) (S : cS) (dp : Nat) (o1 o2 o3 : Nat) (x1 x2 x3 : Int32) (h1 : cr S 360 o1 = (some o3)) (h2 : cK S o1 = 11) (h3 : o1 ∈ cL S) (h4 : ci S 386 o3 = (nI 0)) (h5 : cK S o3 = 12) (h6 : o3 ∈ cL S) : cMetW (cQi (fun r_ u_ => r_ = (nI 1) ∧ u_ = S)) l yL_sortedAt cL_sortedAt 7 (some .int) [(0, 14, 17, 28)] 8 1 6 132 [.ref o1, .int x1, .int x2, .int (nI 0), .int x3, .ref o2] S dp := by
  intro D Y tp sz
  refine cg_bodyW (by decide +kernel) (Nat.le_of_ble_eq_true rfl) ?_
  intro p e s m args below meth c C htab
  generalize va_A (cWd Y S) sz = A at C ⊢
  have C : cC p s m args meth c cL_sortedAt 7 (some .int) A D Y tp dp RL := C
  refine cg_lv (lv' := [(0, .ref o1), (1, .int x1), (2, .int x2), (3, .int (nI 0)), (4, .int x3), (5, .ref o2)]) rfl ?_
  refine cg_aload C 5 rfl dL_sortedAt_0 ?_
  refine cg_iconst C (x := nI 0) rfl dL_sortedAt_2 ?_
  refine cg_aload_n C (i := 0) rfl 0 rfl dL_sortedAt_3 ?_
  refine cg_iload_n C (i := 1) rfl 1 rfl dL_sortedAt_4 ?_
  refine cg_iload_n C (i := 2) rfl 2 rfl dL_sortedAt_5 ?_
  refine cg_iload_n C (i := 3) rfl 3 rfl dL_sortedAt_6 ?_
  refine cg_iload C 4 rfl dL_sortedAt_7 ?_
  refine cg_callx_catch C htab (z490_X11_sortedAt l hlt S dp o1 o3 x1 x2 x3 h1 h2 h3 h4 h5 h6) cc_L_171 h3 h2 (by decide) rfl rfl ⟨by decide, by decide⟩ ⟨by decide, by decide⟩ rfl (Nat.le_of_ble_eq_true rfl) dL_sortedAt_9 (tableOf []) ⟨0, 14, 17, 28⟩ (tableOf []) rfl (fun z hz => nomatch hz) (by decide) (by decide) (name := "java/lang/IndexOutOfBoundsException") ce_L_28 (by decide) 17 rfl (fun x_9 u_9 h_9 => ?_)
  have hu_9 := h_9
  have hw_9 := hu_9.symm
  subst hw_9
  refine cg_astore (lv' := [(6, .ref x_9), (0, .ref o1), (1, .int x1), (2, .int x2), (3, .int (nI 0)), (4, .int x3), (5, .ref o2)]) C (Nat.le_of_ble_eq_true rfl) rfl dL_sortedAt_17 ?_
  refine cg_iconst C (x := nI 1) rfl dL_sortedAt_19 ?_
  exact cg_iret C ⟨rfl, rfl⟩ dL_sortedAt_20 (by decide) (by decide)
set_option maxHeartbeats 4000000 in
set_option maxRecDepth 100000 in
theorem z492_X11_sortedAt (l : Launch) (hlt : l.stackTraces = false) (S : cS) (dp : Nat) (o1 o2 : Nat) (x1 x2 x3 : Int32) (h1 : x1 < 0) (h2 : cr S 360 o1 = (some o2)) (h3 : cK S o1 = 11) (h4 : o1 ∈ cL S) (h5 : ci S 386 o2 = (nI 0)) (h6 : cK S o2 = 12) (h7 : o2 ∈ cL S) : cMetX "java/lang/IndexOutOfBoundsException" (fun u_ => u_ = S) l yX11_sortedAt cX11_sortedAt 9 (some .int) 7 1 6 104 [.ref o1, .int x1, .int x2, .int (nI 0), .int x3] S dp := by
  intro D Y tp sz
  refine cg_bodyX (by decide +kernel) (Nat.le_of_ble_eq_true rfl) ?_
  intro p e s m args below meth c C hne
  generalize va_A (cWd Y S) sz = A at C ⊢
  have C : cC p s m args meth c cX11_sortedAt 9 (some .int) A D Y tp dp RX11 := C
  refine cg_lv (lv' := [(0, .ref o1), (1, .int x1), (2, .int x2), (3, .int (nI 0)), (4, .int x3)]) rfl ?_
  refine cg_aload_n C (i := 0) rfl 0 rfl dX11_sortedAt_0 ?_
  refine cg_iload_n C (i := 1) rfl 1 rfl dX11_sortedAt_1 ?_
  exact cg_callx C hne (z172_X11_snapshotOf l hlt S dp o1 o2 x1 h1 h2 h3 h4 h5 h6 h7) cc_X11_317 h4 h3 (by decide) rfl rfl ⟨by decide, by decide⟩ ⟨by decide, by decide⟩ rfl (Nat.le_of_ble_eq_true rfl) dX11_sortedAt_2 ⟨by decide, by decide⟩ (fun u_ h_ => by
      have hu_ := h_
      exact hu_)
set_option maxHeartbeats 4000000 in
set_option maxRecDepth 100000 in
theorem z493_L_sortedAt (l : Launch) (hlt : l.stackTraces = false) (S : cS) (dp : Nat) (o1 o2 o3 : Nat) (x1 x2 x3 : Int32) (h1 : x1 < 0) (h2 : cr S 360 o1 = (some o3)) (h3 : cK S o1 = 11) (h4 : o1 ∈ cL S) (h5 : ci S 386 o3 = (nI 0)) (h6 : cK S o3 = 12) (h7 : o3 ∈ cL S) : cMetW (cQi (fun r_ u_ => r_ = (nI 1) ∧ u_ = S)) l yL_sortedAt cL_sortedAt 7 (some .int) [(0, 14, 17, 28)] 8 1 6 132 [.ref o1, .int x1, .int x2, .int (nI 0), .int x3, .ref o2] S dp := by
  intro D Y tp sz
  refine cg_bodyW (by decide +kernel) (Nat.le_of_ble_eq_true rfl) ?_
  intro p e s m args below meth c C htab
  generalize va_A (cWd Y S) sz = A at C ⊢
  have C : cC p s m args meth c cL_sortedAt 7 (some .int) A D Y tp dp RL := C
  refine cg_lv (lv' := [(0, .ref o1), (1, .int x1), (2, .int x2), (3, .int (nI 0)), (4, .int x3), (5, .ref o2)]) rfl ?_
  refine cg_aload C 5 rfl dL_sortedAt_0 ?_
  refine cg_iconst C (x := nI 0) rfl dL_sortedAt_2 ?_
  refine cg_aload_n C (i := 0) rfl 0 rfl dL_sortedAt_3 ?_
  refine cg_iload_n C (i := 1) rfl 1 rfl dL_sortedAt_4 ?_
  refine cg_iload_n C (i := 2) rfl 2 rfl dL_sortedAt_5 ?_
  refine cg_iload_n C (i := 3) rfl 3 rfl dL_sortedAt_6 ?_
  refine cg_iload C 4 rfl dL_sortedAt_7 ?_
  refine cg_callx_catch C htab (z492_X11_sortedAt l hlt S dp o1 o3 x1 x2 x3 h1 h2 h3 h4 h5 h6 h7) cc_L_171 h4 h3 (by decide) rfl rfl ⟨by decide, by decide⟩ ⟨by decide, by decide⟩ rfl (Nat.le_of_ble_eq_true rfl) dL_sortedAt_9 (tableOf []) ⟨0, 14, 17, 28⟩ (tableOf []) rfl (fun z hz => nomatch hz) (by decide) (by decide) (name := "java/lang/IndexOutOfBoundsException") ce_L_28 (by decide) 17 rfl (fun x_9 u_9 h_9 => ?_)
  have hu_9 := h_9
  have hw_9 := hu_9.symm
  subst hw_9
  refine cg_astore (lv' := [(6, .ref x_9), (0, .ref o1), (1, .int x1), (2, .int x2), (3, .int (nI 0)), (4, .int x3), (5, .ref o2)]) C (Nat.le_of_ble_eq_true rfl) rfl dL_sortedAt_17 ?_
  refine cg_iconst C (x := nI 1) rfl dL_sortedAt_19 ?_
  exact cg_iret C ⟨rfl, rfl⟩ dL_sortedAt_20 (by decide) (by decide)
set_option maxHeartbeats 4000000 in
set_option maxRecDepth 100000 in
theorem z494_X11_sortedAt (l : Launch) (hlt : l.stackTraces = false) (S : cS) (dp : Nat) (o1 o2 : Nat) (x1 x2 x3 : Int32) (h1 : x1 < 0) (h2 : x3 < 0) (h3 : cr S 360 o1 = (some o2)) (h4 : cK S o1 = 11) (h5 : o1 ∈ cL S) (h6 : ci S 386 o2 = (nI 0)) (h7 : cK S o2 = 12) (h8 : o2 ∈ cL S) : cMetX "java/lang/IndexOutOfBoundsException" (fun u_ => u_ = S) l yX11_sortedAt cX11_sortedAt 9 (some .int) 7 1 6 104 [.ref o1, .int x1, .int x2, .int (nI 0), .int x3] S dp := by
  intro D Y tp sz
  refine cg_bodyX (by decide +kernel) (Nat.le_of_ble_eq_true rfl) ?_
  intro p e s m args below meth c C hne
  generalize va_A (cWd Y S) sz = A at C ⊢
  have C : cC p s m args meth c cX11_sortedAt 9 (some .int) A D Y tp dp RX11 := C
  refine cg_lv (lv' := [(0, .ref o1), (1, .int x1), (2, .int x2), (3, .int (nI 0)), (4, .int x3)]) rfl ?_
  refine cg_aload_n C (i := 0) rfl 0 rfl dX11_sortedAt_0 ?_
  refine cg_iload_n C (i := 1) rfl 1 rfl dX11_sortedAt_1 ?_
  exact cg_callx C hne (z172_X11_snapshotOf l hlt S dp o1 o2 x1 h1 h3 h4 h5 h6 h7 h8) cc_X11_317 h5 h4 (by decide) rfl rfl ⟨by decide, by decide⟩ ⟨by decide, by decide⟩ rfl (Nat.le_of_ble_eq_true rfl) dX11_sortedAt_2 ⟨by decide, by decide⟩ (fun u_ h_ => by
      have hu_ := h_
      exact hu_)
set_option maxHeartbeats 4000000 in
set_option maxRecDepth 100000 in
theorem z495_L_sortedAt (l : Launch) (hlt : l.stackTraces = false) (S : cS) (dp : Nat) (o1 o2 o3 : Nat) (x1 x2 x3 : Int32) (h1 : x1 < 0) (h2 : x3 < 0) (h3 : cr S 360 o1 = (some o3)) (h4 : cK S o1 = 11) (h5 : o1 ∈ cL S) (h6 : ci S 386 o3 = (nI 0)) (h7 : cK S o3 = 12) (h8 : o3 ∈ cL S) : cMetW (cQi (fun r_ u_ => r_ = (nI 1) ∧ u_ = S)) l yL_sortedAt cL_sortedAt 7 (some .int) [(0, 14, 17, 28)] 8 1 6 132 [.ref o1, .int x1, .int x2, .int (nI 0), .int x3, .ref o2] S dp := by
  intro D Y tp sz
  refine cg_bodyW (by decide +kernel) (Nat.le_of_ble_eq_true rfl) ?_
  intro p e s m args below meth c C htab
  generalize va_A (cWd Y S) sz = A at C ⊢
  have C : cC p s m args meth c cL_sortedAt 7 (some .int) A D Y tp dp RL := C
  refine cg_lv (lv' := [(0, .ref o1), (1, .int x1), (2, .int x2), (3, .int (nI 0)), (4, .int x3), (5, .ref o2)]) rfl ?_
  refine cg_aload C 5 rfl dL_sortedAt_0 ?_
  refine cg_iconst C (x := nI 0) rfl dL_sortedAt_2 ?_
  refine cg_aload_n C (i := 0) rfl 0 rfl dL_sortedAt_3 ?_
  refine cg_iload_n C (i := 1) rfl 1 rfl dL_sortedAt_4 ?_
  refine cg_iload_n C (i := 2) rfl 2 rfl dL_sortedAt_5 ?_
  refine cg_iload_n C (i := 3) rfl 3 rfl dL_sortedAt_6 ?_
  refine cg_iload C 4 rfl dL_sortedAt_7 ?_
  refine cg_callx_catch C htab (z494_X11_sortedAt l hlt S dp o1 o3 x1 x2 x3 h1 h2 h3 h4 h5 h6 h7 h8) cc_L_171 h5 h4 (by decide) rfl rfl ⟨by decide, by decide⟩ ⟨by decide, by decide⟩ rfl (Nat.le_of_ble_eq_true rfl) dL_sortedAt_9 (tableOf []) ⟨0, 14, 17, 28⟩ (tableOf []) rfl (fun z hz => nomatch hz) (by decide) (by decide) (name := "java/lang/IndexOutOfBoundsException") ce_L_28 (by decide) 17 rfl (fun x_9 u_9 h_9 => ?_)
  have hu_9 := h_9
  have hw_9 := hu_9.symm
  subst hw_9
  refine cg_astore (lv' := [(6, .ref x_9), (0, .ref o1), (1, .int x1), (2, .int x2), (3, .int (nI 0)), (4, .int x3), (5, .ref o2)]) C (Nat.le_of_ble_eq_true rfl) rfl dL_sortedAt_17 ?_
  refine cg_iconst C (x := nI 1) rfl dL_sortedAt_19 ?_
  exact cg_iret C ⟨rfl, rfl⟩ dL_sortedAt_20 (by decide) (by decide)
set_option maxHeartbeats 4000000 in
set_option maxRecDepth 100000 in
theorem z496_X11_sortedAt (l : Launch) (hlt : l.stackTraces = false) (S : cS) (dp : Nat) (o1 o2 : Nat) (n1 : Nat) (x1 x2 : Int32) (h1 : x1 < 0) (h2 : n1 ≤ 2147483647) (h3 : cr S 360 o1 = (some o2)) (h4 : cK S o1 = 11) (h5 : o1 ∈ cL S) (h6 : ci S 386 o2 = (nI 0)) (h7 : cK S o2 = 12) (h8 : o2 ∈ cL S) : cMetX "java/lang/IndexOutOfBoundsException" (fun u_ => u_ = S) l yX11_sortedAt cX11_sortedAt 9 (some .int) 7 1 6 104 [.ref o1, .int x1, .int x2, .int (nI 0), .int (nI n1)] S dp := by
  intro D Y tp sz
  refine cg_bodyX (by decide +kernel) (Nat.le_of_ble_eq_true rfl) ?_
  intro p e s m args below meth c C hne
  generalize va_A (cWd Y S) sz = A at C ⊢
  have C : cC p s m args meth c cX11_sortedAt 9 (some .int) A D Y tp dp RX11 := C
  refine cg_lv (lv' := [(0, .ref o1), (1, .int x1), (2, .int x2), (3, .int (nI 0)), (4, .int (nI n1))]) rfl ?_
  refine cg_aload_n C (i := 0) rfl 0 rfl dX11_sortedAt_0 ?_
  refine cg_iload_n C (i := 1) rfl 1 rfl dX11_sortedAt_1 ?_
  exact cg_callx C hne (z172_X11_snapshotOf l hlt S dp o1 o2 x1 h1 h3 h4 h5 h6 h7 h8) cc_X11_317 h5 h4 (by decide) rfl rfl ⟨by decide, by decide⟩ ⟨by decide, by decide⟩ rfl (Nat.le_of_ble_eq_true rfl) dX11_sortedAt_2 ⟨by decide, by decide⟩ (fun u_ h_ => by
      have hu_ := h_
      exact hu_)
set_option maxHeartbeats 4000000 in
set_option maxRecDepth 100000 in
theorem z497_L_sortedAt (l : Launch) (hlt : l.stackTraces = false) (S : cS) (dp : Nat) (o1 o2 o3 : Nat) (n1 : Nat) (x1 x2 : Int32) (h1 : x1 < 0) (h2 : n1 ≤ 2147483647) (h3 : cr S 360 o1 = (some o3)) (h4 : cK S o1 = 11) (h5 : o1 ∈ cL S) (h6 : ci S 386 o3 = (nI 0)) (h7 : cK S o3 = 12) (h8 : o3 ∈ cL S) : cMetW (cQi (fun r_ u_ => r_ = (nI 1) ∧ u_ = S)) l yL_sortedAt cL_sortedAt 7 (some .int) [(0, 14, 17, 28)] 8 1 6 132 [.ref o1, .int x1, .int x2, .int (nI 0), .int (nI n1), .ref o2] S dp := by
  intro D Y tp sz
  refine cg_bodyW (by decide +kernel) (Nat.le_of_ble_eq_true rfl) ?_
  intro p e s m args below meth c C htab
  generalize va_A (cWd Y S) sz = A at C ⊢
  have C : cC p s m args meth c cL_sortedAt 7 (some .int) A D Y tp dp RL := C
  refine cg_lv (lv' := [(0, .ref o1), (1, .int x1), (2, .int x2), (3, .int (nI 0)), (4, .int (nI n1)), (5, .ref o2)]) rfl ?_
  refine cg_aload C 5 rfl dL_sortedAt_0 ?_
  refine cg_iconst C (x := nI 0) rfl dL_sortedAt_2 ?_
  refine cg_aload_n C (i := 0) rfl 0 rfl dL_sortedAt_3 ?_
  refine cg_iload_n C (i := 1) rfl 1 rfl dL_sortedAt_4 ?_
  refine cg_iload_n C (i := 2) rfl 2 rfl dL_sortedAt_5 ?_
  refine cg_iload_n C (i := 3) rfl 3 rfl dL_sortedAt_6 ?_
  refine cg_iload C 4 rfl dL_sortedAt_7 ?_
  refine cg_callx_catch C htab (z496_X11_sortedAt l hlt S dp o1 o3 n1 x1 x2 h1 (by omega) h3 h4 h5 h6 h7 h8) cc_L_171 h5 h4 (by decide) rfl rfl ⟨by decide, by decide⟩ ⟨by decide, by decide⟩ rfl (Nat.le_of_ble_eq_true rfl) dL_sortedAt_9 (tableOf []) ⟨0, 14, 17, 28⟩ (tableOf []) rfl (fun z hz => nomatch hz) (by decide) (by decide) (name := "java/lang/IndexOutOfBoundsException") ce_L_28 (by decide) 17 rfl (fun x_9 u_9 h_9 => ?_)
  have hu_9 := h_9
  have hw_9 := hu_9.symm
  subst hw_9
  refine cg_astore (lv' := [(6, .ref x_9), (0, .ref o1), (1, .int x1), (2, .int x2), (3, .int (nI 0)), (4, .int (nI n1)), (5, .ref o2)]) C (Nat.le_of_ble_eq_true rfl) rfl dL_sortedAt_17 ?_
  refine cg_iconst C (x := nI 1) rfl dL_sortedAt_19 ?_
  exact cg_iret C ⟨rfl, rfl⟩ dL_sortedAt_20 (by decide) (by decide)
set_option maxHeartbeats 4000000 in
set_option maxRecDepth 100000 in
theorem z498_X11_sortedAt (l : Launch) (hlt : l.stackTraces = false) (S : cS) (dp : Nat) (o1 o2 : Nat) (n1 : Nat) (x1 x2 : Int32) (h1 : n1 ≤ 2147483647) (h2 : cr S 360 o1 = (some o2)) (h3 : cK S o1 = 11) (h4 : o1 ∈ cL S) (h5 : ci S 386 o2 = (nI 0)) (h6 : cK S o2 = 12) (h7 : o2 ∈ cL S) : cMetX "java/lang/IndexOutOfBoundsException" (fun u_ => u_ = S) l yX11_sortedAt cX11_sortedAt 9 (some .int) 7 1 6 104 [.ref o1, .int (nI n1), .int x1, .int (nI 0), .int x2] S dp := by
  intro D Y tp sz
  refine cg_bodyX (by decide +kernel) (Nat.le_of_ble_eq_true rfl) ?_
  intro p e s m args below meth c C hne
  generalize va_A (cWd Y S) sz = A at C ⊢
  have C : cC p s m args meth c cX11_sortedAt 9 (some .int) A D Y tp dp RX11 := C
  refine cg_lv (lv' := [(0, .ref o1), (1, .int (nI n1)), (2, .int x1), (3, .int (nI 0)), (4, .int x2)]) rfl ?_
  refine cg_aload_n C (i := 0) rfl 0 rfl dX11_sortedAt_0 ?_
  refine cg_iload_n C (i := 1) rfl 1 rfl dX11_sortedAt_1 ?_
  exact cg_callx C hne (z175_X11_snapshotOf l hlt S dp o1 o2 n1 (by omega) h2 h3 h4 h5 h6 h7) cc_X11_317 h4 h3 (by decide) rfl rfl ⟨by decide, by decide⟩ ⟨by decide, by decide⟩ rfl (Nat.le_of_ble_eq_true rfl) dX11_sortedAt_2 ⟨by decide, by decide⟩ (fun u_ h_ => by
      have hu_ := h_
      exact hu_)
set_option maxHeartbeats 4000000 in
set_option maxRecDepth 100000 in
theorem z499_L_sortedAt (l : Launch) (hlt : l.stackTraces = false) (S : cS) (dp : Nat) (o1 o2 o3 : Nat) (n1 : Nat) (x1 x2 : Int32) (h1 : n1 ≤ 2147483647) (h2 : cr S 360 o1 = (some o3)) (h3 : cK S o1 = 11) (h4 : o1 ∈ cL S) (h5 : ci S 386 o3 = (nI 0)) (h6 : cK S o3 = 12) (h7 : o3 ∈ cL S) : cMetW (cQi (fun r_ u_ => r_ = (nI 1) ∧ u_ = S)) l yL_sortedAt cL_sortedAt 7 (some .int) [(0, 14, 17, 28)] 8 1 6 132 [.ref o1, .int (nI n1), .int x1, .int (nI 0), .int x2, .ref o2] S dp := by
  intro D Y tp sz
  refine cg_bodyW (by decide +kernel) (Nat.le_of_ble_eq_true rfl) ?_
  intro p e s m args below meth c C htab
  generalize va_A (cWd Y S) sz = A at C ⊢
  have C : cC p s m args meth c cL_sortedAt 7 (some .int) A D Y tp dp RL := C
  refine cg_lv (lv' := [(0, .ref o1), (1, .int (nI n1)), (2, .int x1), (3, .int (nI 0)), (4, .int x2), (5, .ref o2)]) rfl ?_
  refine cg_aload C 5 rfl dL_sortedAt_0 ?_
  refine cg_iconst C (x := nI 0) rfl dL_sortedAt_2 ?_
  refine cg_aload_n C (i := 0) rfl 0 rfl dL_sortedAt_3 ?_
  refine cg_iload_n C (i := 1) rfl 1 rfl dL_sortedAt_4 ?_
  refine cg_iload_n C (i := 2) rfl 2 rfl dL_sortedAt_5 ?_
  refine cg_iload_n C (i := 3) rfl 3 rfl dL_sortedAt_6 ?_
  refine cg_iload C 4 rfl dL_sortedAt_7 ?_
  refine cg_callx_catch C htab (z498_X11_sortedAt l hlt S dp o1 o3 n1 x1 x2 (by omega) h2 h3 h4 h5 h6 h7) cc_L_171 h4 h3 (by decide) rfl rfl ⟨by decide, by decide⟩ ⟨by decide, by decide⟩ rfl (Nat.le_of_ble_eq_true rfl) dL_sortedAt_9 (tableOf []) ⟨0, 14, 17, 28⟩ (tableOf []) rfl (fun z hz => nomatch hz) (by decide) (by decide) (name := "java/lang/IndexOutOfBoundsException") ce_L_28 (by decide) 17 rfl (fun x_9 u_9 h_9 => ?_)
  have hu_9 := h_9
  have hw_9 := hu_9.symm
  subst hw_9
  refine cg_astore (lv' := [(6, .ref x_9), (0, .ref o1), (1, .int (nI n1)), (2, .int x1), (3, .int (nI 0)), (4, .int x2), (5, .ref o2)]) C (Nat.le_of_ble_eq_true rfl) rfl dL_sortedAt_17 ?_
  refine cg_iconst C (x := nI 1) rfl dL_sortedAt_19 ?_
  exact cg_iret C ⟨rfl, rfl⟩ dL_sortedAt_20 (by decide) (by decide)
set_option maxHeartbeats 4000000 in
set_option maxRecDepth 100000 in
theorem z500_X11_sortedAt (l : Launch) (hlt : l.stackTraces = false) (S : cS) (dp : Nat) (o1 o2 : Nat) (n1 : Nat) (x1 x2 : Int32) (h1 : n1 ≤ 2147483647) (h2 : x2 < 0) (h3 : cr S 360 o1 = (some o2)) (h4 : cK S o1 = 11) (h5 : o1 ∈ cL S) (h6 : ci S 386 o2 = (nI 0)) (h7 : cK S o2 = 12) (h8 : o2 ∈ cL S) : cMetX "java/lang/IndexOutOfBoundsException" (fun u_ => u_ = S) l yX11_sortedAt cX11_sortedAt 9 (some .int) 7 1 6 104 [.ref o1, .int (nI n1), .int x1, .int (nI 0), .int x2] S dp := by
  intro D Y tp sz
  refine cg_bodyX (by decide +kernel) (Nat.le_of_ble_eq_true rfl) ?_
  intro p e s m args below meth c C hne
  generalize va_A (cWd Y S) sz = A at C ⊢
  have C : cC p s m args meth c cX11_sortedAt 9 (some .int) A D Y tp dp RX11 := C
  refine cg_lv (lv' := [(0, .ref o1), (1, .int (nI n1)), (2, .int x1), (3, .int (nI 0)), (4, .int x2)]) rfl ?_
  refine cg_aload_n C (i := 0) rfl 0 rfl dX11_sortedAt_0 ?_
  refine cg_iload_n C (i := 1) rfl 1 rfl dX11_sortedAt_1 ?_
  exact cg_callx C hne (z175_X11_snapshotOf l hlt S dp o1 o2 n1 (by omega) h3 h4 h5 h6 h7 h8) cc_X11_317 h5 h4 (by decide) rfl rfl ⟨by decide, by decide⟩ ⟨by decide, by decide⟩ rfl (Nat.le_of_ble_eq_true rfl) dX11_sortedAt_2 ⟨by decide, by decide⟩ (fun u_ h_ => by
      have hu_ := h_
      exact hu_)
set_option maxHeartbeats 4000000 in
set_option maxRecDepth 100000 in
theorem z501_L_sortedAt (l : Launch) (hlt : l.stackTraces = false) (S : cS) (dp : Nat) (o1 o2 o3 : Nat) (n1 : Nat) (x1 x2 : Int32) (h1 : n1 ≤ 2147483647) (h2 : x2 < 0) (h3 : cr S 360 o1 = (some o3)) (h4 : cK S o1 = 11) (h5 : o1 ∈ cL S) (h6 : ci S 386 o3 = (nI 0)) (h7 : cK S o3 = 12) (h8 : o3 ∈ cL S) : cMetW (cQi (fun r_ u_ => r_ = (nI 1) ∧ u_ = S)) l yL_sortedAt cL_sortedAt 7 (some .int) [(0, 14, 17, 28)] 8 1 6 132 [.ref o1, .int (nI n1), .int x1, .int (nI 0), .int x2, .ref o2] S dp := by
  intro D Y tp sz
  refine cg_bodyW (by decide +kernel) (Nat.le_of_ble_eq_true rfl) ?_
  intro p e s m args below meth c C htab
  generalize va_A (cWd Y S) sz = A at C ⊢
  have C : cC p s m args meth c cL_sortedAt 7 (some .int) A D Y tp dp RL := C
  refine cg_lv (lv' := [(0, .ref o1), (1, .int (nI n1)), (2, .int x1), (3, .int (nI 0)), (4, .int x2), (5, .ref o2)]) rfl ?_
  refine cg_aload C 5 rfl dL_sortedAt_0 ?_
  refine cg_iconst C (x := nI 0) rfl dL_sortedAt_2 ?_
  refine cg_aload_n C (i := 0) rfl 0 rfl dL_sortedAt_3 ?_
  refine cg_iload_n C (i := 1) rfl 1 rfl dL_sortedAt_4 ?_
  refine cg_iload_n C (i := 2) rfl 2 rfl dL_sortedAt_5 ?_
  refine cg_iload_n C (i := 3) rfl 3 rfl dL_sortedAt_6 ?_
  refine cg_iload C 4 rfl dL_sortedAt_7 ?_
  refine cg_callx_catch C htab (z500_X11_sortedAt l hlt S dp o1 o3 n1 x1 x2 (by omega) h2 h3 h4 h5 h6 h7 h8) cc_L_171 h5 h4 (by decide) rfl rfl ⟨by decide, by decide⟩ ⟨by decide, by decide⟩ rfl (Nat.le_of_ble_eq_true rfl) dL_sortedAt_9 (tableOf []) ⟨0, 14, 17, 28⟩ (tableOf []) rfl (fun z hz => nomatch hz) (by decide) (by decide) (name := "java/lang/IndexOutOfBoundsException") ce_L_28 (by decide) 17 rfl (fun x_9 u_9 h_9 => ?_)
  have hu_9 := h_9
  have hw_9 := hu_9.symm
  subst hw_9
  refine cg_astore (lv' := [(6, .ref x_9), (0, .ref o1), (1, .int (nI n1)), (2, .int x1), (3, .int (nI 0)), (4, .int x2), (5, .ref o2)]) C (Nat.le_of_ble_eq_true rfl) rfl dL_sortedAt_17 ?_
  refine cg_iconst C (x := nI 1) rfl dL_sortedAt_19 ?_
  exact cg_iret C ⟨rfl, rfl⟩ dL_sortedAt_20 (by decide) (by decide)
set_option maxHeartbeats 4000000 in
set_option maxRecDepth 100000 in
theorem z502_X11_sortedAt (l : Launch) (hlt : l.stackTraces = false) (S : cS) (dp : Nat) (o1 o2 : Nat) (n1 n2 : Nat) (x1 : Int32) (h1 : n1 ≤ 2147483647) (h2 : n2 ≤ 2147483647) (h3 : cr S 360 o1 = (some o2)) (h4 : cK S o1 = 11) (h5 : o1 ∈ cL S) (h6 : ci S 386 o2 = (nI 0)) (h7 : cK S o2 = 12) (h8 : o2 ∈ cL S) : cMetX "java/lang/IndexOutOfBoundsException" (fun u_ => u_ = S) l yX11_sortedAt cX11_sortedAt 9 (some .int) 7 1 6 104 [.ref o1, .int (nI n1), .int x1, .int (nI 0), .int (nI n2)] S dp := by
  intro D Y tp sz
  refine cg_bodyX (by decide +kernel) (Nat.le_of_ble_eq_true rfl) ?_
  intro p e s m args below meth c C hne
  generalize va_A (cWd Y S) sz = A at C ⊢
  have C : cC p s m args meth c cX11_sortedAt 9 (some .int) A D Y tp dp RX11 := C
  refine cg_lv (lv' := [(0, .ref o1), (1, .int (nI n1)), (2, .int x1), (3, .int (nI 0)), (4, .int (nI n2))]) rfl ?_
  refine cg_aload_n C (i := 0) rfl 0 rfl dX11_sortedAt_0 ?_
  refine cg_iload_n C (i := 1) rfl 1 rfl dX11_sortedAt_1 ?_
  exact cg_callx C hne (z175_X11_snapshotOf l hlt S dp o1 o2 n1 (by omega) h3 h4 h5 h6 h7 h8) cc_X11_317 h5 h4 (by decide) rfl rfl ⟨by decide, by decide⟩ ⟨by decide, by decide⟩ rfl (Nat.le_of_ble_eq_true rfl) dX11_sortedAt_2 ⟨by decide, by decide⟩ (fun u_ h_ => by
      have hu_ := h_
      exact hu_)
set_option maxHeartbeats 4000000 in
set_option maxRecDepth 100000 in
theorem z503_L_sortedAt (l : Launch) (hlt : l.stackTraces = false) (S : cS) (dp : Nat) (o1 o2 o3 : Nat) (n1 n2 : Nat) (x1 : Int32) (h1 : n1 ≤ 2147483647) (h2 : n2 ≤ 2147483647) (h3 : cr S 360 o1 = (some o3)) (h4 : cK S o1 = 11) (h5 : o1 ∈ cL S) (h6 : ci S 386 o3 = (nI 0)) (h7 : cK S o3 = 12) (h8 : o3 ∈ cL S) : cMetW (cQi (fun r_ u_ => r_ = (nI 1) ∧ u_ = S)) l yL_sortedAt cL_sortedAt 7 (some .int) [(0, 14, 17, 28)] 8 1 6 132 [.ref o1, .int (nI n1), .int x1, .int (nI 0), .int (nI n2), .ref o2] S dp := by
  intro D Y tp sz
  refine cg_bodyW (by decide +kernel) (Nat.le_of_ble_eq_true rfl) ?_
  intro p e s m args below meth c C htab
  generalize va_A (cWd Y S) sz = A at C ⊢
  have C : cC p s m args meth c cL_sortedAt 7 (some .int) A D Y tp dp RL := C
  refine cg_lv (lv' := [(0, .ref o1), (1, .int (nI n1)), (2, .int x1), (3, .int (nI 0)), (4, .int (nI n2)), (5, .ref o2)]) rfl ?_
  refine cg_aload C 5 rfl dL_sortedAt_0 ?_
  refine cg_iconst C (x := nI 0) rfl dL_sortedAt_2 ?_
  refine cg_aload_n C (i := 0) rfl 0 rfl dL_sortedAt_3 ?_
  refine cg_iload_n C (i := 1) rfl 1 rfl dL_sortedAt_4 ?_
  refine cg_iload_n C (i := 2) rfl 2 rfl dL_sortedAt_5 ?_
  refine cg_iload_n C (i := 3) rfl 3 rfl dL_sortedAt_6 ?_
  refine cg_iload C 4 rfl dL_sortedAt_7 ?_
  refine cg_callx_catch C htab (z502_X11_sortedAt l hlt S dp o1 o3 n1 n2 x1 (by omega) (by omega) h3 h4 h5 h6 h7 h8) cc_L_171 h5 h4 (by decide) rfl rfl ⟨by decide, by decide⟩ ⟨by decide, by decide⟩ rfl (Nat.le_of_ble_eq_true rfl) dL_sortedAt_9 (tableOf []) ⟨0, 14, 17, 28⟩ (tableOf []) rfl (fun z hz => nomatch hz) (by decide) (by decide) (name := "java/lang/IndexOutOfBoundsException") ce_L_28 (by decide) 17 rfl (fun x_9 u_9 h_9 => ?_)
  have hu_9 := h_9
  have hw_9 := hu_9.symm
  subst hw_9
  refine cg_astore (lv' := [(6, .ref x_9), (0, .ref o1), (1, .int (nI n1)), (2, .int x1), (3, .int (nI 0)), (4, .int (nI n2)), (5, .ref o2)]) C (Nat.le_of_ble_eq_true rfl) rfl dL_sortedAt_17 ?_
  refine cg_iconst C (x := nI 1) rfl dL_sortedAt_19 ?_
  exact cg_iret C ⟨rfl, rfl⟩ dL_sortedAt_20 (by decide) (by decide)
set_option maxHeartbeats 4000000 in
set_option maxRecDepth 100000 in
theorem z504_X11_passages (l : Launch) (hlt : l.stackTraces = false) (S : cS) (dp : Nat) (o1 o2 : Nat) (x1 x2 x3 x4 : Int32) (h1 : cr S 360 o1 = (some o2)) (h2 : cK S o1 = 11) (h3 : o1 ∈ cL S) (h4 : ci S 386 o2 = (nI 0)) (h5 : cK S o2 = 12) (h6 : o2 ∈ cL S) : cMetX "java/lang/IndexOutOfBoundsException" (fun u_ => u_ = S) l yX11_passages cX11_passages 7 (some .int) 7 1 6 104 [.ref o1, .int x1, .int x2, .int x3, .int x4] S dp := by
  intro D Y tp sz
  refine cg_bodyX (by decide +kernel) (Nat.le_of_ble_eq_true rfl) ?_
  intro p e s m args below meth c C hne
  generalize va_A (cWd Y S) sz = A at C ⊢
  have C : cC p s m args meth c cX11_passages 7 (some .int) A D Y tp dp RX11 := C
  refine cg_lv (lv' := [(0, .ref o1), (1, .int x1), (2, .int x2), (3, .int x3), (4, .int x4)]) rfl ?_
  refine cg_aload_n C (i := 0) rfl 0 rfl dX11_passages_0 ?_
  refine cg_iload_n C (i := 1) rfl 1 rfl dX11_passages_1 ?_
  exact cg_callx C hne (z169_X11_snapshotOf l hlt S dp o1 o2 x1 h1 h2 h3 h4 h5 h6) cc_X11_317 h3 h2 (by decide) rfl rfl ⟨by decide, by decide⟩ ⟨by decide, by decide⟩ rfl (Nat.le_of_ble_eq_true rfl) dX11_passages_2 ⟨by decide, by decide⟩ (fun u_ h_ => by
      have hu_ := h_
      exact hu_)
set_option maxHeartbeats 4000000 in
set_option maxRecDepth 100000 in
theorem z505_L_passages (l : Launch) (hlt : l.stackTraces = false) (S : cS) (dp : Nat) (o1 o2 o3 : Nat) (x1 x2 x3 x4 : Int32) (h1 : cr S 360 o1 = (some o3)) (h2 : cK S o1 = 11) (h3 : o1 ∈ cL S) (h4 : ci S 386 o3 = (nI 0)) (h5 : cK S o3 = 12) (h6 : o3 ∈ cL S) : cMetW (cQi (fun r_ u_ => r_ = (nI 1) ∧ u_ = S)) l yL_passages cL_passages 7 (some .int) [(0, 14, 17, 28)] 8 1 6 130 [.ref o1, .int x1, .int x2, .int x3, .int x4, .ref o2] S dp := by
  intro D Y tp sz
  refine cg_bodyW (by decide +kernel) (Nat.le_of_ble_eq_true rfl) ?_
  intro p e s m args below meth c C htab
  generalize va_A (cWd Y S) sz = A at C ⊢
  have C : cC p s m args meth c cL_passages 7 (some .int) A D Y tp dp RL := C
  refine cg_lv (lv' := [(0, .ref o1), (1, .int x1), (2, .int x2), (3, .int x3), (4, .int x4), (5, .ref o2)]) rfl ?_
  refine cg_aload C 5 rfl dL_passages_0 ?_
  refine cg_iconst C (x := nI 0) rfl dL_passages_2 ?_
  refine cg_aload_n C (i := 0) rfl 0 rfl dL_passages_3 ?_
  refine cg_iload_n C (i := 1) rfl 1 rfl dL_passages_4 ?_
  refine cg_iload_n C (i := 2) rfl 2 rfl dL_passages_5 ?_
  refine cg_iload_n C (i := 3) rfl 3 rfl dL_passages_6 ?_
  refine cg_iload C 4 rfl dL_passages_7 ?_
  refine cg_callx_catch C htab (z504_X11_passages l hlt S dp o1 o3 x1 x2 x3 x4 h1 h2 h3 h4 h5 h6) cc_L_175 h3 h2 (by decide) rfl rfl ⟨by decide, by decide⟩ ⟨by decide, by decide⟩ rfl (Nat.le_of_ble_eq_true rfl) dL_passages_9 (tableOf []) ⟨0, 14, 17, 28⟩ (tableOf []) rfl (fun z hz => nomatch hz) (by decide) (by decide) (name := "java/lang/IndexOutOfBoundsException") ce_L_28 (by decide) 17 rfl (fun x_9 u_9 h_9 => ?_)
  have hu_9 := h_9
  have hw_9 := hu_9.symm
  subst hw_9
  refine cg_astore (lv' := [(6, .ref x_9), (0, .ref o1), (1, .int x1), (2, .int x2), (3, .int x3), (4, .int x4), (5, .ref o2)]) C (Nat.le_of_ble_eq_true rfl) rfl dL_passages_17 ?_
  refine cg_iconst C (x := nI 1) rfl dL_passages_19 ?_
  exact cg_iret C ⟨rfl, rfl⟩ dL_passages_20 (by decide) (by decide)
set_option maxHeartbeats 4000000 in
set_option maxRecDepth 100000 in
theorem z506_X11_passages (l : Launch) (hlt : l.stackTraces = false) (S : cS) (dp : Nat) (o1 o2 : Nat) (x1 x2 x3 x4 : Int32) (h1 : x1 < 0) (h2 : cr S 360 o1 = (some o2)) (h3 : cK S o1 = 11) (h4 : o1 ∈ cL S) (h5 : ci S 386 o2 = (nI 0)) (h6 : cK S o2 = 12) (h7 : o2 ∈ cL S) : cMetX "java/lang/IndexOutOfBoundsException" (fun u_ => u_ = S) l yX11_passages cX11_passages 7 (some .int) 7 1 6 104 [.ref o1, .int x1, .int x2, .int x3, .int x4] S dp := by
  intro D Y tp sz
  refine cg_bodyX (by decide +kernel) (Nat.le_of_ble_eq_true rfl) ?_
  intro p e s m args below meth c C hne
  generalize va_A (cWd Y S) sz = A at C ⊢
  have C : cC p s m args meth c cX11_passages 7 (some .int) A D Y tp dp RX11 := C
  refine cg_lv (lv' := [(0, .ref o1), (1, .int x1), (2, .int x2), (3, .int x3), (4, .int x4)]) rfl ?_
  refine cg_aload_n C (i := 0) rfl 0 rfl dX11_passages_0 ?_
  refine cg_iload_n C (i := 1) rfl 1 rfl dX11_passages_1 ?_
  exact cg_callx C hne (z172_X11_snapshotOf l hlt S dp o1 o2 x1 h1 h2 h3 h4 h5 h6 h7) cc_X11_317 h4 h3 (by decide) rfl rfl ⟨by decide, by decide⟩ ⟨by decide, by decide⟩ rfl (Nat.le_of_ble_eq_true rfl) dX11_passages_2 ⟨by decide, by decide⟩ (fun u_ h_ => by
      have hu_ := h_
      exact hu_)
set_option maxHeartbeats 4000000 in
set_option maxRecDepth 100000 in
theorem z507_L_passages (l : Launch) (hlt : l.stackTraces = false) (S : cS) (dp : Nat) (o1 o2 o3 : Nat) (x1 x2 x3 x4 : Int32) (h1 : x1 < 0) (h2 : cr S 360 o1 = (some o3)) (h3 : cK S o1 = 11) (h4 : o1 ∈ cL S) (h5 : ci S 386 o3 = (nI 0)) (h6 : cK S o3 = 12) (h7 : o3 ∈ cL S) : cMetW (cQi (fun r_ u_ => r_ = (nI 1) ∧ u_ = S)) l yL_passages cL_passages 7 (some .int) [(0, 14, 17, 28)] 8 1 6 130 [.ref o1, .int x1, .int x2, .int x3, .int x4, .ref o2] S dp := by
  intro D Y tp sz
  refine cg_bodyW (by decide +kernel) (Nat.le_of_ble_eq_true rfl) ?_
  intro p e s m args below meth c C htab
  generalize va_A (cWd Y S) sz = A at C ⊢
  have C : cC p s m args meth c cL_passages 7 (some .int) A D Y tp dp RL := C
  refine cg_lv (lv' := [(0, .ref o1), (1, .int x1), (2, .int x2), (3, .int x3), (4, .int x4), (5, .ref o2)]) rfl ?_
  refine cg_aload C 5 rfl dL_passages_0 ?_
  refine cg_iconst C (x := nI 0) rfl dL_passages_2 ?_
  refine cg_aload_n C (i := 0) rfl 0 rfl dL_passages_3 ?_
  refine cg_iload_n C (i := 1) rfl 1 rfl dL_passages_4 ?_
  refine cg_iload_n C (i := 2) rfl 2 rfl dL_passages_5 ?_
  refine cg_iload_n C (i := 3) rfl 3 rfl dL_passages_6 ?_
  refine cg_iload C 4 rfl dL_passages_7 ?_
  refine cg_callx_catch C htab (z506_X11_passages l hlt S dp o1 o3 x1 x2 x3 x4 h1 h2 h3 h4 h5 h6 h7) cc_L_175 h4 h3 (by decide) rfl rfl ⟨by decide, by decide⟩ ⟨by decide, by decide⟩ rfl (Nat.le_of_ble_eq_true rfl) dL_passages_9 (tableOf []) ⟨0, 14, 17, 28⟩ (tableOf []) rfl (fun z hz => nomatch hz) (by decide) (by decide) (name := "java/lang/IndexOutOfBoundsException") ce_L_28 (by decide) 17 rfl (fun x_9 u_9 h_9 => ?_)
  have hu_9 := h_9
  have hw_9 := hu_9.symm
  subst hw_9
  refine cg_astore (lv' := [(6, .ref x_9), (0, .ref o1), (1, .int x1), (2, .int x2), (3, .int x3), (4, .int x4), (5, .ref o2)]) C (Nat.le_of_ble_eq_true rfl) rfl dL_passages_17 ?_
  refine cg_iconst C (x := nI 1) rfl dL_passages_19 ?_
  exact cg_iret C ⟨rfl, rfl⟩ dL_passages_20 (by decide) (by decide)
set_option maxHeartbeats 4000000 in
set_option maxRecDepth 100000 in
theorem z508_X11_passages (l : Launch) (hlt : l.stackTraces = false) (S : cS) (dp : Nat) (o1 o2 : Nat) (n1 : Nat) (x1 x2 x3 : Int32) (h1 : n1 ≤ 2147483647) (h2 : cr S 360 o1 = (some o2)) (h3 : cK S o1 = 11) (h4 : o1 ∈ cL S) (h5 : ci S 386 o2 = (nI 0)) (h6 : cK S o2 = 12) (h7 : o2 ∈ cL S) : cMetX "java/lang/IndexOutOfBoundsException" (fun u_ => u_ = S) l yX11_passages cX11_passages 7 (some .int) 7 1 6 104 [.ref o1, .int (nI n1), .int x1, .int x2, .int x3] S dp := by
  intro D Y tp sz
  refine cg_bodyX (by decide +kernel) (Nat.le_of_ble_eq_true rfl) ?_
  intro p e s m args below meth c C hne
  generalize va_A (cWd Y S) sz = A at C ⊢
  have C : cC p s m args meth c cX11_passages 7 (some .int) A D Y tp dp RX11 := C
  refine cg_lv (lv' := [(0, .ref o1), (1, .int (nI n1)), (2, .int x1), (3, .int x2), (4, .int x3)]) rfl ?_
  refine cg_aload_n C (i := 0) rfl 0 rfl dX11_passages_0 ?_
  refine cg_iload_n C (i := 1) rfl 1 rfl dX11_passages_1 ?_
  exact cg_callx C hne (z175_X11_snapshotOf l hlt S dp o1 o2 n1 (by omega) h2 h3 h4 h5 h6 h7) cc_X11_317 h4 h3 (by decide) rfl rfl ⟨by decide, by decide⟩ ⟨by decide, by decide⟩ rfl (Nat.le_of_ble_eq_true rfl) dX11_passages_2 ⟨by decide, by decide⟩ (fun u_ h_ => by
      have hu_ := h_
      exact hu_)
set_option maxHeartbeats 4000000 in
set_option maxRecDepth 100000 in
theorem z509_L_passages (l : Launch) (hlt : l.stackTraces = false) (S : cS) (dp : Nat) (o1 o2 o3 : Nat) (n1 : Nat) (x1 x2 x3 : Int32) (h1 : n1 ≤ 2147483647) (h2 : cr S 360 o1 = (some o3)) (h3 : cK S o1 = 11) (h4 : o1 ∈ cL S) (h5 : ci S 386 o3 = (nI 0)) (h6 : cK S o3 = 12) (h7 : o3 ∈ cL S) : cMetW (cQi (fun r_ u_ => r_ = (nI 1) ∧ u_ = S)) l yL_passages cL_passages 7 (some .int) [(0, 14, 17, 28)] 8 1 6 130 [.ref o1, .int (nI n1), .int x1, .int x2, .int x3, .ref o2] S dp := by
  intro D Y tp sz
  refine cg_bodyW (by decide +kernel) (Nat.le_of_ble_eq_true rfl) ?_
  intro p e s m args below meth c C htab
  generalize va_A (cWd Y S) sz = A at C ⊢
  have C : cC p s m args meth c cL_passages 7 (some .int) A D Y tp dp RL := C
  refine cg_lv (lv' := [(0, .ref o1), (1, .int (nI n1)), (2, .int x1), (3, .int x2), (4, .int x3), (5, .ref o2)]) rfl ?_
  refine cg_aload C 5 rfl dL_passages_0 ?_
  refine cg_iconst C (x := nI 0) rfl dL_passages_2 ?_
  refine cg_aload_n C (i := 0) rfl 0 rfl dL_passages_3 ?_
  refine cg_iload_n C (i := 1) rfl 1 rfl dL_passages_4 ?_
  refine cg_iload_n C (i := 2) rfl 2 rfl dL_passages_5 ?_
  refine cg_iload_n C (i := 3) rfl 3 rfl dL_passages_6 ?_
  refine cg_iload C 4 rfl dL_passages_7 ?_
  refine cg_callx_catch C htab (z508_X11_passages l hlt S dp o1 o3 n1 x1 x2 x3 (by omega) h2 h3 h4 h5 h6 h7) cc_L_175 h4 h3 (by decide) rfl rfl ⟨by decide, by decide⟩ ⟨by decide, by decide⟩ rfl (Nat.le_of_ble_eq_true rfl) dL_passages_9 (tableOf []) ⟨0, 14, 17, 28⟩ (tableOf []) rfl (fun z hz => nomatch hz) (by decide) (by decide) (name := "java/lang/IndexOutOfBoundsException") ce_L_28 (by decide) 17 rfl (fun x_9 u_9 h_9 => ?_)
  have hu_9 := h_9
  have hw_9 := hu_9.symm
  subst hw_9
  refine cg_astore (lv' := [(6, .ref x_9), (0, .ref o1), (1, .int (nI n1)), (2, .int x1), (3, .int x2), (4, .int x3), (5, .ref o2)]) C (Nat.le_of_ble_eq_true rfl) rfl dL_passages_17 ?_
  refine cg_iconst C (x := nI 1) rfl dL_passages_19 ?_
  exact cg_iret C ⟨rfl, rfl⟩ dL_passages_20 (by decide) (by decide)
set_option maxHeartbeats 4000000 in
set_option maxRecDepth 100000 in
theorem z510_X11_passageAt (l : Launch) (hlt : l.stackTraces = false) (S : cS) (dp : Nat) (o1 o2 : Nat) (x1 x2 x3 x4 x5 : Int32) (h1 : cr S 360 o1 = (some o2)) (h2 : cK S o1 = 11) (h3 : o1 ∈ cL S) (h4 : ci S 386 o2 = (nI 0)) (h5 : cK S o2 = 12) (h6 : o2 ∈ cL S) : cMetX "java/lang/IndexOutOfBoundsException" (fun u_ => u_ = S) l yX11_passageAt cX11_passageAt 9 (some .int) 7 1 6 104 [.ref o1, .int x1, .int x2, .int x3, .int x4, .int x5] S dp := by
  intro D Y tp sz
  refine cg_bodyX (by decide +kernel) (Nat.le_of_ble_eq_true rfl) ?_
  intro p e s m args below meth c C hne
  generalize va_A (cWd Y S) sz = A at C ⊢
  have C : cC p s m args meth c cX11_passageAt 9 (some .int) A D Y tp dp RX11 := C
  refine cg_lv (lv' := [(0, .ref o1), (1, .int x1), (2, .int x2), (3, .int x3), (4, .int x4), (5, .int x5)]) rfl ?_
  refine cg_aload_n C (i := 0) rfl 0 rfl dX11_passageAt_0 ?_
  refine cg_iload_n C (i := 1) rfl 1 rfl dX11_passageAt_1 ?_
  exact cg_callx C hne (z169_X11_snapshotOf l hlt S dp o1 o2 x1 h1 h2 h3 h4 h5 h6) cc_X11_317 h3 h2 (by decide) rfl rfl ⟨by decide, by decide⟩ ⟨by decide, by decide⟩ rfl (Nat.le_of_ble_eq_true rfl) dX11_passageAt_2 ⟨by decide, by decide⟩ (fun u_ h_ => by
      have hu_ := h_
      exact hu_)
set_option maxHeartbeats 4000000 in
set_option maxRecDepth 100000 in
theorem z511_L_passageAt (l : Launch) (hlt : l.stackTraces = false) (S : cS) (dp : Nat) (o1 o2 o3 : Nat) (x1 x2 x3 x4 x5 : Int32) (h1 : cr S 360 o1 = (some o3)) (h2 : cK S o1 = 11) (h3 : o1 ∈ cL S) (h4 : ci S 386 o3 = (nI 0)) (h5 : cK S o3 = 12) (h6 : o3 ∈ cL S) : cMetW (cQi (fun r_ u_ => r_ = (nI 1) ∧ u_ = S)) l yL_passageAt cL_passageAt 8 (some .int) [(0, 16, 19, 28)] 8 1 6 132 [.ref o1, .int x1, .int x2, .int x3, .int x4, .int x5, .ref o2] S dp := by
  intro D Y tp sz
  refine cg_bodyW (by decide +kernel) (Nat.le_of_ble_eq_true rfl) ?_
  intro p e s m args below meth c C htab
  generalize va_A (cWd Y S) sz = A at C ⊢
  have C : cC p s m args meth c cL_passageAt 8 (some .int) A D Y tp dp RL := C
  refine cg_lv (lv' := [(0, .ref o1), (1, .int x1), (2, .int x2), (3, .int x3), (4, .int x4), (5, .int x5), (6, .ref o2)]) rfl ?_
  refine cg_aload C 6 rfl dL_passageAt_0 ?_
  refine cg_iconst C (x := nI 0) rfl dL_passageAt_2 ?_
  refine cg_aload_n C (i := 0) rfl 0 rfl dL_passageAt_3 ?_
  refine cg_iload_n C (i := 1) rfl 1 rfl dL_passageAt_4 ?_
  refine cg_iload_n C (i := 2) rfl 2 rfl dL_passageAt_5 ?_
  refine cg_iload_n C (i := 3) rfl 3 rfl dL_passageAt_6 ?_
  refine cg_iload C 4 rfl dL_passageAt_7 ?_
  refine cg_iload C 5 rfl dL_passageAt_9 ?_
  refine cg_callx_catch C htab (z510_X11_passageAt l hlt S dp o1 o3 x1 x2 x3 x4 x5 h1 h2 h3 h4 h5 h6) cc_L_178 h3 h2 (by decide) rfl rfl ⟨by decide, by decide⟩ ⟨by decide, by decide⟩ rfl (Nat.le_of_ble_eq_true rfl) dL_passageAt_11 (tableOf []) ⟨0, 16, 19, 28⟩ (tableOf []) rfl (fun z hz => nomatch hz) (by decide) (by decide) (name := "java/lang/IndexOutOfBoundsException") ce_L_28 (by decide) 19 rfl (fun x_11 u_11 h_11 => ?_)
  have hu_11 := h_11
  have hw_11 := hu_11.symm
  subst hw_11
  refine cg_astore (lv' := [(7, .ref x_11), (0, .ref o1), (1, .int x1), (2, .int x2), (3, .int x3), (4, .int x4), (5, .int x5), (6, .ref o2)]) C (Nat.le_of_ble_eq_true rfl) rfl dL_passageAt_19 ?_
  refine cg_iconst C (x := nI 1) rfl dL_passageAt_21 ?_
  exact cg_iret C ⟨rfl, rfl⟩ dL_passageAt_22 (by decide) (by decide)
set_option maxHeartbeats 4000000 in
set_option maxRecDepth 100000 in
theorem z512_X11_passageAt (l : Launch) (hlt : l.stackTraces = false) (S : cS) (dp : Nat) (o1 o2 : Nat) (x1 x2 x3 x4 x5 : Int32) (h1 : x1 < 0) (h2 : cr S 360 o1 = (some o2)) (h3 : cK S o1 = 11) (h4 : o1 ∈ cL S) (h5 : ci S 386 o2 = (nI 0)) (h6 : cK S o2 = 12) (h7 : o2 ∈ cL S) : cMetX "java/lang/IndexOutOfBoundsException" (fun u_ => u_ = S) l yX11_passageAt cX11_passageAt 9 (some .int) 7 1 6 104 [.ref o1, .int x1, .int x2, .int x3, .int x4, .int x5] S dp := by
  intro D Y tp sz
  refine cg_bodyX (by decide +kernel) (Nat.le_of_ble_eq_true rfl) ?_
  intro p e s m args below meth c C hne
  generalize va_A (cWd Y S) sz = A at C ⊢
  have C : cC p s m args meth c cX11_passageAt 9 (some .int) A D Y tp dp RX11 := C
  refine cg_lv (lv' := [(0, .ref o1), (1, .int x1), (2, .int x2), (3, .int x3), (4, .int x4), (5, .int x5)]) rfl ?_
  refine cg_aload_n C (i := 0) rfl 0 rfl dX11_passageAt_0 ?_
  refine cg_iload_n C (i := 1) rfl 1 rfl dX11_passageAt_1 ?_
  exact cg_callx C hne (z172_X11_snapshotOf l hlt S dp o1 o2 x1 h1 h2 h3 h4 h5 h6 h7) cc_X11_317 h4 h3 (by decide) rfl rfl ⟨by decide, by decide⟩ ⟨by decide, by decide⟩ rfl (Nat.le_of_ble_eq_true rfl) dX11_passageAt_2 ⟨by decide, by decide⟩ (fun u_ h_ => by
      have hu_ := h_
      exact hu_)
set_option maxHeartbeats 4000000 in
set_option maxRecDepth 100000 in
theorem z513_L_passageAt (l : Launch) (hlt : l.stackTraces = false) (S : cS) (dp : Nat) (o1 o2 o3 : Nat) (x1 x2 x3 x4 x5 : Int32) (h1 : x1 < 0) (h2 : cr S 360 o1 = (some o3)) (h3 : cK S o1 = 11) (h4 : o1 ∈ cL S) (h5 : ci S 386 o3 = (nI 0)) (h6 : cK S o3 = 12) (h7 : o3 ∈ cL S) : cMetW (cQi (fun r_ u_ => r_ = (nI 1) ∧ u_ = S)) l yL_passageAt cL_passageAt 8 (some .int) [(0, 16, 19, 28)] 8 1 6 132 [.ref o1, .int x1, .int x2, .int x3, .int x4, .int x5, .ref o2] S dp := by
  intro D Y tp sz
  refine cg_bodyW (by decide +kernel) (Nat.le_of_ble_eq_true rfl) ?_
  intro p e s m args below meth c C htab
  generalize va_A (cWd Y S) sz = A at C ⊢
  have C : cC p s m args meth c cL_passageAt 8 (some .int) A D Y tp dp RL := C
  refine cg_lv (lv' := [(0, .ref o1), (1, .int x1), (2, .int x2), (3, .int x3), (4, .int x4), (5, .int x5), (6, .ref o2)]) rfl ?_
  refine cg_aload C 6 rfl dL_passageAt_0 ?_
  refine cg_iconst C (x := nI 0) rfl dL_passageAt_2 ?_
  refine cg_aload_n C (i := 0) rfl 0 rfl dL_passageAt_3 ?_
  refine cg_iload_n C (i := 1) rfl 1 rfl dL_passageAt_4 ?_
  refine cg_iload_n C (i := 2) rfl 2 rfl dL_passageAt_5 ?_
  refine cg_iload_n C (i := 3) rfl 3 rfl dL_passageAt_6 ?_
  refine cg_iload C 4 rfl dL_passageAt_7 ?_
  refine cg_iload C 5 rfl dL_passageAt_9 ?_
  refine cg_callx_catch C htab (z512_X11_passageAt l hlt S dp o1 o3 x1 x2 x3 x4 x5 h1 h2 h3 h4 h5 h6 h7) cc_L_178 h4 h3 (by decide) rfl rfl ⟨by decide, by decide⟩ ⟨by decide, by decide⟩ rfl (Nat.le_of_ble_eq_true rfl) dL_passageAt_11 (tableOf []) ⟨0, 16, 19, 28⟩ (tableOf []) rfl (fun z hz => nomatch hz) (by decide) (by decide) (name := "java/lang/IndexOutOfBoundsException") ce_L_28 (by decide) 19 rfl (fun x_11 u_11 h_11 => ?_)
  have hu_11 := h_11
  have hw_11 := hu_11.symm
  subst hw_11
  refine cg_astore (lv' := [(7, .ref x_11), (0, .ref o1), (1, .int x1), (2, .int x2), (3, .int x3), (4, .int x4), (5, .int x5), (6, .ref o2)]) C (Nat.le_of_ble_eq_true rfl) rfl dL_passageAt_19 ?_
  refine cg_iconst C (x := nI 1) rfl dL_passageAt_21 ?_
  exact cg_iret C ⟨rfl, rfl⟩ dL_passageAt_22 (by decide) (by decide)
set_option maxHeartbeats 4000000 in
set_option maxRecDepth 100000 in
theorem z514_X11_passageAt (l : Launch) (hlt : l.stackTraces = false) (S : cS) (dp : Nat) (o1 o2 : Nat) (n1 : Nat) (x1 x2 x3 x4 : Int32) (h1 : n1 ≤ 2147483647) (h2 : cr S 360 o1 = (some o2)) (h3 : cK S o1 = 11) (h4 : o1 ∈ cL S) (h5 : ci S 386 o2 = (nI 0)) (h6 : cK S o2 = 12) (h7 : o2 ∈ cL S) : cMetX "java/lang/IndexOutOfBoundsException" (fun u_ => u_ = S) l yX11_passageAt cX11_passageAt 9 (some .int) 7 1 6 104 [.ref o1, .int (nI n1), .int x1, .int x2, .int x3, .int x4] S dp := by
  intro D Y tp sz
  refine cg_bodyX (by decide +kernel) (Nat.le_of_ble_eq_true rfl) ?_
  intro p e s m args below meth c C hne
  generalize va_A (cWd Y S) sz = A at C ⊢
  have C : cC p s m args meth c cX11_passageAt 9 (some .int) A D Y tp dp RX11 := C
  refine cg_lv (lv' := [(0, .ref o1), (1, .int (nI n1)), (2, .int x1), (3, .int x2), (4, .int x3), (5, .int x4)]) rfl ?_
  refine cg_aload_n C (i := 0) rfl 0 rfl dX11_passageAt_0 ?_
  refine cg_iload_n C (i := 1) rfl 1 rfl dX11_passageAt_1 ?_
  exact cg_callx C hne (z175_X11_snapshotOf l hlt S dp o1 o2 n1 (by omega) h2 h3 h4 h5 h6 h7) cc_X11_317 h4 h3 (by decide) rfl rfl ⟨by decide, by decide⟩ ⟨by decide, by decide⟩ rfl (Nat.le_of_ble_eq_true rfl) dX11_passageAt_2 ⟨by decide, by decide⟩ (fun u_ h_ => by
      have hu_ := h_
      exact hu_)
set_option maxHeartbeats 4000000 in
set_option maxRecDepth 100000 in
theorem z515_L_passageAt (l : Launch) (hlt : l.stackTraces = false) (S : cS) (dp : Nat) (o1 o2 o3 : Nat) (n1 : Nat) (x1 x2 x3 x4 : Int32) (h1 : n1 ≤ 2147483647) (h2 : cr S 360 o1 = (some o3)) (h3 : cK S o1 = 11) (h4 : o1 ∈ cL S) (h5 : ci S 386 o3 = (nI 0)) (h6 : cK S o3 = 12) (h7 : o3 ∈ cL S) : cMetW (cQi (fun r_ u_ => r_ = (nI 1) ∧ u_ = S)) l yL_passageAt cL_passageAt 8 (some .int) [(0, 16, 19, 28)] 8 1 6 132 [.ref o1, .int (nI n1), .int x1, .int x2, .int x3, .int x4, .ref o2] S dp := by
  intro D Y tp sz
  refine cg_bodyW (by decide +kernel) (Nat.le_of_ble_eq_true rfl) ?_
  intro p e s m args below meth c C htab
  generalize va_A (cWd Y S) sz = A at C ⊢
  have C : cC p s m args meth c cL_passageAt 8 (some .int) A D Y tp dp RL := C
  refine cg_lv (lv' := [(0, .ref o1), (1, .int (nI n1)), (2, .int x1), (3, .int x2), (4, .int x3), (5, .int x4), (6, .ref o2)]) rfl ?_
  refine cg_aload C 6 rfl dL_passageAt_0 ?_
  refine cg_iconst C (x := nI 0) rfl dL_passageAt_2 ?_
  refine cg_aload_n C (i := 0) rfl 0 rfl dL_passageAt_3 ?_
  refine cg_iload_n C (i := 1) rfl 1 rfl dL_passageAt_4 ?_
  refine cg_iload_n C (i := 2) rfl 2 rfl dL_passageAt_5 ?_
  refine cg_iload_n C (i := 3) rfl 3 rfl dL_passageAt_6 ?_
  refine cg_iload C 4 rfl dL_passageAt_7 ?_
  refine cg_iload C 5 rfl dL_passageAt_9 ?_
  refine cg_callx_catch C htab (z514_X11_passageAt l hlt S dp o1 o3 n1 x1 x2 x3 x4 (by omega) h2 h3 h4 h5 h6 h7) cc_L_178 h4 h3 (by decide) rfl rfl ⟨by decide, by decide⟩ ⟨by decide, by decide⟩ rfl (Nat.le_of_ble_eq_true rfl) dL_passageAt_11 (tableOf []) ⟨0, 16, 19, 28⟩ (tableOf []) rfl (fun z hz => nomatch hz) (by decide) (by decide) (name := "java/lang/IndexOutOfBoundsException") ce_L_28 (by decide) 19 rfl (fun x_11 u_11 h_11 => ?_)
  have hu_11 := h_11
  have hw_11 := hu_11.symm
  subst hw_11
  refine cg_astore (lv' := [(7, .ref x_11), (0, .ref o1), (1, .int (nI n1)), (2, .int x1), (3, .int x2), (4, .int x3), (5, .int x4), (6, .ref o2)]) C (Nat.le_of_ble_eq_true rfl) rfl dL_passageAt_19 ?_
  refine cg_iconst C (x := nI 1) rfl dL_passageAt_21 ?_
  exact cg_iret C ⟨rfl, rfl⟩ dL_passageAt_22 (by decide) (by decide)
