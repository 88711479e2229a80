/-! the class: its constructors -/
set_option maxHeartbeats 4000000 in
set_option maxRecDepth 100000 in
theorem z1_X9_init (l : Launch) (hlt : l.stackTraces = false) (S : cS) (dp : Nat) (o1 : Nat) (h1 : cK S o1 = 9) (h2 : o1 ∈ cL S) : cMet (cQv (fun u_ => ∃ (q1 : Nat) (S1 : cS), q1 ∉ cL S ∧ S1 = cNewA S q1 14 40 ∧ ∃ (S2 : cS), S2 = cSr S1 288 o1 (some q1) ∧ ∃ (S3 : cS), S3 = cSi S2 289 o1 (nI 0) ∧ ∃ (q2 : Nat) (S4 : cS), q2 ∉ cL S3 ∧ S4 = cNewA S3 q2 15 0 ∧ ∃ (S5 : cS), S5 = cSr S4 290 o1 (some q2) ∧ ∃ (q3 : Nat) (S6 : cS), q3 ∉ cL S5 ∧ S6 = cNewA S5 q3 14 0 ∧ ∃ (S7 : cS), S7 = cSr S6 291 o1 (some q3) ∧ ∃ (S8 : cS), S8 = cSi S7 292 o1 (nI 0) ∧ u_ = S8)) l yX9_init cX9_init 1 none 1 3 40 32 [.ref o1] S dp := by
  intro D Y tp sz
  refine cg_bodyI (by decide +kernel) (Nat.le_of_ble_eq_true rfl) ?_
  intro p e s m args below meth c C hin
  generalize va_A (cWd Y S) sz = A at C ⊢
  have C : cC p s m args meth c cX9_init 1 none A D Y tp dp RX9 := C
  refine cg_lv (lv' := [(0, .ref o1)]) rfl ?_
  refine cg_aload_n C (i := 0) rfl 0 rfl dX9_init_0 ?_
  refine cg_objInit C co_X9_3 co_i co_c (by decide) (Nat.le_of_ble_eq_true rfl) dX9_init_1 ?_
  refine cg_aload_n C (i := 0) rfl 0 rfl dX9_init_4 ?_
  refine cg_bipush C (x := nI 40) rfl dX9_init_5 ?_
  refine cg_newI C 40 (by decide) ca_int (by decide) (by decide) dX9_init_7 (fun q1 hf_q1 => ?_)
  refine cg_nm (fun S1 (hS1 : S1 = cNewA S q1 14 40) => ?_)
  refine cg_putrF C (k := 9) (j := 0) (x := (some q1)) (ty := tyX9) (fty := tyX9 0) (hm_A hS1 h2) (hk_A hS1 (cm_ne h2 hf_q1) h1) (by decide) rfl (by decide) rfl (by decide) rfl cWs_wsX90 tyX9_ok nmX9 cl_X9_9 rfl rfl hin rfl rfl rfl rfl dX9_init_9 ?_
  refine cg_nm (fun S2 (hS2 : S2 = cSr S1 288 o1 (some q1)) => ?_)
  refine cg_aload_n C (i := 0) rfl 0 rfl dX9_init_12 ?_
  refine cg_iconst C (x := nI 0) rfl dX9_init_13 ?_
  refine cg_puti C (k := 9) (j := 1) (ty := tyX9) (fty := .int) (hm_Sr hS2 (hm_A hS1 h2)) (hk_Sr hS2 (hk_A hS1 (cm_ne h2 hf_q1) h1)) (by decide) rfl (by decide) rfl (by decide) rfl cWs_wsX90 tyX9_ok nmX9 cl_X9_15 rfl rfl rfl rfl rfl dX9_init_14 ?_
  refine cg_nm (fun S3 (hS3 : S3 = cSi S2 289 o1 (nI 0)) => ?_)
  refine cg_aload_n C (i := 0) rfl 0 rfl dX9_init_17 ?_
  refine cg_iconst C (x := nI 0) rfl dX9_init_18 ?_
  refine cg_newJ C 0 (by decide) ca_long (by decide) (by decide) dX9_init_19 (fun q2 hf_q2 => ?_)
  refine cg_nm (fun S4 (hS4 : S4 = cNewA S3 q2 15 0) => ?_)
  have f_1 : cK S4 o1 = 9 := (hk_A hS4 (cm_ne (hm_Si hS3 (hm_Sr hS2 (hm_A hS1 h2))) hf_q2) (hk_Si hS3 (hk_Sr hS2 (hk_A hS1 (cm_ne h2 hf_q1) h1))))
  refine cg_putr C (k := 9) (j := 2) (x := (some q2)) (ty := tyX9) (fty := tyX9 2) (hm_A hS4 (hm_Si hS3 (hm_Sr hS2 (hm_A hS1 h2)))) f_1 (by decide) rfl (by decide) rfl (by decide) rfl cWs_wsX90 tyX9_ok nmX9 cl_X9_19 rfl rfl rfl rfl rfl dX9_init_21 ?_
  refine cg_nm (fun S5 (hS5 : S5 = cSr S4 290 o1 (some q2)) => ?_)
  refine cg_aload_n C (i := 0) rfl 0 rfl dX9_init_24 ?_
  refine cg_iconst C (x := nI 0) rfl dX9_init_25 ?_
  refine cg_newI C 0 (by decide) ca_int (by decide) (by decide) dX9_init_26 (fun q3 hf_q3 => ?_)
  refine cg_nm (fun S6 (hS6 : S6 = cNewA S5 q3 14 0) => ?_)
  have f_2 : cK S6 o1 = 9 := (hk_A hS6 (cm_ne (hm_Sr hS5 (hm_A hS4 (hm_Si hS3 (hm_Sr hS2 (hm_A hS1 h2))))) hf_q3) (hk_Sr hS5 f_1))
  have f_3 : o1 ∈ cL S6 := (hm_A hS6 (hm_Sr hS5 (hm_A hS4 (hm_Si hS3 (hm_Sr hS2 (hm_A hS1 h2))))))
  refine cg_putr C (k := 9) (j := 3) (x := (some q3)) (ty := tyX9) (fty := tyX9 3) f_3 f_2 (by decide) rfl (by decide) rfl (by decide) rfl cWs_wsX90 tyX9_ok nmX9 cl_X9_23 rfl rfl rfl rfl rfl dX9_init_28 ?_
  refine cg_nm (fun S7 (hS7 : S7 = cSr S6 291 o1 (some q3)) => ?_)
  refine cg_aload_n C (i := 0) rfl 0 rfl dX9_init_31 ?_
  refine cg_iconst C (x := nI 0) rfl dX9_init_32 ?_
  refine cg_puti C (k := 9) (j := 4) (ty := tyX9) (fty := .int) (hm_Sr hS7 f_3) (hk_Sr hS7 f_2) (by decide) rfl (by decide) rfl (by decide) rfl cWs_wsX90 tyX9_ok nmX9 cl_X9_26 rfl rfl rfl rfl rfl dX9_init_33 ?_
  refine cg_nm (fun S8 (hS8 : S8 = cSi S7 292 o1 (nI 0)) => ?_)
  exact cg_vret C ⟨q1, S1, hf_q1, hS1, S2, hS2, S3, hS3, q2, S4, hf_q2, hS4, S5, hS5, q3, S6, hf_q3, hS6, S7, hS7, S8, hS8, rfl⟩ dX9_init_36 (by decide) (by decide)
set_option maxHeartbeats 4000000 in
set_option maxRecDepth 100000 in
theorem z2_X3_init (l : Launch) (hlt : l.stackTraces = false) (S : cS) (dp : Nat) (o1 : Nat) (h1 : cK S o1 = 3) (h2 : o1 ∈ cL S) : cMet (cQv (fun u_ => ∃ (q1 : Nat) (S1 : cS), q1 ∉ cL S ∧ S1 = cNew S q1 9 ∧ ∃ (q2 : Nat) (S2 : cS), q2 ∉ cL S1 ∧ S2 = cNewA S1 q2 14 40 ∧ ∃ (S3 : cS), S3 = cSr S2 288 q1 (some q2) ∧ ∃ (S4 : cS), S4 = cSi S3 289 q1 (nI 0) ∧ ∃ (q3 : Nat) (S5 : cS), q3 ∉ cL S4 ∧ S5 = cNewA S4 q3 15 0 ∧ ∃ (S6 : cS), S6 = cSr S5 290 q1 (some q3) ∧ ∃ (q4 : Nat) (S7 : cS), q4 ∉ cL S6 ∧ S7 = cNewA S6 q4 14 0 ∧ ∃ (S8 : cS), S8 = cSr S7 291 q1 (some q4) ∧ ∃ (S9 : cS), S9 = cSi S8 292 q1 (nI 0) ∧ ∃ (S10 : cS), S10 = cSr S9 96 o1 (some q1) ∧ ∃ (q5 : Nat) (S11 : cS), q5 ∉ cL S10 ∧ S11 = cNewA S10 q5 15 20 ∧ ∃ (S12 : cS), S12 = cSr S11 97 o1 (some q5) ∧ ∃ (S13 : cS), S13 = cSi S12 98 o1 (nI 0) ∧ ∃ (q6 : Nat) (S14 : cS), q6 ∉ cL S13 ∧ S14 = cNewA S13 q6 15 10 ∧ ∃ (S15 : cS), S15 = cSr S14 99 o1 (some q6) ∧ ∃ (S16 : cS), S16 = cSi S15 100 o1 (nI 0) ∧ ∃ (q7 : Nat) (S17 : cS), q7 ∉ cL S16 ∧ S17 = cNewA S16 q7 15 10 ∧ ∃ (S18 : cS), S18 = cSr S17 101 o1 (some q7) ∧ ∃ (q8 : Nat) (S19 : cS), q8 ∉ cL S18 ∧ S19 = cNewA S18 q8 15 10 ∧ ∃ (S20 : cS), S20 = cSr S19 102 o1 (some q8) ∧ ∃ (S21 : cS), S21 = cSi S20 103 o1 (nI 0) ∧ ∃ (S22 : cS), S22 = cSi S21 104 o1 (bI false) ∧ u_ = S22)) l yX3_init cX3_init 1 none 2 8 95 52 [.ref o1] S dp := by
  intro D Y tp sz
  refine cg_bodyI (by decide +kernel) (Nat.le_of_ble_eq_true rfl) ?_
  intro p e s m args below meth c C hin
  generalize va_A (cWd Y S) sz = A at C ⊢
  have C : cC p s m args meth c cX3_init 1 none A D Y tp dp RX3 := C
  refine cg_lv (lv' := [(0, .ref o1)]) rfl ?_
  refine cg_aload_n C (i := 0) rfl 0 rfl dX3_init_0 ?_
  refine cg_objInit C co_X3_3 co_i co_c (by decide) (Nat.le_of_ble_eq_true rfl) dX3_init_1 ?_
  refine cg_aload_n C (i := 0) rfl 0 rfl dX3_init_4 ?_
  refine cg_new C (k := 9) (N := 5) (fs := [.null, .int 0, .null, .null, .int 0]) (by decide) rfl cWs_wsX90 tyX9_ok cn_X3_9 ci_X9 ct_X9 (fun j_ hj_ => by rcases (show j_ = 0 ∨ j_ = 1 ∨ j_ = 2 ∨ j_ = 3 ∨ j_ = 4 by omega) with rfl | rfl | rfl | rfl | rfl <;> rfl) rfl (by decide) (by decide) dX3_init_5 (fun q1 hf_q1 => ?_)
  refine cg_nm (fun S1 (hS1 : S1 = cNew S q1 9) => ?_)
  refine cg_dup C rfl dX3_init_8 ?_
  refine cg_callIN C (z1_X9_init l hlt S1 dp q1 (hk_No hS1) (hm_No hS1)) czn_X3_11 rfl ⟨by decide, by decide⟩ ⟨by decide, by decide⟩ rfl (Nat.le_of_ble_eq_true rfl) dX3_init_9 (fun u_9 h_9 => ?_)
  obtain ⟨q2, S2, hf_q2, hS2, S3, hS3, S4, hS4, q3, S5, hf_q3, hS5, S6, hS6, q4, S7, hf_q4, hS7, S8, hS8, S9, hS9, hu_9⟩ := h_9
  have hw_9 := hu_9.symm
  subst hw_9
  have f_1 : cK S3 o1 = 3 := (hk_Sr hS3 (hk_A hS2 (cm_ne (hm_N hS1 h2) hf_q2) (hk_N hS1 (cm_ne h2 hf_q1) h1)))
  have f_2 : cK S5 o1 = 3 := (hk_A hS5 (cm_ne (hm_Si hS4 (hm_Sr hS3 (hm_A hS2 (hm_N hS1 h2)))) hf_q3) (hk_Si hS4 f_1))
  have f_3 : o1 ∈ cL S6 := (hm_Sr hS6 (hm_A hS5 (hm_Si hS4 (hm_Sr hS3 (hm_A hS2 (hm_N hS1 h2))))))
  refine cg_putr C (k := 3) (j := 0) (x := (some q1)) (ty := tyX3) (fty := tyX3 0) (hm_Si hS9 (hm_Sr hS8 (hm_A hS7 f_3))) (hk_Si hS9 (hk_Sr hS8 (hk_A hS7 (cm_ne f_3 hf_q4) (hk_Sr hS6 f_2)))) (by decide) rfl (by decide) rfl (by decide) rfl cWs_wsX30 tyX3_ok nmX3 cl_X3_12 rfl rfl rfl rfl rfl dX3_init_12 ?_
  refine cg_nm (fun S10 (hS10 : S10 = cSr S9 96 o1 (some q1)) => ?_)
  refine cg_aload_n C (i := 0) rfl 0 rfl dX3_init_15 ?_
  refine cg_bipush C (x := nI 20) rfl dX3_init_16 ?_
  refine cg_newJ C 20 (by decide) ca_long (by decide) (by decide) dX3_init_18 (fun q5 hf_q5 => ?_)
  refine cg_nm (fun S11 (hS11 : S11 = cNewA S10 q5 15 20) => ?_)
  have f_4 : cK S10 o1 = 3 := (hk_Sr hS10 (hk_Si hS9 (hk_Sr hS8 (hk_A hS7 (cm_ne f_3 hf_q4) (hk_Sr hS6 f_2)))))
  have f_5 : cK S11 o1 = 3 := (hk_A hS11 (cm_ne (hm_Sr hS10 (hm_Si hS9 (hm_Sr hS8 (hm_A hS7 f_3)))) hf_q5) f_4)
  refine cg_putrF C (k := 3) (j := 1) (x := (some q5)) (ty := tyX3) (fty := tyX3 1) (hm_A hS11 (hm_Sr hS10 (hm_Si hS9 (hm_Sr hS8 (hm_A hS7 f_3))))) f_5 (by decide) rfl (by decide) rfl (by decide) rfl cWs_wsX30 tyX3_ok nmX3 cl_X3_18 rfl rfl hin rfl rfl rfl rfl dX3_init_20 ?_
  refine cg_nm (fun S12 (hS12 : S12 = cSr S11 97 o1 (some q5)) => ?_)
  refine cg_aload_n C (i := 0) rfl 0 rfl dX3_init_23 ?_
  refine cg_iconst C (x := nI 0) rfl dX3_init_24 ?_
  have f_6 : o1 ∈ cL S12 := (hm_Sr hS12 (hm_A hS11 (hm_Sr hS10 (hm_Si hS9 (hm_Sr hS8 (hm_A hS7 f_3))))))
  refine cg_puti C (k := 3) (j := 2) (ty := tyX3) (fty := .int) f_6 (hk_Sr hS12 f_5) (by decide) rfl (by decide) rfl (by decide) rfl cWs_wsX30 tyX3_ok nmX3 cl_X3_22 rfl rfl rfl rfl rfl dX3_init_25 ?_
  refine cg_nm (fun S13 (hS13 : S13 = cSi S12 98 o1 (nI 0)) => ?_)
  refine cg_aload_n C (i := 0) rfl 0 rfl dX3_init_28 ?_
  refine cg_bipush C (x := nI 10) rfl dX3_init_29 ?_
  refine cg_newJ C 10 (by decide) ca_long (by decide) (by decide) dX3_init_31 (fun q6 hf_q6 => ?_)
  refine cg_nm (fun S14 (hS14 : S14 = cNewA S13 q6 15 10) => ?_)
  have f_7 : cK S14 o1 = 3 := (hk_A hS14 (cm_ne (hm_Si hS13 f_6) hf_q6) (hk_Si hS13 (hk_Sr hS12 f_5)))
  refine cg_putrF C (k := 3) (j := 3) (x := (some q6)) (ty := tyX3) (fty := tyX3 3) (hm_A hS14 (hm_Si hS13 f_6)) f_7 (by decide) rfl (by decide) rfl (by decide) rfl cWs_wsX30 tyX3_ok nmX3 cl_X3_26 rfl rfl hin rfl rfl rfl rfl dX3_init_33 ?_
  refine cg_nm (fun S15 (hS15 : S15 = cSr S14 99 o1 (some q6)) => ?_)
  refine cg_aload_n C (i := 0) rfl 0 rfl dX3_init_36 ?_
  refine cg_iconst C (x := nI 0) rfl dX3_init_37 ?_
  refine cg_puti C (k := 3) (j := 4) (ty := tyX3) (fty := .int) (hm_Sr hS15 (hm_A hS14 (hm_Si hS13 f_6))) (hk_Sr hS15 f_7) (by decide) rfl (by decide) rfl (by decide) rfl cWs_wsX30 tyX3_ok nmX3 cl_X3_29 rfl rfl rfl rfl rfl dX3_init_38 ?_
  refine cg_nm (fun S16 (hS16 : S16 = cSi S15 100 o1 (nI 0)) => ?_)
  refine cg_aload_n C (i := 0) rfl 0 rfl dX3_init_41 ?_
  refine cg_bipush C (x := nI 10) rfl dX3_init_42 ?_
  refine cg_newJ C 10 (by decide) ca_long (by decide) (by decide) dX3_init_44 (fun q7 hf_q7 => ?_)
  refine cg_nm (fun S17 (hS17 : S17 = cNewA S16 q7 15 10) => ?_)
  have f_8 : cK S17 o1 = 3 := (hk_A hS17 (cm_ne (hm_Si hS16 (hm_Sr hS15 (hm_A hS14 (hm_Si hS13 f_6)))) hf_q7) (hk_Si hS16 (hk_Sr hS15 f_7)))
  refine cg_putrF C (k := 3) (j := 5) (x := (some q7)) (ty := tyX3) (fty := tyX3 5) (hm_A hS17 (hm_Si hS16 (hm_Sr hS15 (hm_A hS14 (hm_Si hS13 f_6))))) f_8 (by decide) rfl (by decide) rfl (by decide) rfl cWs_wsX30 tyX3_ok nmX3 cl_X3_32 rfl rfl hin rfl rfl rfl rfl dX3_init_46 ?_
  refine cg_nm (fun S18 (hS18 : S18 = cSr S17 101 o1 (some q7)) => ?_)
  refine cg_aload_n C (i := 0) rfl 0 rfl dX3_init_49 ?_
  refine cg_bipush C (x := nI 10) rfl dX3_init_50 ?_
  refine cg_newJ C 10 (by decide) ca_long (by decide) (by decide) dX3_init_52 (fun q8 hf_q8 => ?_)
  refine cg_nm (fun S19 (hS19 : S19 = cNewA S18 q8 15 10) => ?_)
  have f_9 : o1 ∈ cL S18 := (hm_Sr hS18 (hm_A hS17 (hm_Si hS16 (hm_Sr hS15 (hm_A hS14 (hm_Si hS13 f_6))))))
  refine cg_putrF C (k := 3) (j := 6) (x := (some q8)) (ty := tyX3) (fty := tyX3 6) (hm_A hS19 f_9) (hk_A hS19 (cm_ne f_9 hf_q8) (hk_Sr hS18 f_8)) (by decide) rfl (by decide) rfl (by decide) rfl cWs_wsX30 tyX3_ok nmX3 cl_X3_35 rfl rfl hin rfl rfl rfl rfl dX3_init_54 ?_
  refine cg_nm (fun S20 (hS20 : S20 = cSr S19 102 o1 (some q8)) => ?_)
  refine cg_aload_n C (i := 0) rfl 0 rfl dX3_init_57 ?_
  refine cg_iconst C (x := nI 0) rfl dX3_init_58 ?_
  refine cg_puti C (k := 3) (j := 7) (ty := tyX3) (fty := .int) (hm_Sr hS20 (hm_A hS19 f_9)) (hk_Sr hS20 (hk_A hS19 (cm_ne f_9 hf_q8) (hk_Sr hS18 f_8))) (by decide) rfl (by decide) rfl (by decide) rfl cWs_wsX30 tyX3_ok nmX3 cl_X3_38 rfl rfl rfl rfl rfl dX3_init_59 ?_
  refine cg_nm (fun S21 (hS21 : S21 = cSi S20 103 o1 (nI 0)) => ?_)
  refine cg_aload_n C (i := 0) rfl 0 rfl dX3_init_62 ?_
  refine cg_iconst C (x := nI 0) rfl dX3_init_63 ?_
  refine cg_cast (.int (bI false)) rfl ?_
  have f_10 : cK S21 o1 = 3 := (hk_Si hS21 (hk_Sr hS20 (hk_A hS19 (cm_ne f_9 hf_q8) (hk_Sr hS18 f_8))))
  refine cg_puti C (k := 3) (j := 8) (ty := tyX3) (fty := .boolean) (hm_Si hS21 (hm_Sr hS20 (hm_A hS19 f_9))) f_10 (by decide) rfl (by decide) rfl (by decide) rfl cWs_wsX30 tyX3_ok nmX3 cl_X3_41 rfl rfl rfl (bI_nar _) (bI_fit _) dX3_init_64 ?_
  refine cg_nm (fun S22 (hS22 : S22 = cSi S21 104 o1 (bI false)) => ?_)
  exact cg_vret C ⟨q1, S1, hf_q1, hS1, q2, S2, hf_q2, hS2, S3, hS3, S4, hS4, q3, S5, hf_q3, hS5, S6, hS6, q4, S7, hf_q4, hS7, S8, hS8, S9, hS9, S10, hS10, q5, S11, hf_q5, hS11, S12, hS12, S13, hS13, q6, S14, hf_q6, hS14, S15, hS15, S16, hS16, q7, S17, hf_q7, hS17, S18, hS18, q8, S19, hf_q8, hS19, S20, hS20, S21, hS21, S22, hS22, rfl⟩ dX3_init_67 (by decide) (by decide)
set_option maxHeartbeats 4000000 in
set_option maxRecDepth 100000 in
theorem z3_X0_init (l : Launch) (hlt : l.stackTraces = false) (S : cS) (dp : Nat) (o1 : Nat) (h1 : cK S o1 = 0) (h2 : o1 ∈ cL S) : cMet (cQv (fun u_ => ∃ (S1 : cS), S1 = cSi S 0 o1 ((-1)) ∧ ∃ (S2 : cS), S2 = cSi S1 1 o1 (nI 0) ∧ ∃ (S3 : cS), S3 = cSi S2 2 o1 (nI 0) ∧ ∃ (q1 : Nat) (S4 : cS), q1 ∉ cL S3 ∧ S4 = cNew S3 q1 9 ∧ ∃ (q2 : Nat) (S5 : cS), q2 ∉ cL S4 ∧ S5 = cNewA S4 q2 14 40 ∧ ∃ (S6 : cS), S6 = cSr S5 288 q1 (some q2) ∧ ∃ (S7 : cS), S7 = cSi S6 289 q1 (nI 0) ∧ ∃ (q3 : Nat) (S8 : cS), q3 ∉ cL S7 ∧ S8 = cNewA S7 q3 15 0 ∧ ∃ (S9 : cS), S9 = cSr S8 290 q1 (some q3) ∧ ∃ (q4 : Nat) (S10 : cS), q4 ∉ cL S9 ∧ S10 = cNewA S9 q4 14 0 ∧ ∃ (S11 : cS), S11 = cSr S10 291 q1 (some q4) ∧ ∃ (S12 : cS), S12 = cSi S11 292 q1 (nI 0) ∧ ∃ (S13 : cS), S13 = cSr S12 3 o1 (some q1) ∧ ∃ (q5 : Nat) (S14 : cS), q5 ∉ cL S13 ∧ S14 = cNew S13 q5 9 ∧ ∃ (q6 : Nat) (S15 : cS), q6 ∉ cL S14 ∧ S15 = cNewA S14 q6 14 40 ∧ ∃ (S16 : cS), S16 = cSr S15 288 q5 (some q6) ∧ ∃ (S17 : cS), S17 = cSi S16 289 q5 (nI 0) ∧ ∃ (q7 : Nat) (S18 : cS), q7 ∉ cL S17 ∧ S18 = cNewA S17 q7 15 0 ∧ ∃ (S19 : cS), S19 = cSr S18 290 q5 (some q7) ∧ ∃ (q8 : Nat) (S20 : cS), q8 ∉ cL S19 ∧ S20 = cNewA S19 q8 14 0 ∧ ∃ (S21 : cS), S21 = cSr S20 291 q5 (some q8) ∧ ∃ (S22 : cS), S22 = cSi S21 292 q5 (nI 0) ∧ ∃ (S23 : cS), S23 = cSr S22 4 o1 (some q5) ∧ u_ = S23)) l yX0_init cX0_init 1 none 2 8 90 52 [.ref o1] S dp := by
  intro D Y tp sz
  refine cg_bodyI (by decide +kernel) (Nat.le_of_ble_eq_true rfl) ?_
  intro p e s m args below meth c C hin
  generalize va_A (cWd Y S) sz = A at C ⊢
  have C : cC p s m args meth c cX0_init 1 none A D Y tp dp RX0 := C
  refine cg_lv (lv' := [(0, .ref o1)]) rfl ?_
  refine cg_aload_n C (i := 0) rfl 0 rfl dX0_init_0 ?_
  refine cg_objInit C co_X0_3 co_i co_c (by decide) (Nat.le_of_ble_eq_true rfl) dX0_init_1 ?_
  refine cg_aload_n C (i := 0) rfl 0 rfl dX0_init_4 ?_
  refine cg_iconst C (x := (-1)) rfl dX0_init_5 ?_
  refine cg_puti C (k := 0) (j := 0) (ty := tyX0) (fty := .int) h2 h1 (by decide) rfl (by decide) rfl (by decide) rfl cWs_wsX00 tyX0_ok nmX0 cl_X0_9 rfl rfl rfl rfl rfl dX0_init_6 ?_
  refine cg_nm (fun S1 (hS1 : S1 = cSi S 0 o1 ((-1))) => ?_)
  refine cg_aload_n C (i := 0) rfl 0 rfl dX0_init_9 ?_
  refine cg_iconst C (x := nI 0) rfl dX0_init_10 ?_
  refine cg_puti C (k := 0) (j := 1) (ty := tyX0) (fty := .int) (hm_Si hS1 h2) (hk_Si hS1 h1) (by decide) rfl (by decide) rfl (by decide) rfl cWs_wsX00 tyX0_ok nmX0 cl_X0_15 rfl rfl rfl rfl rfl dX0_init_11 ?_
  refine cg_nm (fun S2 (hS2 : S2 = cSi S1 1 o1 (nI 0)) => ?_)
  refine cg_aload_n C (i := 0) rfl 0 rfl dX0_init_14 ?_
  refine cg_iconst C (x := nI 0) rfl dX0_init_15 ?_
  refine cg_puti C (k := 0) (j := 2) (ty := tyX0) (fty := .int) (hm_Si hS2 (hm_Si hS1 h2)) (hk_Si hS2 (hk_Si hS1 h1)) (by decide) rfl (by decide) rfl (by decide) rfl cWs_wsX00 tyX0_ok nmX0 cl_X0_18 rfl rfl rfl rfl rfl dX0_init_16 ?_
  refine cg_nm (fun S3 (hS3 : S3 = cSi S2 2 o1 (nI 0)) => ?_)
  refine cg_aload_n C (i := 0) rfl 0 rfl dX0_init_19 ?_
  refine cg_new C (k := 9) (N := 5) (fs := [.null, .int 0, .null, .null, .int 0]) (by decide) rfl cWs_wsX90 tyX9_ok cn_X0_21 ci_X9 ct_X9 (fun j_ hj_ => by rcases (show j_ = 0 ∨ j_ = 1 ∨ j_ = 2 ∨ j_ = 3 ∨ j_ = 4 by omega) with rfl | rfl | rfl | rfl | rfl <;> rfl) rfl (by decide) (by decide) dX0_init_20 (fun q1 hf_q1 => ?_)
  refine cg_nm (fun S4 (hS4 : S4 = cNew S3 q1 9) => ?_)
  refine cg_dup C rfl dX0_init_23 ?_
  refine cg_callIN C (z1_X9_init l hlt S4 dp q1 (hk_No hS4) (hm_No hS4)) czn_X0_23 rfl ⟨by decide, by decide⟩ ⟨by decide, by decide⟩ rfl (Nat.le_of_ble_eq_true rfl) dX0_init_24 (fun u_24 h_24 => ?_)
  obtain ⟨q2, S5, hf_q2, hS5, S6, hS6, S7, hS7, q3, S8, hf_q3, hS8, S9, hS9, q4, S10, hf_q4, hS10, S11, hS11, S12, hS12, hu_24⟩ := h_24
  have hw_24 := hu_24.symm
  subst hw_24
  have f_1 : cK S4 o1 = 0 := (hk_N hS4 (cm_ne (hm_Si hS3 (hm_Si hS2 (hm_Si hS1 h2))) hf_q1) (hk_Si hS3 (hk_Si hS2 (hk_Si hS1 h1))))
  have f_2 : cK S5 o1 = 0 := (hk_A hS5 (cm_ne (hm_N hS4 (hm_Si hS3 (hm_Si hS2 (hm_Si hS1 h2)))) hf_q2) f_1)
  have f_3 : o1 ∈ cL S6 := (hm_Sr hS6 (hm_A hS5 (hm_N hS4 (hm_Si hS3 (hm_Si hS2 (hm_Si hS1 h2))))))
  have f_4 : cK S9 o1 = 0 := (hk_Sr hS9 (hk_A hS8 (cm_ne (hm_Si hS7 f_3) hf_q3) (hk_Si hS7 (hk_Sr hS6 f_2))))
  have f_5 : cK S11 o1 = 0 := (hk_Sr hS11 (hk_A hS10 (cm_ne (hm_Sr hS9 (hm_A hS8 (hm_Si hS7 f_3))) hf_q4) f_4))
  have f_6 : o1 ∈ cL S12 := (hm_Si hS12 (hm_Sr hS11 (hm_A hS10 (hm_Sr hS9 (hm_A hS8 (hm_Si hS7 f_3))))))
  refine cg_putr C (k := 0) (j := 3) (x := (some q1)) (ty := tyX0) (fty := tyX0 3) f_6 (hk_Si hS12 f_5) (by decide) rfl (by decide) rfl (by decide) rfl cWs_wsX00 tyX0_ok nmX0 cl_X0_24 rfl rfl rfl rfl rfl dX0_init_27 ?_
  refine cg_nm (fun S13 (hS13 : S13 = cSr S12 3 o1 (some q1)) => ?_)
  refine cg_aload_n C (i := 0) rfl 0 rfl dX0_init_30 ?_
  refine cg_new C (k := 9) (N := 5) (fs := [.null, .int 0, .null, .null, .int 0]) (by decide) rfl cWs_wsX90 tyX9_ok cn_X0_21 ci_X9 ct_X9 (fun j_ hj_ => by rcases (show j_ = 0 ∨ j_ = 1 ∨ j_ = 2 ∨ j_ = 3 ∨ j_ = 4 by omega) with rfl | rfl | rfl | rfl | rfl <;> rfl) rfl (by decide) (by decide) dX0_init_31 (fun q5 hf_q5 => ?_)
  refine cg_nm (fun S14 (hS14 : S14 = cNew S13 q5 9) => ?_)
  refine cg_dup C rfl dX0_init_34 ?_
  refine cg_callIN C (z1_X9_init l hlt S14 dp q5 (hk_No hS14) (hm_No hS14)) czn_X0_23 rfl ⟨by decide, by decide⟩ ⟨by decide, by decide⟩ rfl (Nat.le_of_ble_eq_true rfl) dX0_init_35 (fun u_35 h_35 => ?_)
  obtain ⟨q6, S15, hf_q6, hS15, S16, hS16, S17, hS17, q7, S18, hf_q7, hS18, S19, hS19, q8, S20, hf_q8, hS20, S21, hS21, S22, hS22, hu_35⟩ := h_35
  have hw_35 := hu_35.symm
  subst hw_35
  have f_7 : cK S14 o1 = 0 := (hk_N hS14 (cm_ne (hm_Sr hS13 f_6) hf_q5) (hk_Sr hS13 (hk_Si hS12 f_5)))
  have f_8 : cK S16 o1 = 0 := (hk_Sr hS16 (hk_A hS15 (cm_ne (hm_N hS14 (hm_Sr hS13 f_6)) hf_q6) f_7))
  have f_9 : cK S18 o1 = 0 := (hk_A hS18 (cm_ne (hm_Si hS17 (hm_Sr hS16 (hm_A hS15 (hm_N hS14 (hm_Sr hS13 f_6))))) hf_q7) (hk_Si hS17 f_8))
  have f_10 : o1 ∈ cL S18 := (hm_A hS18 (hm_Si hS17 (hm_Sr hS16 (hm_A hS15 (hm_N hS14 (hm_Sr hS13 f_6))))))
  have f_11 : cK S21 o1 = 0 := (hk_Sr hS21 (hk_A hS20 (cm_ne (hm_Sr hS19 f_10) hf_q8) (hk_Sr hS19 f_9)))
  refine cg_putr C (k := 0) (j := 4) (x := (some q5)) (ty := tyX0) (fty := tyX0 4) (hm_Si hS22 (hm_Sr hS21 (hm_A hS20 (hm_Sr hS19 f_10)))) (hk_Si hS22 f_11) (by decide) rfl (by decide) rfl (by decide) rfl cWs_wsX00 tyX0_ok nmX0 cl_X0_28 rfl rfl rfl rfl rfl dX0_init_38 ?_
  refine cg_nm (fun S23 (hS23 : S23 = cSr S22 4 o1 (some q5)) => ?_)
  exact cg_vret C ⟨S1, hS1, S2, hS2, S3, hS3, q1, S4, hf_q1, hS4, q2, S5, hf_q2, hS5, S6, hS6, S7, hS7, q3, S8, hf_q3, hS8, S9, hS9, q4, S10, hf_q4, hS10, S11, hS11, S12, hS12, S13, hS13, q5, S14, hf_q5, hS14, q6, S15, hf_q6, hS15, S16, hS16, S17, hS17, q7, S18, hf_q7, hS18, S19, hS19, q8, S20, hf_q8, hS20, S21, hS21, S22, hS22, S23, hS23, rfl⟩ dX0_init_41 (by decide) (by decide)
set_option maxHeartbeats 4000000 in
set_option maxRecDepth 100000 in
theorem z4_Jxa1e45_init_da8c8 (l : Launch) (hlt : l.stackTraces = false) (S : cS) (dp : Nat) (o1 : Nat) : cMet (cQv (fun u_ => u_ = S)) l yJxa1e45_init_da8c8 cJxa1e45_init_da8c8 1 none 1 0 0 32 [.ref o1] S dp := by
  intro D Y tp sz
  refine cg_bodyI (by decide +kernel) (Nat.le_of_ble_eq_true rfl) ?_
  intro p e s m args below meth c C hin
  generalize va_A (cWd Y S) sz = A at C ⊢
  have C : cC p s m args meth c cJxa1e45_init_da8c8 1 none A D Y tp dp RJxa1e45 := C
  refine cg_lv (lv' := [(0, .ref o1)]) rfl ?_
  refine cg_aload_n C (i := 0) rfl 0 rfl dJxa1e45_init_da8c8_0 ?_
  refine cg_objInit C co_Jxa1e45_1 co_i co_c (by decide) (Nat.le_of_ble_eq_true rfl) dJxa1e45_init_da8c8_1 ?_
  exact cg_vret C rfl dJxa1e45_init_da8c8_4 (by decide) (by decide)
set_option maxHeartbeats 4000000 in
set_option maxRecDepth 100000 in
theorem z5_Jxc12de_init_da8c8 (l : Launch) (hlt : l.stackTraces = false) (S : cS) (dp : Nat) (o1 : Nat) (h1 : cK S o1 = 12) (h2 : o1 ∈ cL S) : cMet (cQv (fun u_ => ∃ (S1 : cS), S1 = cSi S 384 o1 (nI 0) ∧ u_ = S1)) l yJxc12de_init_da8c8 cJxc12de_init_da8c8 1 none 2 0 0 52 [.ref o1] S dp := by
  intro D Y tp sz
  refine cg_bodyI (by decide +kernel) (Nat.le_of_ble_eq_true rfl) ?_
  intro p e s m args below meth c C hin
  generalize va_A (cWd Y S) sz = A at C ⊢
  have C : cC p s m args meth c cJxc12de_init_da8c8 1 none A D Y tp dp RJxc12de := C
  refine cg_lv (lv' := [(0, .ref o1)]) rfl ?_
  refine cg_aload_n C (i := 0) rfl 0 rfl dJxc12de_init_da8c8_0 ?_
  refine cg_callI C (z4_Jxa1e45_init_da8c8 l hlt S dp o1) cz_Jxc12de_1 rfl ⟨by decide, by decide⟩ ⟨by decide, by decide⟩ rfl (Nat.le_of_ble_eq_true rfl) dJxc12de_init_da8c8_1 (fun u_1 h_1 => ?_)
  have hu_1 := h_1
  have hw_1 := hu_1.symm
  subst hw_1
  refine cg_aload_n C (i := 0) rfl 0 rfl dJxc12de_init_da8c8_4 ?_
  refine cg_iconst C (x := nI 0) rfl dJxc12de_init_da8c8_5 ?_
  refine cg_putiS C (k := 12) (j := 0) (ty := tyJx4a65c) (fty := .int) h2 h1 (by decide) rfl (by decide) rfl (by decide) rfl cWs_wsJx4a65c0 tyJx4a65c_ok nmJx4a65c cl_modA (Or.inl rfl) rfl rfl rfl rfl dJxc12de_init_da8c8_6 ?_
  refine cg_nm (fun S1 (hS1 : S1 = cSi S 384 o1 (nI 0)) => ?_)
  exact cg_vret C ⟨S1, hS1, rfl⟩ dJxc12de_init_da8c8_9 (by decide) (by decide)
set_option maxHeartbeats 4000000 in
set_option maxRecDepth 100000 in
theorem z6_Jx4a65c_init_da8c8 (l : Launch) (hlt : l.stackTraces = false) (S : cS) (dp : Nat) (o1 : Nat) (h1 : cK S o1 = 12) (h2 : o1 ∈ cL S) : cMet (cQv (fun u_ => ∃ (S1 : cS), S1 = cSi S 384 o1 (nI 0) ∧ ∃ (S2 : cS), S2 = cSr S1 385 o1 (some dp) ∧ u_ = S2)) l yJx4a65c_init_da8c8 cJx4a65c_init_da8c8 1 none 3 0 0 72 [.ref o1] S dp := by
  intro D Y tp sz
  refine cg_bodyI (by decide +kernel) (Nat.le_of_ble_eq_true rfl) ?_
  intro p e s m args below meth c C hin
  generalize va_A (cWd Y S) sz = A at C ⊢
  have C : cC p s m args meth c cJx4a65c_init_da8c8 1 none A D Y tp dp RJx4a65c := C
  refine cg_lv (lv' := [(0, .ref o1)]) rfl ?_
  refine cg_aload_n C (i := 0) rfl 0 rfl dJx4a65c_init_da8c8_0 ?_
  refine cg_callI C (z5_Jxc12de_init_da8c8 l hlt S dp o1 h1 h2) cz_Jx4a65c_1 rfl ⟨by decide, by decide⟩ ⟨by decide, by decide⟩ rfl (Nat.le_of_ble_eq_true rfl) dJx4a65c_init_da8c8_1 (fun u_1 h_1 => ?_)
  obtain ⟨S1, hS1, hu_1⟩ := h_1
  have hw_1 := hu_1.symm
  subst hw_1
  refine cg_aload_n C (i := 0) rfl 0 rfl dJx4a65c_init_da8c8_4 ?_
  refine cg_dflt C cl_dflt_39 dJx4a65c_init_da8c8_5 ?_
  refine cg_putr C (k := 12) (j := 1) (x := (some dp)) (ty := tyJx4a65c) (fty := tyJx4a65c 1) (hm_Si hS1 h2) (hk_Si hS1 h1) (by decide) rfl (by decide) rfl (by decide) rfl cWs_wsJx4a65c0 tyJx4a65c_ok nmJx4a65c cl_Jx4a65c_9 rfl rfl rfl rfl rfl dJx4a65c_init_da8c8_8 ?_
  refine cg_nm (fun S2 (hS2 : S2 = cSr S1 385 o1 (some dp)) => ?_)
  exact cg_vret C ⟨S1, hS1, S2, hS2, rfl⟩ dJx4a65c_init_da8c8_11 (by decide) (by decide)
set_option maxHeartbeats 4000000 in
set_option maxRecDepth 100000 in
theorem z7_X10_init (l : Launch) (hlt : l.stackTraces = false) (S : cS) (dp : Nat) (o1 : Nat) (h1 : cK S o1 = 10) (h2 : o1 ∈ cL S) : cMet (cQv (fun u_ => ∃ (q1 : Nat) (S1 : cS), q1 ∉ cL S ∧ S1 = cNew S q1 12 ∧ ∃ (S2 : cS), S2 = cSi S1 384 q1 (nI 0) ∧ ∃ (S3 : cS), S3 = cSr S2 385 q1 (some dp) ∧ ∃ (S4 : cS), S4 = cSr S3 321 o1 (some q1) ∧ ∃ (S5 : cS), S5 = cSi S4 320 o1 ((-1)) ∧ u_ = S5)) l yX10_init cX10_init 2 none 4 1 3 92 [.ref o1, .int ((-1))] S dp := by
  intro D Y tp sz
  refine cg_bodyI (by decide +kernel) (Nat.le_of_ble_eq_true rfl) ?_
  intro p e s m args below meth c C hin
  generalize va_A (cWd Y S) sz = A at C ⊢
  have C : cC p s m args meth c cX10_init 2 none A D Y tp dp RX10 := C
  refine cg_lv (lv' := [(0, .ref o1), (1, .int ((-1)))]) rfl ?_
  refine cg_aload_n C (i := 0) rfl 0 rfl dX10_init_0 ?_
  refine cg_objInit C co_X10_3 co_i co_c (by decide) (Nat.le_of_ble_eq_true rfl) dX10_init_1 ?_
  refine cg_aload_n C (i := 0) rfl 0 rfl dX10_init_4 ?_
  refine cg_new C (k := 12) (N := 3) (fs := [.int 0, .null, .int 0]) (by decide) rfl cWs_wsJx4a65c0 tyJx4a65c_ok cn_X10_9 ci_Jx4a65c ct_Jx4a65c (fun j_ hj_ => by rcases (show j_ = 0 ∨ j_ = 1 ∨ j_ = 2 by omega) with rfl | rfl | rfl <;> rfl) rfl (by decide) (by decide) dX10_init_5 (fun q1 hf_q1 => ?_)
  refine cg_nm (fun S1 (hS1 : S1 = cNew S q1 12) => ?_)
  refine cg_dup C rfl dX10_init_8 ?_
  refine cg_callI C (z6_Jx4a65c_init_da8c8 l hlt S1 dp q1 (hk_No hS1) (hm_No hS1)) cz_X10_11 rfl ⟨by decide, by decide⟩ ⟨by decide, by decide⟩ rfl (Nat.le_of_ble_eq_true rfl) dX10_init_9 (fun u_9 h_9 => ?_)
  obtain ⟨S2, hS2, S3, hS3, hu_9⟩ := h_9
  have hw_9 := hu_9.symm
  subst hw_9
  refine cg_putrF C (k := 10) (j := 1) (x := (some q1)) (ty := tyX10) (fty := tyX10 1) (hm_Sr hS3 (hm_Si hS2 (hm_N hS1 h2))) (hk_Sr hS3 (hk_Si hS2 (hk_N hS1 (cm_ne h2 hf_q1) h1))) (by decide) rfl (by decide) rfl (by decide) rfl cWs_wsX100 tyX10_ok nmX10 cl_X10_12 rfl rfl hin rfl rfl rfl rfl dX10_init_12 ?_
  refine cg_nm (fun S4 (hS4 : S4 = cSr S3 321 o1 (some q1)) => ?_)
  refine cg_aload_n C (i := 0) rfl 0 rfl dX10_init_15 ?_
  refine cg_iload_n C (i := 1) rfl 1 rfl dX10_init_16 ?_
  refine cg_puti C (k := 10) (j := 0) (ty := tyX10) (fty := .int) (hm_Sr hS4 (hm_Sr hS3 (hm_Si hS2 (hm_N hS1 h2)))) (hk_Sr hS4 (hk_Sr hS3 (hk_Si hS2 (hk_N hS1 (cm_ne h2 hf_q1) h1)))) (by decide) rfl (by decide) rfl (by decide) rfl cWs_wsX100 tyX10_ok nmX10 cl_X10_18 rfl rfl rfl rfl rfl dX10_init_17 ?_
  refine cg_nm (fun S5 (hS5 : S5 = cSi S4 320 o1 ((-1))) => ?_)
  exact cg_vret C ⟨q1, S1, hf_q1, hS1, S2, hS2, S3, hS3, S4, hS4, S5, hS5, rfl⟩ dX10_init_20 (by decide) (by decide)
set_option maxHeartbeats 4000000 in
set_option maxRecDepth 100000 in
theorem z8_X6_init (l : Launch) (hlt : l.stackTraces = false) (S : cS) (dp : Nat) (o1 : Nat) (h1 : cK S o1 = 6) (h2 : o1 ∈ cL S) : cMet (cQv (fun u_ => ∃ (q1 : Nat) (S1 : cS), q1 ∉ cL S ∧ S1 = cNew S q1 12 ∧ ∃ (S2 : cS), S2 = cSi S1 384 q1 (nI 0) ∧ ∃ (S3 : cS), S3 = cSr S2 385 q1 (some dp) ∧ ∃ (S4 : cS), S4 = cSr S3 192 o1 (some q1) ∧ ∃ (q2 : Nat) (S5 : cS), q2 ∉ cL S4 ∧ S5 = cNew S4 q2 12 ∧ ∃ (S6 : cS), S6 = cSi S5 384 q2 (nI 0) ∧ ∃ (S7 : cS), S7 = cSr S6 385 q2 (some dp) ∧ ∃ (S8 : cS), S8 = cSr S7 193 o1 (some q2) ∧ ∃ (q3 : Nat) (S9 : cS), q3 ∉ cL S8 ∧ S9 = cNewA S8 q3 14 8 ∧ ∃ (S10 : cS), S10 = cSr S9 194 o1 (some q3) ∧ ∃ (S11 : cS), S11 = cSi S10 195 o1 (nI 0) ∧ ∃ (q4 : Nat) (S12 : cS), q4 ∉ cL S11 ∧ S12 = cNewA S11 q4 14 8 ∧ ∃ (S13 : cS), S13 = cSr S12 196 o1 (some q4) ∧ u_ = S13)) l yX6_init cX6_init 1 none 4 4 22 92 [.ref o1] S dp := by
  intro D Y tp sz
  refine cg_bodyI (by decide +kernel) (Nat.le_of_ble_eq_true rfl) ?_
  intro p e s m args below meth c C hin
  generalize va_A (cWd Y S) sz = A at C ⊢
  have C : cC p s m args meth c cX6_init 1 none A D Y tp dp RX6 := C
  refine cg_lv (lv' := [(0, .ref o1)]) rfl ?_
  refine cg_aload_n C (i := 0) rfl 0 rfl dX6_init_0 ?_
  refine cg_objInit C co_X6_3 co_i co_c (by decide) (Nat.le_of_ble_eq_true rfl) dX6_init_1 ?_
  refine cg_aload_n C (i := 0) rfl 0 rfl dX6_init_4 ?_
  refine cg_new C (k := 12) (N := 3) (fs := [.int 0, .null, .int 0]) (by decide) rfl cWs_wsJx4a65c0 tyJx4a65c_ok cn_X6_9 ci_Jx4a65c ct_Jx4a65c (fun j_ hj_ => by rcases (show j_ = 0 ∨ j_ = 1 ∨ j_ = 2 by omega) with rfl | rfl | rfl <;> rfl) rfl (by decide) (by decide) dX6_init_5 (fun q1 hf_q1 => ?_)
  refine cg_nm (fun S1 (hS1 : S1 = cNew S q1 12) => ?_)
  refine cg_dup C rfl dX6_init_8 ?_
  refine cg_callI C (z6_Jx4a65c_init_da8c8 l hlt S1 dp q1 (hk_No hS1) (hm_No hS1)) cz_X6_11 rfl ⟨by decide, by decide⟩ ⟨by decide, by decide⟩ rfl (Nat.le_of_ble_eq_true rfl) dX6_init_9 (fun u_9 h_9 => ?_)
  obtain ⟨S2, hS2, S3, hS3, hu_9⟩ := h_9
  have hw_9 := hu_9.symm
  subst hw_9
  refine cg_putrF C (k := 6) (j := 0) (x := (some q1)) (ty := tyX6) (fty := tyX6 0) (hm_Sr hS3 (hm_Si hS2 (hm_N hS1 h2))) (hk_Sr hS3 (hk_Si hS2 (hk_N hS1 (cm_ne h2 hf_q1) h1))) (by decide) rfl (by decide) rfl (by decide) rfl cWs_wsX60 tyX6_ok nmX6 cl_X6_12 rfl rfl hin rfl rfl rfl rfl dX6_init_12 ?_
  refine cg_nm (fun S4 (hS4 : S4 = cSr S3 192 o1 (some q1)) => ?_)
  refine cg_aload_n C (i := 0) rfl 0 rfl dX6_init_15 ?_
  refine cg_new C (k := 12) (N := 3) (fs := [.int 0, .null, .int 0]) (by decide) rfl cWs_wsJx4a65c0 tyJx4a65c_ok cn_X6_9 ci_Jx4a65c ct_Jx4a65c (fun j_ hj_ => by rcases (show j_ = 0 ∨ j_ = 1 ∨ j_ = 2 by omega) with rfl | rfl | rfl <;> rfl) rfl (by decide) (by decide) dX6_init_16 (fun q2 hf_q2 => ?_)
  refine cg_nm (fun S5 (hS5 : S5 = cNew S4 q2 12) => ?_)
  refine cg_dup C rfl dX6_init_19 ?_
  refine cg_callI C (z6_Jx4a65c_init_da8c8 l hlt S5 dp q2 (hk_No hS5) (hm_No hS5)) cz_X6_11 rfl ⟨by decide, by decide⟩ ⟨by decide, by decide⟩ rfl (Nat.le_of_ble_eq_true rfl) dX6_init_20 (fun u_20 h_20 => ?_)
  obtain ⟨S6, hS6, S7, hS7, hu_20⟩ := h_20
  have hw_20 := hu_20.symm
  subst hw_20
  have f_1 : cK S5 o1 = 6 := (hk_N hS5 (cm_ne (hm_Sr hS4 (hm_Sr hS3 (hm_Si hS2 (hm_N hS1 h2)))) hf_q2) (hk_Sr hS4 (hk_Sr hS3 (hk_Si hS2 (hk_N hS1 (cm_ne h2 hf_q1) h1)))))
  have f_2 : o1 ∈ cL S6 := (hm_Si hS6 (hm_N hS5 (hm_Sr hS4 (hm_Sr hS3 (hm_Si hS2 (hm_N hS1 h2))))))
  refine cg_putrF C (k := 6) (j := 1) (x := (some q2)) (ty := tyX6) (fty := tyX6 1) (hm_Sr hS7 f_2) (hk_Sr hS7 (hk_Si hS6 f_1)) (by decide) rfl (by decide) rfl (by decide) rfl cWs_wsX60 tyX6_ok nmX6 cl_X6_18 rfl rfl hin rfl rfl rfl rfl dX6_init_23 ?_
  refine cg_nm (fun S8 (hS8 : S8 = cSr S7 193 o1 (some q2)) => ?_)
  refine cg_aload_n C (i := 0) rfl 0 rfl dX6_init_26 ?_
  refine cg_bipush C (x := nI 8) rfl dX6_init_27 ?_
  refine cg_newI C 8 (by decide) ca_int (by decide) (by decide) dX6_init_29 (fun q3 hf_q3 => ?_)
  refine cg_nm (fun S9 (hS9 : S9 = cNewA S8 q3 14 8) => ?_)
  have f_3 : cK S9 o1 = 6 := (hk_A hS9 (cm_ne (hm_Sr hS8 (hm_Sr hS7 f_2)) hf_q3) (hk_Sr hS8 (hk_Sr hS7 (hk_Si hS6 f_1))))
  refine cg_putrF C (k := 6) (j := 2) (x := (some q3)) (ty := tyX6) (fty := tyX6 2) (hm_A hS9 (hm_Sr hS8 (hm_Sr hS7 f_2))) f_3 (by decide) rfl (by decide) rfl (by decide) rfl cWs_wsX60 tyX6_ok nmX6 cl_X6_21 rfl rfl hin rfl rfl rfl rfl dX6_init_31 ?_
  refine cg_nm (fun S10 (hS10 : S10 = cSr S9 194 o1 (some q3)) => ?_)
  refine cg_aload_n C (i := 0) rfl 0 rfl dX6_init_34 ?_
  refine cg_iconst C (x := nI 0) rfl dX6_init_35 ?_
  refine cg_puti C (k := 6) (j := 3) (ty := tyX6) (fty := .int) (hm_Sr hS10 (hm_A hS9 (hm_Sr hS8 (hm_Sr hS7 f_2)))) (hk_Sr hS10 f_3) (by decide) rfl (by decide) rfl (by decide) rfl cWs_wsX60 tyX6_ok nmX6 cl_X6_25 rfl rfl rfl rfl rfl dX6_init_36 ?_
  refine cg_nm (fun S11 (hS11 : S11 = cSi S10 195 o1 (nI 0)) => ?_)
  refine cg_aload_n C (i := 0) rfl 0 rfl dX6_init_39 ?_
  refine cg_bipush C (x := nI 8) rfl dX6_init_40 ?_
  refine cg_newI C 8 (by decide) ca_int (by decide) (by decide) dX6_init_42 (fun q4 hf_q4 => ?_)
  refine cg_nm (fun S12 (hS12 : S12 = cNewA S11 q4 14 8) => ?_)
  have f_4 : cK S12 o1 = 6 := (hk_A hS12 (cm_ne (hm_Si hS11 (hm_Sr hS10 (hm_A hS9 (hm_Sr hS8 (hm_Sr hS7 f_2))))) hf_q4) (hk_Si hS11 (hk_Sr hS10 f_3)))
  have f_5 : o1 ∈ cL S12 := (hm_A hS12 (hm_Si hS11 (hm_Sr hS10 (hm_A hS9 (hm_Sr hS8 (hm_Sr hS7 f_2))))))
  refine cg_putrF C (k := 6) (j := 4) (x := (some q4)) (ty := tyX6) (fty := tyX6 4) f_5 f_4 (by decide) rfl (by decide) rfl (by decide) rfl cWs_wsX60 tyX6_ok nmX6 cl_X6_29 rfl rfl hin rfl rfl rfl rfl dX6_init_44 ?_
  refine cg_nm (fun S13 (hS13 : S13 = cSr S12 196 o1 (some q4)) => ?_)
  exact cg_vret C ⟨q1, S1, hf_q1, hS1, S2, hS2, S3, hS3, S4, hS4, q2, S5, hf_q2, hS5, S6, hS6, S7, hS7, S8, hS8, q3, S9, hf_q3, hS9, S10, hS10, S11, hS11, q4, S12, hf_q4, hS12, S13, hS13, rfl⟩ dX6_init_47 (by decide) (by decide)
set_option maxHeartbeats 4000000 in
set_option maxRecDepth 100000 in
theorem z9_X7_init (l : Launch) (hlt : l.stackTraces = false) (S : cS) (dp : Nat) (o1 : Nat) (h1 : cK S o1 = 7) (h2 : o1 ∈ cL S) : cMet (cQv (fun u_ => ∃ (q1 : Nat) (S1 : cS), q1 ∉ cL S ∧ S1 = cNewA S q1 14 2 ∧ ∃ (S2 : cS), S2 = cSI S1 q1 0 (nI 3) ∧ ∃ (S3 : cS), S3 = cSI S2 q1 1 (nI 1) ∧ ∃ (S4 : cS), S4 = cSr S3 224 o1 (some q1) ∧ ∃ (q2 : Nat) (ro_q2 : Nat → Nat) (S5 : cS), q2 ∉ cL S4 ∧ (∀ i, i < 24 → ro_q2 i ∉ cL S4) ∧ S5 = cNewM S4 q2 24 100 ro_q2 ∧ ∃ (S6 : cS), S6 = cSr S5 225 o1 (some q2) ∧ ∃ (q3 : Nat) (ro_q3 : Nat → Nat) (S7 : cS), q3 ∉ cL S6 ∧ (∀ i, i < 24 → ro_q3 i ∉ cL S6) ∧ S7 = cNewM S6 q3 24 100 ro_q3 ∧ ∃ (S8 : cS), S8 = cSr S7 226 o1 (some q3) ∧ ∃ (q4 : Nat) (ro_q4 : Nat → Nat) (S9 : cS), q4 ∉ cL S8 ∧ (∀ i, i < 6 → ro_q4 i ∉ cL S8) ∧ S9 = cNewM S8 q4 6 100 ro_q4 ∧ ∃ (S10 : cS), S10 = cSr S9 227 o1 (some q4) ∧ ∃ (q5 : Nat) (S11 : cS), q5 ∉ cL S10 ∧ S11 = cNewA S10 q5 14 6 ∧ ∃ (S12 : cS), S12 = cSr S11 228 o1 (some q5) ∧ ∃ (q6 : Nat) (S13 : cS), q6 ∉ cL S12 ∧ S13 = cNewA S12 q6 14 24 ∧ ∃ (S14 : cS), S14 = cSr S13 229 o1 (some q6) ∧ ∃ (q7 : Nat) (S15 : cS), q7 ∉ cL S14 ∧ S15 = cNewA S14 q7 14 24 ∧ ∃ (S16 : cS), S16 = cSr S15 230 o1 (some q7) ∧ u_ = S16)) l yX7_init cX7_init 1 none 1 61 5510 32 [.ref o1] S dp := by
  intro D Y tp sz
  refine cg_bodyI (by decide +kernel) (Nat.le_of_ble_eq_true rfl) ?_
  intro p e s m args below meth c C hin
  generalize va_A (cWd Y S) sz = A at C ⊢
  have C : cC p s m args meth c cX7_init 1 none A D Y tp dp RX7 := C
  refine cg_lv (lv' := [(0, .ref o1)]) rfl ?_
  refine cg_aload_n C (i := 0) rfl 0 rfl dX7_init_0 ?_
  refine cg_objInit C co_X7_3 co_i co_c (by decide) (Nat.le_of_ble_eq_true rfl) dX7_init_1 ?_
  refine cg_aload_n C (i := 0) rfl 0 rfl dX7_init_4 ?_
  refine cg_iconst C (x := nI 2) rfl dX7_init_5 ?_
  refine cg_newI C 2 (by decide) ca_int (by decide) (by decide) dX7_init_6 (fun q1 hf_q1 => ?_)
  refine cg_nm (fun S1 (hS1 : S1 = cNewA S q1 14 2) => ?_)
  refine cg_dup C rfl dX7_init_8 ?_
  refine cg_iconst C (x := nI 0) rfl dX7_init_9 ?_
  refine cg_iconst C (x := nI 3) rfl dX7_init_10 ?_
  refine cg_iastore C 0 (hm_Ao hS1) (hk_Ao hS1) (by rw [show cn _ _ = 2 from (hn_Ao hS1)]; omega) (by rw [show cn _ _ = 2 from (hn_Ao hS1)]; omega) dX7_init_11 ?_
  refine cg_nm (fun S2 (hS2 : S2 = cSI S1 q1 0 (nI 3)) => ?_)
  refine cg_dup C rfl dX7_init_12 ?_
  refine cg_iconst C (x := nI 1) rfl dX7_init_13 ?_
  refine cg_iconst C (x := nI 1) rfl dX7_init_14 ?_
  refine cg_iastore C 1 (hm_SI hS2 (hm_Ao hS1)) (hk_SI hS2 (hk_Ao hS1)) (by rw [show cn _ _ = 2 from (hn_SI hS2 (hn_Ao hS1))]; omega) (by rw [show cn _ _ = 2 from (hn_SI hS2 (hn_Ao hS1))]; omega) dX7_init_15 ?_
  refine cg_nm (fun S3 (hS3 : S3 = cSI S2 q1 1 (nI 1)) => ?_)
  refine cg_putrF C (k := 7) (j := 0) (x := (some q1)) (ty := tyX7) (fty := tyX7 0) (hm_SI hS3 (hm_SI hS2 (hm_A hS1 h2))) (hk_SI hS3 (hk_SI hS2 (hk_A hS1 (cm_ne h2 hf_q1) h1))) (by decide) rfl (by decide) rfl (by decide) rfl cWs_wsX70 tyX7_ok nmX7 cl_X7_9 rfl rfl hin rfl rfl rfl rfl dX7_init_16 ?_
  refine cg_nm (fun S4 (hS4 : S4 = cSr S3 224 o1 (some q1)) => ?_)
  refine cg_aload_n C (i := 0) rfl 0 rfl dX7_init_19 ?_
  refine cg_bipush C (x := nI 24) rfl dX7_init_20 ?_
  refine cg_bipush C (x := nI 100) rfl dX7_init_22 ?_
  refine cg_mna C 24 100 (by decide) (by decide) cx_X7_15 ca_int (by decide) (by decide) dX7_init_24 (fun q2 ro_q2 hf_q2 hr_q2 hq_q2 hj_q2 => ?_)
  refine cg_nm (fun S5 (hS5 : S5 = cNewM S4 q2 24 100 ro_q2) => ?_)
  have f_1 : cK S5 o1 = 7 := (hk_M hS5 hf_q2 hr_q2 (hm_Sr hS4 (hm_SI hS3 (hm_SI hS2 (hm_A hS1 h2)))) (hk_Sr hS4 (hk_SI hS3 (hk_SI hS2 (hk_A hS1 (cm_ne h2 hf_q1) h1)))))
  refine cg_putrF C (k := 7) (j := 1) (x := (some q2)) (ty := tyX7) (fty := tyX7 1) (hm_M hS5 (hm_Sr hS4 (hm_SI hS3 (hm_SI hS2 (hm_A hS1 h2))))) f_1 (by decide) rfl (by decide) rfl (by decide) rfl cWs_wsX70 tyX7_ok nmX7 cl_X7_17 rfl rfl hin rfl rfl rfl rfl dX7_init_28 ?_
  refine cg_nm (fun S6 (hS6 : S6 = cSr S5 225 o1 (some q2)) => ?_)
  refine cg_aload_n C (i := 0) rfl 0 rfl dX7_init_31 ?_
  refine cg_bipush C (x := nI 24) rfl dX7_init_32 ?_
  refine cg_bipush C (x := nI 100) rfl dX7_init_34 ?_
  refine cg_mna C 24 100 (by decide) (by decide) cx_X7_15 ca_int (by decide) (by decide) dX7_init_36 (fun q3 ro_q3 hf_q3 hr_q3 hq_q3 hj_q3 => ?_)
  refine cg_nm (fun S7 (hS7 : S7 = cNewM S6 q3 24 100 ro_q3) => ?_)
  have f_2 : o1 ∈ cL S6 := (hm_Sr hS6 (hm_M hS5 (hm_Sr hS4 (hm_SI hS3 (hm_SI hS2 (hm_A hS1 h2))))))
  refine cg_putrF C (k := 7) (j := 2) (x := (some q3)) (ty := tyX7) (fty := tyX7 2) (hm_M hS7 f_2) (hk_M hS7 hf_q3 hr_q3 f_2 (hk_Sr hS6 f_1)) (by decide) rfl (by decide) rfl (by decide) rfl cWs_wsX70 tyX7_ok nmX7 cl_X7_20 rfl rfl hin rfl rfl rfl rfl dX7_init_40 ?_
  refine cg_nm (fun S8 (hS8 : S8 = cSr S7 226 o1 (some q3)) => ?_)
  refine cg_aload_n C (i := 0) rfl 0 rfl dX7_init_43 ?_
  refine cg_bipush C (x := nI 6) rfl dX7_init_44 ?_
  refine cg_bipush C (x := nI 100) rfl dX7_init_46 ?_
  refine cg_mna C 6 100 (by decide) (by decide) cx_X7_15 ca_int (by decide) (by decide) dX7_init_48 (fun q4 ro_q4 hf_q4 hr_q4 hq_q4 hj_q4 => ?_)
  refine cg_nm (fun S9 (hS9 : S9 = cNewM S8 q4 6 100 ro_q4) => ?_)
  have f_3 : cK S9 o1 = 7 := (hk_M hS9 hf_q4 hr_q4 (hm_Sr hS8 (hm_M hS7 f_2)) (hk_Sr hS8 (hk_M hS7 hf_q3 hr_q3 f_2 (hk_Sr hS6 f_1))))
  refine cg_putrF C (k := 7) (j := 3) (x := (some q4)) (ty := tyX7) (fty := tyX7 3) (hm_M hS9 (hm_Sr hS8 (hm_M hS7 f_2))) f_3 (by decide) rfl (by decide) rfl (by decide) rfl cWs_wsX70 tyX7_ok nmX7 cl_X7_23 rfl rfl hin rfl rfl rfl rfl dX7_init_52 ?_
  refine cg_nm (fun S10 (hS10 : S10 = cSr S9 227 o1 (some q4)) => ?_)
  refine cg_aload_n C (i := 0) rfl 0 rfl dX7_init_55 ?_
  refine cg_bipush C (x := nI 6) rfl dX7_init_56 ?_
  refine cg_newI C 6 (by decide) ca_int (by decide) (by decide) dX7_init_58 (fun q5 hf_q5 => ?_)
  refine cg_nm (fun S11 (hS11 : S11 = cNewA S10 q5 14 6) => ?_)
  have f_4 : cK S11 o1 = 7 := (hk_A hS11 (cm_ne (hm_Sr hS10 (hm_M hS9 (hm_Sr hS8 (hm_M hS7 f_2)))) hf_q5) (hk_Sr hS10 f_3))
  refine cg_putrF C (k := 7) (j := 4) (x := (some q5)) (ty := tyX7) (fty := tyX7 4) (hm_A hS11 (hm_Sr hS10 (hm_M hS9 (hm_Sr hS8 (hm_M hS7 f_2))))) f_4 (by decide) rfl (by decide) rfl (by decide) rfl cWs_wsX70 tyX7_ok nmX7 cl_X7_26 rfl rfl hin rfl rfl rfl rfl dX7_init_60 ?_
  refine cg_nm (fun S12 (hS12 : S12 = cSr S11 228 o1 (some q5)) => ?_)
  refine cg_aload_n C (i := 0) rfl 0 rfl dX7_init_63 ?_
  refine cg_bipush C (x := nI 24) rfl dX7_init_64 ?_
  refine cg_newI C 24 (by decide) ca_int (by decide) (by decide) dX7_init_66 (fun q6 hf_q6 => ?_)
  refine cg_nm (fun S13 (hS13 : S13 = cNewA S12 q6 14 24) => ?_)
  have f_5 : o1 ∈ cL S12 := (hm_Sr hS12 (hm_A hS11 (hm_Sr hS10 (hm_M hS9 (hm_Sr hS8 (hm_M hS7 f_2))))))
  refine cg_putrF C (k := 7) (j := 5) (x := (some q6)) (ty := tyX7) (fty := tyX7 5) (hm_A hS13 f_5) (hk_A hS13 (cm_ne f_5 hf_q6) (hk_Sr hS12 f_4)) (by decide) rfl (by decide) rfl (by decide) rfl cWs_wsX70 tyX7_ok nmX7 cl_X7_29 rfl rfl hin rfl rfl rfl rfl dX7_init_68 ?_
  refine cg_nm (fun S14 (hS14 : S14 = cSr S13 229 o1 (some q6)) => ?_)
  refine cg_aload_n C (i := 0) rfl 0 rfl dX7_init_71 ?_
  refine cg_bipush C (x := nI 24) rfl dX7_init_72 ?_
  refine cg_newI C 24 (by decide) ca_int (by decide) (by decide) dX7_init_74 (fun q7 hf_q7 => ?_)
  refine cg_nm (fun S15 (hS15 : S15 = cNewA S14 q7 14 24) => ?_)
  have f_6 : cK S15 o1 = 7 := (hk_A hS15 (cm_ne (hm_Sr hS14 (hm_A hS13 f_5)) hf_q7) (hk_Sr hS14 (hk_A hS13 (cm_ne f_5 hf_q6) (hk_Sr hS12 f_4))))
  refine cg_putrF C (k := 7) (j := 6) (x := (some q7)) (ty := tyX7) (fty := tyX7 6) (hm_A hS15 (hm_Sr hS14 (hm_A hS13 f_5))) f_6 (by decide) rfl (by decide) rfl (by decide) rfl cWs_wsX70 tyX7_ok nmX7 cl_X7_32 rfl rfl hin rfl rfl rfl rfl dX7_init_76 ?_
  refine cg_nm (fun S16 (hS16 : S16 = cSr S15 230 o1 (some q7)) => ?_)
  exact cg_vret C ⟨q1, S1, hf_q1, hS1, S2, hS2, S3, hS3, S4, hS4, q2, ro_q2, S5, hf_q2, hr_q2, hS5, S6, hS6, q3, ro_q3, S7, hf_q3, hr_q3, hS7, S8, hS8, q4, ro_q4, S9, hf_q4, hr_q4, hS9, S10, hS10, q5, S11, hf_q5, hS11, S12, hS12, q6, S13, hf_q6, hS13, S14, hS14, q7, S15, hf_q7, hS15, S16, hS16, rfl⟩ dX7_init_79 (by decide) (by decide)
set_option maxHeartbeats 4000000 in
set_option maxRecDepth 100000 in
theorem z10_X1_init (l : Launch) (hlt : l.stackTraces = false) (S : cS) (dp : Nat) (o1 o2 : Nat) (h1 : cK S o1 = 1) (h2 : o1 ∈ cL S) : cMet (cQv (fun u_ => ∃ (S1 : cS), S1 = cSi S 33 o1 (nI 0) ∧ ∃ (q1 : Nat) (S2 : cS), q1 ∉ cL S1 ∧ S2 = cNewA S1 q1 14 20 ∧ ∃ (S3 : cS), S3 = cSr S2 34 o1 (some q1) ∧ ∃ (q2 : Nat) (S4 : cS), q2 ∉ cL S3 ∧ S4 = cNewA S3 q2 14 20 ∧ ∃ (S5 : cS), S5 = cSr S4 35 o1 (some q2) ∧ ∃ (S6 : cS), S6 = cSi S5 36 o1 (nI 0) ∧ ∃ (S7 : cS), S7 = cSi S6 37 o1 (nI 0) ∧ ∃ (S8 : cS), S8 = cSi S7 38 o1 (nI 0) ∧ ∃ (S9 : cS), S9 = cSi S8 39 o1 (nI 0) ∧ ∃ (q3 : Nat) (S10 : cS), q3 ∉ cL S9 ∧ S10 = cNewA S9 q3 14 8 ∧ ∃ (S11 : cS), S11 = cSr S10 40 o1 (some q3) ∧ ∃ (q4 : Nat) (S12 : cS), q4 ∉ cL S11 ∧ S12 = cNewA S11 q4 14 8 ∧ ∃ (S13 : cS), S13 = cSr S12 41 o1 (some q4) ∧ ∃ (q5 : Nat) (S14 : cS), q5 ∉ cL S13 ∧ S14 = cNewA S13 q5 14 8 ∧ ∃ (S15 : cS), S15 = cSr S14 42 o1 (some q5) ∧ ∃ (q6 : Nat) (ro_q6 : Nat → Nat) (S16 : cS), q6 ∉ cL S15 ∧ (∀ i, i < 8 → ro_q6 i ∉ cL S15) ∧ S16 = cNewM S15 q6 8 100 ro_q6 ∧ ∃ (S17 : cS), S17 = cSr S16 43 o1 (some q6) ∧ ∃ (q7 : Nat) (S18 : cS), q7 ∉ cL S17 ∧ S18 = cNewA S17 q7 14 4 ∧ ∃ (S19 : cS), S19 = cSr S18 44 o1 (some q7) ∧ ∃ (q8 : Nat) (S20 : cS), q8 ∉ cL S19 ∧ S20 = cNewA S19 q8 14 24 ∧ ∃ (S21 : cS), S21 = cSr S20 45 o1 (some q8) ∧ ∃ (S22 : cS), S22 = cSr S21 32 o1 (some o2) ∧ u_ = S22)) l yX1_init cX1_init 2 none 1 16 900 32 [.ref o1, .ref o2] S dp := by
  intro D Y tp sz
  refine cg_bodyI (by decide +kernel) (Nat.le_of_ble_eq_true rfl) ?_
  intro p e s m args below meth c C hin
  generalize va_A (cWd Y S) sz = A at C ⊢
  have C : cC p s m args meth c cX1_init 2 none A D Y tp dp RX1 := C
  refine cg_lv (lv' := [(0, .ref o1), (1, .ref o2)]) rfl ?_
  refine cg_aload_n C (i := 0) rfl 0 rfl dX1_init_0 ?_
  refine cg_objInit C co_X1_3 co_i co_c (by decide) (Nat.le_of_ble_eq_true rfl) dX1_init_1 ?_
  refine cg_aload_n C (i := 0) rfl 0 rfl dX1_init_4 ?_
  refine cg_iconst C (x := nI 0) rfl dX1_init_5 ?_
  refine cg_puti C (k := 1) (j := 1) (ty := tyX1) (fty := .int) h2 h1 (by decide) rfl (by decide) rfl (by decide) rfl cWs_wsX10 tyX1_ok nmX1 cl_X1_9 rfl rfl rfl rfl rfl dX1_init_6 ?_
  refine cg_nm (fun S1 (hS1 : S1 = cSi S 33 o1 (nI 0)) => ?_)
  refine cg_aload_n C (i := 0) rfl 0 rfl dX1_init_9 ?_
  refine cg_bipush C (x := nI 20) rfl dX1_init_10 ?_
  refine cg_newI C 20 (by decide) ca_int (by decide) (by decide) dX1_init_12 (fun q1 hf_q1 => ?_)
  refine cg_nm (fun S2 (hS2 : S2 = cNewA S1 q1 14 20) => ?_)
  refine cg_putrF C (k := 1) (j := 2) (x := (some q1)) (ty := tyX1) (fty := tyX1 2) (hm_A hS2 (hm_Si hS1 h2)) (hk_A hS2 (cm_ne (hm_Si hS1 h2) hf_q1) (hk_Si hS1 h1)) (by decide) rfl (by decide) rfl (by decide) rfl cWs_wsX10 tyX1_ok nmX1 cl_X1_15 rfl rfl hin rfl rfl rfl rfl dX1_init_14 ?_
  refine cg_nm (fun S3 (hS3 : S3 = cSr S2 34 o1 (some q1)) => ?_)
  refine cg_aload_n C (i := 0) rfl 0 rfl dX1_init_17 ?_
  refine cg_bipush C (x := nI 20) rfl dX1_init_18 ?_
  refine cg_newI C 20 (by decide) ca_int (by decide) (by decide) dX1_init_20 (fun q2 hf_q2 => ?_)
  refine cg_nm (fun S4 (hS4 : S4 = cNewA S3 q2 14 20) => ?_)
  have f_1 : cK S4 o1 = 1 := (hk_A hS4 (cm_ne (hm_Sr hS3 (hm_A hS2 (hm_Si hS1 h2))) hf_q2) (hk_Sr hS3 (hk_A hS2 (cm_ne (hm_Si hS1 h2) hf_q1) (hk_Si hS1 h1))))
  refine cg_putrF C (k := 1) (j := 3) (x := (some q2)) (ty := tyX1) (fty := tyX1 3) (hm_A hS4 (hm_Sr hS3 (hm_A hS2 (hm_Si hS1 h2)))) f_1 (by decide) rfl (by decide) rfl (by decide) rfl cWs_wsX10 tyX1_ok nmX1 cl_X1_19 rfl rfl hin rfl rfl rfl rfl dX1_init_22 ?_
  refine cg_nm (fun S5 (hS5 : S5 = cSr S4 35 o1 (some q2)) => ?_)
  refine cg_aload_n C (i := 0) rfl 0 rfl dX1_init_25 ?_
  refine cg_iconst C (x := nI 0) rfl dX1_init_26 ?_
  refine cg_puti C (k := 1) (j := 4) (ty := tyX1) (fty := .int) (hm_Sr hS5 (hm_A hS4 (hm_Sr hS3 (hm_A hS2 (hm_Si hS1 h2))))) (hk_Sr hS5 f_1) (by decide) rfl (by decide) rfl (by decide) rfl cWs_wsX10 tyX1_ok nmX1 cl_X1_22 rfl rfl rfl rfl rfl dX1_init_27 ?_
  refine cg_nm (fun S6 (hS6 : S6 = cSi S5 36 o1 (nI 0)) => ?_)
  refine cg_aload_n C (i := 0) rfl 0 rfl dX1_init_30 ?_
  refine cg_iconst C (x := nI 0) rfl dX1_init_31 ?_
  have f_2 : o1 ∈ cL S6 := (hm_Si hS6 (hm_Sr hS5 (hm_A hS4 (hm_Sr hS3 (hm_A hS2 (hm_Si hS1 h2))))))
  refine cg_puti C (k := 1) (j := 5) (ty := tyX1) (fty := .int) f_2 (hk_Si hS6 (hk_Sr hS5 f_1)) (by decide) rfl (by decide) rfl (by decide) rfl cWs_wsX10 tyX1_ok nmX1 cl_X1_25 rfl rfl rfl rfl rfl dX1_init_32 ?_
  refine cg_nm (fun S7 (hS7 : S7 = cSi S6 37 o1 (nI 0)) => ?_)
  refine cg_aload_n C (i := 0) rfl 0 rfl dX1_init_35 ?_
  refine cg_iconst C (x := nI 0) rfl dX1_init_36 ?_
  refine cg_puti C (k := 1) (j := 6) (ty := tyX1) (fty := .int) (hm_Si hS7 f_2) (hk_Si hS7 (hk_Si hS6 (hk_Sr hS5 f_1))) (by decide) rfl (by decide) rfl (by decide) rfl cWs_wsX10 tyX1_ok nmX1 cl_X1_28 rfl rfl rfl rfl rfl dX1_init_37 ?_
  refine cg_nm (fun S8 (hS8 : S8 = cSi S7 38 o1 (nI 0)) => ?_)
  refine cg_aload_n C (i := 0) rfl 0 rfl dX1_init_40 ?_
  refine cg_iconst C (x := nI 0) rfl dX1_init_41 ?_
  refine cg_puti C (k := 1) (j := 7) (ty := tyX1) (fty := .int) (hm_Si hS8 (hm_Si hS7 f_2)) (hk_Si hS8 (hk_Si hS7 (hk_Si hS6 (hk_Sr hS5 f_1)))) (by decide) rfl (by decide) rfl (by decide) rfl cWs_wsX10 tyX1_ok nmX1 cl_X1_31 rfl rfl rfl rfl rfl dX1_init_42 ?_
  refine cg_nm (fun S9 (hS9 : S9 = cSi S8 39 o1 (nI 0)) => ?_)
  refine cg_aload_n C (i := 0) rfl 0 rfl dX1_init_45 ?_
  refine cg_bipush C (x := nI 8) rfl dX1_init_46 ?_
  refine cg_newI C 8 (by decide) ca_int (by decide) (by decide) dX1_init_48 (fun q3 hf_q3 => ?_)
  refine cg_nm (fun S10 (hS10 : S10 = cNewA S9 q3 14 8) => ?_)
  have f_3 : cK S10 o1 = 1 := (hk_A hS10 (cm_ne (hm_Si hS9 (hm_Si hS8 (hm_Si hS7 f_2))) hf_q3) (hk_Si hS9 (hk_Si hS8 (hk_Si hS7 (hk_Si hS6 (hk_Sr hS5 f_1))))))
  refine cg_putrF C (k := 1) (j := 8) (x := (some q3)) (ty := tyX1) (fty := tyX1 8) (hm_A hS10 (hm_Si hS9 (hm_Si hS8 (hm_Si hS7 f_2)))) f_3 (by decide) rfl (by decide) rfl (by decide) rfl cWs_wsX10 tyX1_ok nmX1 cl_X1_34 rfl rfl hin rfl rfl rfl rfl dX1_init_50 ?_
  refine cg_nm (fun S11 (hS11 : S11 = cSr S10 40 o1 (some q3)) => ?_)
  refine cg_aload_n C (i := 0) rfl 0 rfl dX1_init_53 ?_
  refine cg_bipush C (x := nI 8) rfl dX1_init_54 ?_
  refine cg_newI C 8 (by decide) ca_int (by decide) (by decide) dX1_init_56 (fun q4 hf_q4 => ?_)
  refine cg_nm (fun S12 (hS12 : S12 = cNewA S11 q4 14 8) => ?_)
  have f_4 : cK S12 o1 = 1 := (hk_A hS12 (cm_ne (hm_Sr hS11 (hm_A hS10 (hm_Si hS9 (hm_Si hS8 (hm_Si hS7 f_2))))) hf_q4) (hk_Sr hS11 f_3))
  have f_5 : o1 ∈ cL S12 := (hm_A hS12 (hm_Sr hS11 (hm_A hS10 (hm_Si hS9 (hm_Si hS8 (hm_Si hS7 f_2))))))
  refine cg_putrF C (k := 1) (j := 9) (x := (some q4)) (ty := tyX1) (fty := tyX1 9) f_5 f_4 (by decide) rfl (by decide) rfl (by decide) rfl cWs_wsX10 tyX1_ok nmX1 cl_X1_37 rfl rfl hin rfl rfl rfl rfl dX1_init_58 ?_
  refine cg_nm (fun S13 (hS13 : S13 = cSr S12 41 o1 (some q4)) => ?_)
  refine cg_aload_n C (i := 0) rfl 0 rfl dX1_init_61 ?_
  refine cg_bipush C (x := nI 8) rfl dX1_init_62 ?_
  refine cg_newI C 8 (by decide) ca_int (by decide) (by decide) dX1_init_64 (fun q5 hf_q5 => ?_)
  refine cg_nm (fun S14 (hS14 : S14 = cNewA S13 q5 14 8) => ?_)
  refine cg_putrF C (k := 1) (j := 10) (x := (some q5)) (ty := tyX1) (fty := tyX1 10) (hm_A hS14 (hm_Sr hS13 f_5)) (hk_A hS14 (cm_ne (hm_Sr hS13 f_5) hf_q5) (hk_Sr hS13 f_4)) (by decide) rfl (by decide) rfl (by decide) rfl cWs_wsX10 tyX1_ok nmX1 cl_X1_40 rfl rfl hin rfl rfl rfl rfl dX1_init_66 ?_
  refine cg_nm (fun S15 (hS15 : S15 = cSr S14 42 o1 (some q5)) => ?_)
  refine cg_aload_n C (i := 0) rfl 0 rfl dX1_init_69 ?_
  refine cg_bipush C (x := nI 8) rfl dX1_init_70 ?_
  refine cg_bipush C (x := nI 100) rfl dX1_init_72 ?_
  refine cg_mna C 8 100 (by decide) (by decide) cx_X1_43 ca_int (by decide) (by decide) dX1_init_74 (fun q6 ro_q6 hf_q6 hr_q6 hq_q6 hj_q6 => ?_)
  refine cg_nm (fun S16 (hS16 : S16 = cNewM S15 q6 8 100 ro_q6) => ?_)
  have f_6 : cK S15 o1 = 1 := (hk_Sr hS15 (hk_A hS14 (cm_ne (hm_Sr hS13 f_5) hf_q5) (hk_Sr hS13 f_4)))
  refine cg_putrF C (k := 1) (j := 11) (x := (some q6)) (ty := tyX1) (fty := tyX1 11) (hm_M hS16 (hm_Sr hS15 (hm_A hS14 (hm_Sr hS13 f_5)))) (hk_M hS16 hf_q6 hr_q6 (hm_Sr hS15 (hm_A hS14 (hm_Sr hS13 f_5))) f_6) (by decide) rfl (by decide) rfl (by decide) rfl cWs_wsX10 tyX1_ok nmX1 cl_X1_45 rfl rfl hin rfl rfl rfl rfl dX1_init_78 ?_
  refine cg_nm (fun S17 (hS17 : S17 = cSr S16 43 o1 (some q6)) => ?_)
  refine cg_aload_n C (i := 0) rfl 0 rfl dX1_init_81 ?_
  refine cg_iconst C (x := nI 4) rfl dX1_init_82 ?_
  refine cg_newI C 4 (by decide) ca_int (by decide) (by decide) dX1_init_83 (fun q7 hf_q7 => ?_)
  refine cg_nm (fun S18 (hS18 : S18 = cNewA S17 q7 14 4) => ?_)
  have f_7 : cK S17 o1 = 1 := (hk_Sr hS17 (hk_M hS16 hf_q6 hr_q6 (hm_Sr hS15 (hm_A hS14 (hm_Sr hS13 f_5))) f_6))
  have f_8 : cK S18 o1 = 1 := (hk_A hS18 (cm_ne (hm_Sr hS17 (hm_M hS16 (hm_Sr hS15 (hm_A hS14 (hm_Sr hS13 f_5))))) hf_q7) f_7)
  have f_9 : o1 ∈ cL S18 := (hm_A hS18 (hm_Sr hS17 (hm_M hS16 (hm_Sr hS15 (hm_A hS14 (hm_Sr hS13 f_5))))))
  refine cg_putrF C (k := 1) (j := 12) (x := (some q7)) (ty := tyX1) (fty := tyX1 12) f_9 f_8 (by decide) rfl (by decide) rfl (by decide) rfl cWs_wsX10 tyX1_ok nmX1 cl_X1_48 rfl rfl hin rfl rfl rfl rfl dX1_init_85 ?_
  refine cg_nm (fun S19 (hS19 : S19 = cSr S18 44 o1 (some q7)) => ?_)
  refine cg_aload_n C (i := 0) rfl 0 rfl dX1_init_88 ?_
  refine cg_bipush C (x := nI 24) rfl dX1_init_89 ?_
  refine cg_newI C 24 (by decide) ca_int (by decide) (by decide) dX1_init_91 (fun q8 hf_q8 => ?_)
  refine cg_nm (fun S20 (hS20 : S20 = cNewA S19 q8 14 24) => ?_)
  refine cg_putrF C (k := 1) (j := 13) (x := (some q8)) (ty := tyX1) (fty := tyX1 13) (hm_A hS20 (hm_Sr hS19 f_9)) (hk_A hS20 (cm_ne (hm_Sr hS19 f_9) hf_q8) (hk_Sr hS19 f_8)) (by decide) rfl (by decide) rfl (by decide) rfl cWs_wsX10 tyX1_ok nmX1 cl_X1_51 rfl rfl hin rfl rfl rfl rfl dX1_init_93 ?_
  refine cg_nm (fun S21 (hS21 : S21 = cSr S20 45 o1 (some q8)) => ?_)
  refine cg_aload_n C (i := 0) rfl 0 rfl dX1_init_96 ?_
  refine cg_aload_n C (i := 1) rfl 1 rfl dX1_init_97 ?_
  have f_10 : cK S21 o1 = 1 := (hk_Sr hS21 (hk_A hS20 (cm_ne (hm_Sr hS19 f_9) hf_q8) (hk_Sr hS19 f_8)))
  refine cg_putrF C (k := 1) (j := 0) (x := (some o2)) (ty := tyX1) (fty := tyX1 0) (hm_Sr hS21 (hm_A hS20 (hm_Sr hS19 f_9))) f_10 (by decide) rfl (by decide) rfl (by decide) rfl cWs_wsX10 tyX1_ok nmX1 cl_X1_54 rfl rfl hin rfl rfl rfl rfl dX1_init_98 ?_
  refine cg_nm (fun S22 (hS22 : S22 = cSr S21 32 o1 (some o2)) => ?_)
  exact cg_vret C ⟨S1, hS1, q1, S2, hf_q1, hS2, S3, hS3, q2, S4, hf_q2, hS4, S5, hS5, S6, hS6, S7, hS7, S8, hS8, S9, hS9, q3, S10, hf_q3, hS10, S11, hS11, q4, S12, hf_q4, hS12, S13, hS13, q5, S14, hf_q5, hS14, S15, hS15, q6, ro_q6, S16, hf_q6, hr_q6, hS16, S17, hS17, q7, S18, hf_q7, hS18, S19, hS19, q8, S20, hf_q8, hS20, S21, hS21, S22, hS22, rfl⟩ dX1_init_101 (by decide) (by decide)
set_option maxHeartbeats 4000000 in
set_option maxRecDepth 100000 in
theorem z11_X11_init (l : Launch) (hlt : l.stackTraces = false) (S : cS) (dp : Nat) (o1 : Nat) (h1 : cK S o1 = 11) (h2 : o1 ∈ cL S) : cMet (cQv (fun u_ => ∃ (q1 : Nat) (S1 : cS), q1 ∉ cL S ∧ S1 = cNew S q1 3 ∧ ∃ (q2 : Nat) (S2 : cS), q2 ∉ cL S1 ∧ S2 = cNew S1 q2 9 ∧ ∃ (q3 : Nat) (S3 : cS), q3 ∉ cL S2 ∧ S3 = cNewA S2 q3 14 40 ∧ ∃ (S4 : cS), S4 = cSr S3 288 q2 (some q3) ∧ ∃ (S5 : cS), S5 = cSi S4 289 q2 (nI 0) ∧ ∃ (q4 : Nat) (S6 : cS), q4 ∉ cL S5 ∧ S6 = cNewA S5 q4 15 0 ∧ ∃ (S7 : cS), S7 = cSr S6 290 q2 (some q4) ∧ ∃ (q5 : Nat) (S8 : cS), q5 ∉ cL S7 ∧ S8 = cNewA S7 q5 14 0 ∧ ∃ (S9 : cS), S9 = cSr S8 291 q2 (some q5) ∧ ∃ (S10 : cS), S10 = cSi S9 292 q2 (nI 0) ∧ ∃ (S11 : cS), S11 = cSr S10 96 q1 (some q2) ∧ ∃ (q6 : Nat) (S12 : cS), q6 ∉ cL S11 ∧ S12 = cNewA S11 q6 15 20 ∧ ∃ (S13 : cS), S13 = cSr S12 97 q1 (some q6) ∧ ∃ (S14 : cS), S14 = cSi S13 98 q1 (nI 0) ∧ ∃ (q7 : Nat) (S15 : cS), q7 ∉ cL S14 ∧ S15 = cNewA S14 q7 15 10 ∧ ∃ (S16 : cS), S16 = cSr S15 99 q1 (some q7) ∧ ∃ (S17 : cS), S17 = cSi S16 100 q1 (nI 0) ∧ ∃ (q8 : Nat) (S18 : cS), q8 ∉ cL S17 ∧ S18 = cNewA S17 q8 15 10 ∧ ∃ (S19 : cS), S19 = cSr S18 101 q1 (some q8) ∧ ∃ (q9 : Nat) (S20 : cS), q9 ∉ cL S19 ∧ S20 = cNewA S19 q9 15 10 ∧ ∃ (S21 : cS), S21 = cSr S20 102 q1 (some q9) ∧ ∃ (S22 : cS), S22 = cSi S21 103 q1 (nI 0) ∧ ∃ (S23 : cS), S23 = cSi S22 104 q1 (bI false) ∧ ∃ (S24 : cS), S24 = cSr S23 352 o1 (some q1) ∧ ∃ (q10 : Nat) (S25 : cS), q10 ∉ cL S24 ∧ S25 = cNew S24 q10 0 ∧ ∃ (S26 : cS), S26 = cSi S25 0 q10 ((-1)) ∧ ∃ (S27 : cS), S27 = cSi S26 1 q10 (nI 0) ∧ ∃ (S28 : cS), S28 = cSi S27 2 q10 (nI 0) ∧ ∃ (q11 : Nat) (S29 : cS), q11 ∉ cL S28 ∧ S29 = cNew S28 q11 9 ∧ ∃ (q12 : Nat) (S30 : cS), q12 ∉ cL S29 ∧ S30 = cNewA S29 q12 14 40 ∧ ∃ (S31 : cS), S31 = cSr S30 288 q11 (some q12) ∧ ∃ (S32 : cS), S32 = cSi S31 289 q11 (nI 0) ∧ ∃ (q13 : Nat) (S33 : cS), q13 ∉ cL S32 ∧ S33 = cNewA S32 q13 15 0 ∧ ∃ (S34 : cS), S34 = cSr S33 290 q11 (some q13) ∧ ∃ (q14 : Nat) (S35 : cS), q14 ∉ cL S34 ∧ S35 = cNewA S34 q14 14 0 ∧ ∃ (S36 : cS), S36 = cSr S35 291 q11 (some q14) ∧ ∃ (S37 : cS), S37 = cSi S36 292 q11 (nI 0) ∧ ∃ (S38 : cS), S38 = cSr S37 3 q10 (some q11) ∧ ∃ (q15 : Nat) (S39 : cS), q15 ∉ cL S38 ∧ S39 = cNew S38 q15 9 ∧ ∃ (q16 : Nat) (S40 : cS), q16 ∉ cL S39 ∧ S40 = cNewA S39 q16 14 40 ∧ ∃ (S41 : cS), S41 = cSr S40 288 q15 (some q16) ∧ ∃ (S42 : cS), S42 = cSi S41 289 q15 (nI 0) ∧ ∃ (q17 : Nat) (S43 : cS), q17 ∉ cL S42 ∧ S43 = cNewA S42 q17 15 0 ∧ ∃ (S44 : cS), S44 = cSr S43 290 q15 (some q17) ∧ ∃ (q18 : Nat) (S45 : cS), q18 ∉ cL S44 ∧ S45 = cNewA S44 q18 14 0 ∧ ∃ (S46 : cS), S46 = cSr S45 291 q15 (some q18) ∧ ∃ (S47 : cS), S47 = cSi S46 292 q15 (nI 0) ∧ ∃ (S48 : cS), S48 = cSr S47 4 q10 (some q15) ∧ ∃ (S49 : cS), S49 = cSr S48 353 o1 (some q10) ∧ ∃ (q19 : Nat) (S50 : cS), q19 ∉ cL S49 ∧ S50 = cNew S49 q19 12 ∧ ∃ (S51 : cS), S51 = cSi S50 384 q19 (nI 0) ∧ ∃ (S52 : cS), S52 = cSr S51 385 q19 (some dp) ∧ ∃ (S53 : cS), S53 = cSr S52 354 o1 (some q19) ∧ ∃ (q20 : Nat) (S54 : cS), q20 ∉ cL S53 ∧ S54 = cNew S53 q20 10 ∧ ∃ (q21 : Nat) (S55 : cS), q21 ∉ cL S54 ∧ S55 = cNew S54 q21 12 ∧ ∃ (S56 : cS), S56 = cSi S55 384 q21 (nI 0) ∧ ∃ (S57 : cS), S57 = cSr S56 385 q21 (some dp) ∧ ∃ (S58 : cS), S58 = cSr S57 321 q20 (some q21) ∧ ∃ (S59 : cS), S59 = cSi S58 320 q20 ((-1)) ∧ ∃ (S60 : cS), S60 = cSr S59 355 o1 (some q20) ∧ ∃ (S61 : cS), S61 = cSr S60 356 o1 none ∧ ∃ (S62 : cS), S62 = cSi S61 357 o1 (nI 0) ∧ ∃ (S63 : cS), S63 = cSr S62 358 o1 none ∧ ∃ (S64 : cS), S64 = cSr S63 359 o1 none ∧ ∃ (q22 : Nat) (S65 : cS), q22 ∉ cL S64 ∧ S65 = cNew S64 q22 12 ∧ ∃ (S66 : cS), S66 = cSi S65 384 q22 (nI 0) ∧ ∃ (S67 : cS), S67 = cSr S66 385 q22 (some dp) ∧ ∃ (S68 : cS), S68 = cSr S67 360 o1 (some q22) ∧ ∃ (S69 : cS), S69 = cSi S68 361 o1 (nI 0) ∧ ∃ (q23 : Nat) (S70 : cS), q23 ∉ cL S69 ∧ S70 = cNew S69 q23 6 ∧ ∃ (q24 : Nat) (S71 : cS), q24 ∉ cL S70 ∧ S71 = cNew S70 q24 12 ∧ ∃ (S72 : cS), S72 = cSi S71 384 q24 (nI 0) ∧ ∃ (S73 : cS), S73 = cSr S72 385 q24 (some dp) ∧ ∃ (S74 : cS), S74 = cSr S73 192 q23 (some q24) ∧ ∃ (q25 : Nat) (S75 : cS), q25 ∉ cL S74 ∧ S75 = cNew S74 q25 12 ∧ ∃ (S76 : cS), S76 = cSi S75 384 q25 (nI 0) ∧ ∃ (S77 : cS), S77 = cSr S76 385 q25 (some dp) ∧ ∃ (S78 : cS), S78 = cSr S77 193 q23 (some q25) ∧ ∃ (q26 : Nat) (S79 : cS), q26 ∉ cL S78 ∧ S79 = cNewA S78 q26 14 8 ∧ ∃ (S80 : cS), S80 = cSr S79 194 q23 (some q26) ∧ ∃ (S81 : cS), S81 = cSi S80 195 q23 (nI 0) ∧ ∃ (q27 : Nat) (S82 : cS), q27 ∉ cL S81 ∧ S82 = cNewA S81 q27 14 8 ∧ ∃ (S83 : cS), S83 = cSr S82 196 q23 (some q27) ∧ ∃ (S84 : cS), S84 = cSr S83 362 o1 (some q23) ∧ ∃ (q28 : Nat) (S85 : cS), q28 ∉ cL S84 ∧ S85 = cNew S84 q28 12 ∧ ∃ (S86 : cS), S86 = cSi S85 384 q28 (nI 0) ∧ ∃ (S87 : cS), S87 = cSr S86 385 q28 (some dp) ∧ ∃ (S88 : cS), S88 = cSr S87 363 o1 (some q28) ∧ ∃ (q29 : Nat) (S89 : cS), q29 ∉ cL S88 ∧ S89 = cNew S88 q29 7 ∧ ∃ (q30 : Nat) (S90 : cS), q30 ∉ cL S89 ∧ S90 = cNewA S89 q30 14 2 ∧ ∃ (S91 : cS), S91 = cSI S90 q30 0 (nI 3) ∧ ∃ (S92 : cS), S92 = cSI S91 q30 1 (nI 1) ∧ ∃ (S93 : cS), S93 = cSr S92 224 q29 (some q30) ∧ ∃ (q31 : Nat) (ro_q31 : Nat → Nat) (S94 : cS), q31 ∉ cL S93 ∧ (∀ i, i < 24 → ro_q31 i ∉ cL S93) ∧ S94 = cNewM S93 q31 24 100 ro_q31 ∧ ∃ (S95 : cS), S95 = cSr S94 225 q29 (some q31) ∧ ∃ (q32 : Nat) (ro_q32 : Nat → Nat) (S96 : cS), q32 ∉ cL S95 ∧ (∀ i, i < 24 → ro_q32 i ∉ cL S95) ∧ S96 = cNewM S95 q32 24 100 ro_q32 ∧ ∃ (S97 : cS), S97 = cSr S96 226 q29 (some q32) ∧ ∃ (q33 : Nat) (ro_q33 : Nat → Nat) (S98 : cS), q33 ∉ cL S97 ∧ (∀ i, i < 6 → ro_q33 i ∉ cL S97) ∧ S98 = cNewM S97 q33 6 100 ro_q33 ∧ ∃ (S99 : cS), S99 = cSr S98 227 q29 (some q33) ∧ ∃ (q34 : Nat) (S100 : cS), q34 ∉ cL S99 ∧ S100 = cNewA S99 q34 14 6 ∧ ∃ (S101 : cS), S101 = cSr S100 228 q29 (some q34) ∧ ∃ (q35 : Nat) (S102 : cS), q35 ∉ cL S101 ∧ S102 = cNewA S101 q35 14 24 ∧ ∃ (S103 : cS), S103 = cSr S102 229 q29 (some q35) ∧ ∃ (q36 : Nat) (S104 : cS), q36 ∉ cL S103 ∧ S104 = cNewA S103 q36 14 24 ∧ ∃ (S105 : cS), S105 = cSr S104 230 q29 (some q36) ∧ ∃ (S106 : cS), S106 = cSr S105 364 o1 (some q29) ∧ ∃ (q37 : Nat) (S107 : cS), q37 ∉ cL S106 ∧ S107 = cNew S106 q37 1 ∧ ∃ (S108 : cS), S108 = cSi S107 33 q37 (nI 0) ∧ ∃ (q38 : Nat) (S109 : cS), q38 ∉ cL S108 ∧ S109 = cNewA S108 q38 14 20 ∧ ∃ (S110 : cS), S110 = cSr S109 34 q37 (some q38) ∧ ∃ (q39 : Nat) (S111 : cS), q39 ∉ cL S110 ∧ S111 = cNewA S110 q39 14 20 ∧ ∃ (S112 : cS), S112 = cSr S111 35 q37 (some q39) ∧ ∃ (S113 : cS), S113 = cSi S112 36 q37 (nI 0) ∧ ∃ (S114 : cS), S114 = cSi S113 37 q37 (nI 0) ∧ ∃ (S115 : cS), S115 = cSi S114 38 q37 (nI 0) ∧ ∃ (S116 : cS), S116 = cSi S115 39 q37 (nI 0) ∧ ∃ (q40 : Nat) (S117 : cS), q40 ∉ cL S116 ∧ S117 = cNewA S116 q40 14 8 ∧ ∃ (S118 : cS), S118 = cSr S117 40 q37 (some q40) ∧ ∃ (q41 : Nat) (S119 : cS), q41 ∉ cL S118 ∧ S119 = cNewA S118 q41 14 8 ∧ ∃ (S120 : cS), S120 = cSr S119 41 q37 (some q41) ∧ ∃ (q42 : Nat) (S121 : cS), q42 ∉ cL S120 ∧ S121 = cNewA S120 q42 14 8 ∧ ∃ (S122 : cS), S122 = cSr S121 42 q37 (some q42) ∧ ∃ (q43 : Nat) (ro_q43 : Nat → Nat) (S123 : cS), q43 ∉ cL S122 ∧ (∀ i, i < 8 → ro_q43 i ∉ cL S122) ∧ S123 = cNewM S122 q43 8 100 ro_q43 ∧ ∃ (S124 : cS), S124 = cSr S123 43 q37 (some q43) ∧ ∃ (q44 : Nat) (S125 : cS), q44 ∉ cL S124 ∧ S125 = cNewA S124 q44 14 4 ∧ ∃ (S126 : cS), S126 = cSr S125 44 q37 (some q44) ∧ ∃ (q45 : Nat) (S127 : cS), q45 ∉ cL S126 ∧ S127 = cNewA S126 q45 14 24 ∧ ∃ (S128 : cS), S128 = cSr S127 45 q37 (some q45) ∧ ∃ (S129 : cS), S129 = cSr S128 32 q37 (some q29) ∧ ∃ (S130 : cS), S130 = cSr S129 365 o1 (some q37) ∧ ∃ (S131 : cS), S131 = cSi S130 366 o1 (nI 0) ∧ ∃ (S132 : cS), S132 = cSi S131 367 o1 (nI 0) ∧ ∃ (S133 : cS), S133 = cSi S132 368 o1 (nI 0) ∧ ∃ (S134 : cS), S134 = cSi S133 369 o1 ((-1)) ∧ ∃ (S135 : cS), S135 = cSi S134 370 o1 (bI false) ∧ u_ = S135)) l yX11_init cX11_init 1 none 5 107 6671 113 [.ref o1] S dp := by
  intro D Y tp sz
  refine cg_bodyI (by decide +kernel) (Nat.le_of_ble_eq_true rfl) ?_
  intro p e s m args below meth c C hin
  generalize va_A (cWd Y S) sz = A at C ⊢
  have C : cC p s m args meth c cX11_init 1 none A D Y tp dp RX11 := C
  refine cg_lv (lv' := [(0, .ref o1)]) rfl ?_
  refine cg_aload_n C (i := 0) rfl 0 rfl dX11_init_0 ?_
  refine cg_objInit C co_X11_1 co_i co_c (by decide) (Nat.le_of_ble_eq_true rfl) dX11_init_1 ?_
  refine cg_aload_n C (i := 0) rfl 0 rfl dX11_init_4 ?_
  refine cg_new C (k := 3) (N := 9) (fs := [.null, .null, .int 0, .null, .int 0, .null, .null, .int 0, .int 0]) (by decide) rfl cWs_wsX30 tyX3_ok cn_X11_7 ci_X3 ct_X3 (fun j_ hj_ => by rcases (show j_ = 0 ∨ j_ = 1 ∨ j_ = 2 ∨ j_ = 3 ∨ j_ = 4 ∨ j_ = 5 ∨ j_ = 6 ∨ j_ = 7 ∨ j_ = 8 by omega) with rfl | rfl | rfl | rfl | rfl | rfl | rfl | rfl | rfl <;> rfl) rfl (by decide) (by decide) dX11_init_5 (fun q1 hf_q1 => ?_)
  refine cg_nm (fun S1 (hS1 : S1 = cNew S q1 3) => ?_)
  refine cg_dup C rfl dX11_init_8 ?_
  refine cg_callIN C (z2_X3_init l hlt S1 dp q1 (hk_No hS1) (hm_No hS1)) czn_X11_9 rfl ⟨by decide, by decide⟩ ⟨by decide, by decide⟩ rfl (Nat.le_of_ble_eq_true rfl) dX11_init_9 (fun u_9 h_9 => ?_)
  obtain ⟨q2, S2, hf_q2, hS2, q3, S3, hf_q3, hS3, S4, hS4, S5, hS5, q4, S6, hf_q4, hS6, S7, hS7, q5, S8, hf_q5, hS8, S9, hS9, S10, hS10, S11, hS11, q6, S12, hf_q6, hS12, S13, hS13, S14, hS14, q7, S15, hf_q7, hS15, S16, hS16, S17, hS17, q8, S18, hf_q8, hS18, S19, hS19, q9, S20, hf_q9, hS20, S21, hS21, S22, hS22, S23, hS23, hu_9⟩ := h_9
  have hw_9 := hu_9.symm
  subst hw_9
  have f_1 : cK S3 o1 = 11 := (hk_A hS3 (cm_ne (hm_N hS2 (hm_N hS1 h2)) hf_q3) (hk_N hS2 (cm_ne (hm_N hS1 h2) hf_q2) (hk_N hS1 (cm_ne h2 hf_q1) h1)))
  have f_2 : cK S6 o1 = 11 := (hk_A hS6 (cm_ne (hm_Si hS5 (hm_Sr hS4 (hm_A hS3 (hm_N hS2 (hm_N hS1 h2))))) hf_q4) (hk_Si hS5 (hk_Sr hS4 f_1)))
  have f_3 : o1 ∈ cL S7 := (hm_Sr hS7 (hm_A hS6 (hm_Si hS5 (hm_Sr hS4 (hm_A hS3 (hm_N hS2 (hm_N hS1 h2)))))))
  have f_4 : cK S11 o1 = 11 := (hk_Sr hS11 (hk_Si hS10 (hk_Sr hS9 (hk_A hS8 (cm_ne f_3 hf_q5) (hk_Sr hS7 f_2)))))
  have f_5 : cK S12 o1 = 11 := (hk_A hS12 (cm_ne (hm_Sr hS11 (hm_Si hS10 (hm_Sr hS9 (hm_A hS8 f_3)))) hf_q6) f_4)
  have f_6 : o1 ∈ cL S13 := (hm_Sr hS13 (hm_A hS12 (hm_Sr hS11 (hm_Si hS10 (hm_Sr hS9 (hm_A hS8 f_3))))))
  have f_7 : cK S15 o1 = 11 := (hk_A hS15 (cm_ne (hm_Si hS14 f_6) hf_q7) (hk_Si hS14 (hk_Sr hS13 f_5)))
  have f_8 : cK S18 o1 = 11 := (hk_A hS18 (cm_ne (hm_Si hS17 (hm_Sr hS16 (hm_A hS15 (hm_Si hS14 f_6)))) hf_q8) (hk_Si hS17 (hk_Sr hS16 f_7)))
  have f_9 : o1 ∈ cL S19 := (hm_Sr hS19 (hm_A hS18 (hm_Si hS17 (hm_Sr hS16 (hm_A hS15 (hm_Si hS14 f_6))))))
  have f_10 : cK S22 o1 = 11 := (hk_Si hS22 (hk_Sr hS21 (hk_A hS20 (cm_ne f_9 hf_q9) (hk_Sr hS19 f_8))))
  refine cg_putrF C (k := 11) (j := 0) (x := (some q1)) (ty := tyX11) (fty := tyX11 0) (hm_Si hS23 (hm_Si hS22 (hm_Sr hS21 (hm_A hS20 f_9)))) (hk_Si hS23 f_10) (by decide) rfl (by decide) rfl (by decide) rfl cWs_wsX110 tyX11_ok nmX11 cl_X11_10 rfl rfl hin rfl rfl rfl rfl dX11_init_12 ?_
  refine cg_nm (fun S24 (hS24 : S24 = cSr S23 352 o1 (some q1)) => ?_)
  refine cg_aload_n C (i := 0) rfl 0 rfl dX11_init_15 ?_
  refine cg_new C (k := 0) (N := 5) (fs := [.int 0, .int 0, .int 0, .null, .null]) (by decide) rfl cWs_wsX00 tyX0_ok cn_X11_16 ci_X0 ct_X0 (fun j_ hj_ => by rcases (show j_ = 0 ∨ j_ = 1 ∨ j_ = 2 ∨ j_ = 3 ∨ j_ = 4 by omega) with rfl | rfl | rfl | rfl | rfl <;> rfl) rfl (by decide) (by decide) dX11_init_16 (fun q10 hf_q10 => ?_)
  refine cg_nm (fun S25 (hS25 : S25 = cNew S24 q10 0) => ?_)
  refine cg_dup C rfl dX11_init_19 ?_
  refine cg_callIN C (z3_X0_init l hlt S25 dp q10 (hk_No hS25) (hm_No hS25)) czn_X11_18 rfl ⟨by decide, by decide⟩ ⟨by decide, by decide⟩ rfl (Nat.le_of_ble_eq_true rfl) dX11_init_20 (fun u_20 h_20 => ?_)
  obtain ⟨S26, hS26, S27, hS27, S28, hS28, q11, S29, hf_q11, hS29, q12, S30, hf_q12, hS30, S31, hS31, S32, hS32, q13, S33, hf_q13, hS33, S34, hS34, q14, S35, hf_q14, hS35, S36, hS36, S37, hS37, S38, hS38, q15, S39, hf_q15, hS39, q16, S40, hf_q16, hS40, S41, hS41, S42, hS42, q17, S43, hf_q17, hS43, S44, hS44, q18, S45, hf_q18, hS45, S46, hS46, S47, hS47, S48, hS48, hu_20⟩ := h_20
  have hw_20 := hu_20.symm
  subst hw_20
  have f_11 : cK S25 o1 = 11 := (hk_N hS25 (cm_ne (hm_Sr hS24 (hm_Si hS23 (hm_Si hS22 (hm_Sr hS21 (hm_A hS20 f_9))))) hf_q10) (hk_Sr hS24 (hk_Si hS23 f_10)))
  have f_12 : o1 ∈ cL S25 := (hm_N hS25 (hm_Sr hS24 (hm_Si hS23 (hm_Si hS22 (hm_Sr hS21 (hm_A hS20 f_9))))))
  have f_13 : cK S29 o1 = 11 := (hk_N hS29 (cm_ne (hm_Si hS28 (hm_Si hS27 (hm_Si hS26 f_12))) hf_q11) (hk_Si hS28 (hk_Si hS27 (hk_Si hS26 f_11))))
  have f_14 : cK S30 o1 = 11 := (hk_A hS30 (cm_ne (hm_N hS29 (hm_Si hS28 (hm_Si hS27 (hm_Si hS26 f_12)))) hf_q12) f_13)
  have f_15 : o1 ∈ cL S31 := (hm_Sr hS31 (hm_A hS30 (hm_N hS29 (hm_Si hS28 (hm_Si hS27 (hm_Si hS26 f_12))))))
  have f_16 : cK S33 o1 = 11 := (hk_A hS33 (cm_ne (hm_Si hS32 f_15) hf_q13) (hk_Si hS32 (hk_Sr hS31 f_14)))
  have f_17 : cK S35 o1 = 11 := (hk_A hS35 (cm_ne (hm_Sr hS34 (hm_A hS33 (hm_Si hS32 f_15))) hf_q14) (hk_Sr hS34 f_16))
  have f_18 : o1 ∈ cL S37 := (hm_Si hS37 (hm_Sr hS36 (hm_A hS35 (hm_Sr hS34 (hm_A hS33 (hm_Si hS32 f_15))))))
  have f_19 : cK S39 o1 = 11 := (hk_N hS39 (cm_ne (hm_Sr hS38 f_18) hf_q15) (hk_Sr hS38 (hk_Si hS37 (hk_Sr hS36 f_17))))
  have f_20 : cK S41 o1 = 11 := (hk_Sr hS41 (hk_A hS40 (cm_ne (hm_N hS39 (hm_Sr hS38 f_18)) hf_q16) f_19))
  have f_21 : cK S43 o1 = 11 := (hk_A hS43 (cm_ne (hm_Si hS42 (hm_Sr hS41 (hm_A hS40 (hm_N hS39 (hm_Sr hS38 f_18))))) hf_q17) (hk_Si hS42 f_20))
  have f_22 : o1 ∈ cL S43 := (hm_A hS43 (hm_Si hS42 (hm_Sr hS41 (hm_A hS40 (hm_N hS39 (hm_Sr hS38 f_18))))))
  have f_23 : cK S46 o1 = 11 := (hk_Sr hS46 (hk_A hS45 (cm_ne (hm_Sr hS44 f_22) hf_q18) (hk_Sr hS44 f_21)))
  refine cg_putr C (k := 11) (j := 1) (x := (some q10)) (ty := tyX11) (fty := tyX11 1) (hm_Sr hS48 (hm_Si hS47 (hm_Sr hS46 (hm_A hS45 (hm_Sr hS44 f_22))))) (hk_Sr hS48 (hk_Si hS47 f_23)) (by decide) rfl (by decide) rfl (by decide) rfl cWs_wsX110 tyX11_ok nmX11 cl_X11_19 rfl rfl rfl rfl rfl dX11_init_23 ?_
  refine cg_nm (fun S49 (hS49 : S49 = cSr S48 353 o1 (some q10)) => ?_)
  refine cg_aload_n C (i := 0) rfl 0 rfl dX11_init_26 ?_
  refine cg_new C (k := 12) (N := 3) (fs := [.int 0, .null, .int 0]) (by decide) rfl cWs_wsJx4a65c0 tyJx4a65c_ok cn_X11_23 ci_Jx4a65c ct_Jx4a65c (fun j_ hj_ => by rcases (show j_ = 0 ∨ j_ = 1 ∨ j_ = 2 by omega) with rfl | rfl | rfl <;> rfl) rfl (by decide) (by decide) dX11_init_27 (fun q19 hf_q19 => ?_)
  refine cg_nm (fun S50 (hS50 : S50 = cNew S49 q19 12) => ?_)
  refine cg_dup C rfl dX11_init_30 ?_
  refine cg_callI C (z6_Jx4a65c_init_da8c8 l hlt S50 dp q19 (hk_No hS50) (hm_No hS50)) cz_X11_25 rfl ⟨by decide, by decide⟩ ⟨by decide, by decide⟩ rfl (Nat.le_of_ble_eq_true rfl) dX11_init_31 (fun u_31 h_31 => ?_)
  obtain ⟨S51, hS51, S52, hS52, hu_31⟩ := h_31
  have hw_31 := hu_31.symm
  subst hw_31
  have f_24 : o1 ∈ cL S49 := (hm_Sr hS49 (hm_Sr hS48 (hm_Si hS47 (hm_Sr hS46 (hm_A hS45 (hm_Sr hS44 f_22))))))
  have f_25 : cK S50 o1 = 11 := (hk_N hS50 (cm_ne f_24 hf_q19) (hk_Sr hS49 (hk_Sr hS48 (hk_Si hS47 f_23))))
  refine cg_putrF C (k := 11) (j := 2) (x := (some q19)) (ty := tyX11) (fty := tyX11 2) (hm_Sr hS52 (hm_Si hS51 (hm_N hS50 f_24))) (hk_Sr hS52 (hk_Si hS51 f_25)) (by decide) rfl (by decide) rfl (by decide) rfl cWs_wsX110 tyX11_ok nmX11 cl_X11_26 rfl rfl hin rfl rfl rfl rfl dX11_init_34 ?_
  refine cg_nm (fun S53 (hS53 : S53 = cSr S52 354 o1 (some q19)) => ?_)
  refine cg_aload_n C (i := 0) rfl 0 rfl dX11_init_37 ?_
  refine cg_new C (k := 10) (N := 2) (fs := [.int 0, .null]) (by decide) rfl cWs_wsX100 tyX10_ok cn_X11_30 ci_X10 ct_X10 (fun j_ hj_ => by rcases (show j_ = 0 ∨ j_ = 1 by omega) with rfl | rfl <;> rfl) rfl (by decide) (by decide) dX11_init_38 (fun q20 hf_q20 => ?_)
  refine cg_nm (fun S54 (hS54 : S54 = cNew S53 q20 10) => ?_)
  refine cg_dup C rfl dX11_init_41 ?_
  refine cg_iconst C (x := (-1)) rfl dX11_init_42 ?_
  refine cg_callI C (z7_X10_init l hlt S54 dp q20 (hk_No hS54) (hm_No hS54)) cz_X11_32 rfl ⟨by decide, by decide⟩ ⟨by decide, by decide⟩ rfl (Nat.le_of_ble_eq_true rfl) dX11_init_43 (fun u_43 h_43 => ?_)
  obtain ⟨q21, S55, hf_q21, hS55, S56, hS56, S57, hS57, S58, hS58, S59, hS59, hu_43⟩ := h_43
  have hw_43 := hu_43.symm
  subst hw_43
  have f_26 : cK S54 o1 = 11 := (hk_N hS54 (cm_ne (hm_Sr hS53 (hm_Sr hS52 (hm_Si hS51 (hm_N hS50 f_24)))) hf_q20) (hk_Sr hS53 (hk_Sr hS52 (hk_Si hS51 f_25))))
  have f_27 : cK S55 o1 = 11 := (hk_N hS55 (cm_ne (hm_N hS54 (hm_Sr hS53 (hm_Sr hS52 (hm_Si hS51 (hm_N hS50 f_24))))) hf_q21) f_26)
  have f_28 : o1 ∈ cL S55 := (hm_N hS55 (hm_N hS54 (hm_Sr hS53 (hm_Sr hS52 (hm_Si hS51 (hm_N hS50 f_24))))))
  refine cg_putr C (k := 11) (j := 3) (x := (some q20)) (ty := tyX11) (fty := tyX11 3) (hm_Si hS59 (hm_Sr hS58 (hm_Sr hS57 (hm_Si hS56 f_28)))) (hk_Si hS59 (hk_Sr hS58 (hk_Sr hS57 (hk_Si hS56 f_27)))) (by decide) rfl (by decide) rfl (by decide) rfl cWs_wsX110 tyX11_ok nmX11 cl_X11_35 rfl rfl rfl rfl rfl dX11_init_46 ?_
  refine cg_nm (fun S60 (hS60 : S60 = cSr S59 355 o1 (some q20)) => ?_)
  refine cg_aload_n C (i := 0) rfl 0 rfl dX11_init_49 ?_
  refine cg_null C dX11_init_50 ?_
  refine cg_putr C (k := 11) (j := 4) (x := none) (ty := tyX11) (fty := tyX11 4) (hm_Sr hS60 (hm_Si hS59 (hm_Sr hS58 (hm_Sr hS57 (hm_Si hS56 f_28))))) (hk_Sr hS60 (hk_Si hS59 (hk_Sr hS58 (hk_Sr hS57 (hk_Si hS56 f_27))))) (by decide) rfl (by decide) rfl (by decide) rfl cWs_wsX110 tyX11_ok nmX11 cl_X11_39 rfl rfl rfl rfl rfl dX11_init_51 ?_
  refine cg_nm (fun S61 (hS61 : S61 = cSr S60 356 o1 none) => ?_)
  refine cg_aload_n C (i := 0) rfl 0 rfl dX11_init_54 ?_
  refine cg_iconst C (x := nI 0) rfl dX11_init_55 ?_
  have f_29 : cK S61 o1 = 11 := (hk_Sr hS61 (hk_Sr hS60 (hk_Si hS59 (hk_Sr hS58 (hk_Sr hS57 (hk_Si hS56 f_27))))))
  have f_30 : o1 ∈ cL S61 := (hm_Sr hS61 (hm_Sr hS60 (hm_Si hS59 (hm_Sr hS58 (hm_Sr hS57 (hm_Si hS56 f_28))))))
  refine cg_puti C (k := 11) (j := 5) (ty := tyX11) (fty := .int) f_30 f_29 (by decide) rfl (by decide) rfl (by decide) rfl cWs_wsX110 tyX11_ok nmX11 cl_X11_42 rfl rfl rfl rfl rfl dX11_init_56 ?_
  refine cg_nm (fun S62 (hS62 : S62 = cSi S61 357 o1 (nI 0)) => ?_)
  refine cg_aload_n C (i := 0) rfl 0 rfl dX11_init_59 ?_
  refine cg_null C dX11_init_60 ?_
  refine cg_putr C (k := 11) (j := 6) (x := none) (ty := tyX11) (fty := tyX11 6) (hm_Si hS62 f_30) (hk_Si hS62 f_29) (by decide) rfl (by decide) rfl (by decide) rfl cWs_wsX110 tyX11_ok nmX11 cl_X11_46 rfl rfl rfl rfl rfl dX11_init_61 ?_
  refine cg_nm (fun S63 (hS63 : S63 = cSr S62 358 o1 none) => ?_)
  refine cg_aload_n C (i := 0) rfl 0 rfl dX11_init_64 ?_
  refine cg_null C dX11_init_65 ?_
  refine cg_putr C (k := 11) (j := 7) (x := none) (ty := tyX11) (fty := tyX11 7) (hm_Sr hS63 (hm_Si hS62 f_30)) (hk_Sr hS63 (hk_Si hS62 f_29)) (by decide) rfl (by decide) rfl (by decide) rfl cWs_wsX110 tyX11_ok nmX11 cl_X11_49 rfl rfl rfl rfl rfl dX11_init_66 ?_
  refine cg_nm (fun S64 (hS64 : S64 = cSr S63 359 o1 none) => ?_)
  refine cg_aload_n C (i := 0) rfl 0 rfl dX11_init_69 ?_
  refine cg_new C (k := 12) (N := 3) (fs := [.int 0, .null, .int 0]) (by decide) rfl cWs_wsJx4a65c0 tyJx4a65c_ok cn_X11_23 ci_Jx4a65c ct_Jx4a65c (fun j_ hj_ => by rcases (show j_ = 0 ∨ j_ = 1 ∨ j_ = 2 by omega) with rfl | rfl | rfl <;> rfl) rfl (by decide) (by decide) dX11_init_70 (fun q22 hf_q22 => ?_)
  refine cg_nm (fun S65 (hS65 : S65 = cNew S64 q22 12) => ?_)
  refine cg_dup C rfl dX11_init_73 ?_
  refine cg_callI C (z6_Jx4a65c_init_da8c8 l hlt S65 dp q22 (hk_No hS65) (hm_No hS65)) cz_X11_25 rfl ⟨by decide, by decide⟩ ⟨by decide, by decide⟩ rfl (Nat.le_of_ble_eq_true rfl) dX11_init_74 (fun u_74 h_74 => ?_)
  obtain ⟨S66, hS66, S67, hS67, hu_74⟩ := h_74
  have hw_74 := hu_74.symm
  subst hw_74
  have f_31 : cK S65 o1 = 11 := (hk_N hS65 (cm_ne (hm_Sr hS64 (hm_Sr hS63 (hm_Si hS62 f_30))) hf_q22) (hk_Sr hS64 (hk_Sr hS63 (hk_Si hS62 f_29))))
  have f_32 : o1 ∈ cL S67 := (hm_Sr hS67 (hm_Si hS66 (hm_N hS65 (hm_Sr hS64 (hm_Sr hS63 (hm_Si hS62 f_30))))))
  refine cg_putrF C (k := 11) (j := 8) (x := (some q22)) (ty := tyX11) (fty := tyX11 8) f_32 (hk_Sr hS67 (hk_Si hS66 f_31)) (by decide) rfl (by decide) rfl (by decide) rfl cWs_wsX110 tyX11_ok nmX11 cl_X11_52 rfl rfl hin rfl rfl rfl rfl dX11_init_77 ?_
  refine cg_nm (fun S68 (hS68 : S68 = cSr S67 360 o1 (some q22)) => ?_)
  refine cg_aload_n C (i := 0) rfl 0 rfl dX11_init_80 ?_
  refine cg_iconst C (x := nI 0) rfl dX11_init_81 ?_
  refine cg_puti C (k := 11) (j := 9) (ty := tyX11) (fty := .int) (hm_Sr hS68 f_32) (hk_Sr hS68 (hk_Sr hS67 (hk_Si hS66 f_31))) (by decide) rfl (by decide) rfl (by decide) rfl cWs_wsX110 tyX11_ok nmX11 cl_X11_55 rfl rfl rfl rfl rfl dX11_init_82 ?_
  refine cg_nm (fun S69 (hS69 : S69 = cSi S68 361 o1 (nI 0)) => ?_)
  refine cg_aload_n C (i := 0) rfl 0 rfl dX11_init_85 ?_
  refine cg_new C (k := 6) (N := 5) (fs := [.null, .null, .null, .int 0, .null]) (by decide) rfl cWs_wsX60 tyX6_ok cn_X11_58 ci_X6 ct_X6 (fun j_ hj_ => by rcases (show j_ = 0 ∨ j_ = 1 ∨ j_ = 2 ∨ j_ = 3 ∨ j_ = 4 by omega) with rfl | rfl | rfl | rfl | rfl <;> rfl) rfl (by decide) (by decide) dX11_init_86 (fun q23 hf_q23 => ?_)
  refine cg_nm (fun S70 (hS70 : S70 = cNew S69 q23 6) => ?_)
  refine cg_dup C rfl dX11_init_89 ?_
  refine cg_callIN C (z8_X6_init l hlt S70 dp q23 (hk_No hS70) (hm_No hS70)) czn_X11_60 rfl ⟨by decide, by decide⟩ ⟨by decide, by decide⟩ rfl (Nat.le_of_ble_eq_true rfl) dX11_init_90 (fun u_90 h_90 => ?_)
  obtain ⟨q24, S71, hf_q24, hS71, S72, hS72, S73, hS73, S74, hS74, q25, S75, hf_q25, hS75, S76, hS76, S77, hS77, S78, hS78, q26, S79, hf_q26, hS79, S80, hS80, S81, hS81, q27, S82, hf_q27, hS82, S83, hS83, hu_90⟩ := h_90
  have hw_90 := hu_90.symm
  subst hw_90
  have f_33 : cK S70 o1 = 11 := (hk_N hS70 (cm_ne (hm_Si hS69 (hm_Sr hS68 f_32)) hf_q23) (hk_Si hS69 (hk_Sr hS68 (hk_Sr hS67 (hk_Si hS66 f_31)))))
  have f_34 : cK S71 o1 = 11 := (hk_N hS71 (cm_ne (hm_N hS70 (hm_Si hS69 (hm_Sr hS68 f_32))) hf_q24) f_33)
  have f_35 : o1 ∈ cL S73 := (hm_Sr hS73 (hm_Si hS72 (hm_N hS71 (hm_N hS70 (hm_Si hS69 (hm_Sr hS68 f_32))))))
  have f_36 : cK S75 o1 = 11 := (hk_N hS75 (cm_ne (hm_Sr hS74 f_35) hf_q25) (hk_Sr hS74 (hk_Sr hS73 (hk_Si hS72 f_34))))
  have f_37 : cK S79 o1 = 11 := (hk_A hS79 (cm_ne (hm_Sr hS78 (hm_Sr hS77 (hm_Si hS76 (hm_N hS75 (hm_Sr hS74 f_35))))) hf_q26) (hk_Sr hS78 (hk_Sr hS77 (hk_Si hS76 f_36))))
  have f_38 : o1 ∈ cL S79 := (hm_A hS79 (hm_Sr hS78 (hm_Sr hS77 (hm_Si hS76 (hm_N hS75 (hm_Sr hS74 f_35))))))
  have f_39 : cK S82 o1 = 11 := (hk_A hS82 (cm_ne (hm_Si hS81 (hm_Sr hS80 f_38)) hf_q27) (hk_Si hS81 (hk_Sr hS80 f_37)))
  refine cg_putr C (k := 11) (j := 10) (x := (some q23)) (ty := tyX11) (fty := tyX11 10) (hm_Sr hS83 (hm_A hS82 (hm_Si hS81 (hm_Sr hS80 f_38)))) (hk_Sr hS83 f_39) (by decide) rfl (by decide) rfl (by decide) rfl cWs_wsX110 tyX11_ok nmX11 cl_X11_61 rfl rfl rfl rfl rfl dX11_init_93 ?_
  refine cg_nm (fun S84 (hS84 : S84 = cSr S83 362 o1 (some q23)) => ?_)
  refine cg_aload_n C (i := 0) rfl 0 rfl dX11_init_96 ?_
  refine cg_new C (k := 12) (N := 3) (fs := [.int 0, .null, .int 0]) (by decide) rfl cWs_wsJx4a65c0 tyJx4a65c_ok cn_X11_23 ci_Jx4a65c ct_Jx4a65c (fun j_ hj_ => by rcases (show j_ = 0 ∨ j_ = 1 ∨ j_ = 2 by omega) with rfl | rfl | rfl <;> rfl) rfl (by decide) (by decide) dX11_init_97 (fun q28 hf_q28 => ?_)
  refine cg_nm (fun S85 (hS85 : S85 = cNew S84 q28 12) => ?_)
  refine cg_dup C rfl dX11_init_100 ?_
  refine cg_callI C (z6_Jx4a65c_init_da8c8 l hlt S85 dp q28 (hk_No hS85) (hm_No hS85)) cz_X11_25 rfl ⟨by decide, by decide⟩ ⟨by decide, by decide⟩ rfl (Nat.le_of_ble_eq_true rfl) dX11_init_101 (fun u_101 h_101 => ?_)
  obtain ⟨S86, hS86, S87, hS87, hu_101⟩ := h_101
  have hw_101 := hu_101.symm
  subst hw_101
  have f_40 : cK S85 o1 = 11 := (hk_N hS85 (cm_ne (hm_Sr hS84 (hm_Sr hS83 (hm_A hS82 (hm_Si hS81 (hm_Sr hS80 f_38))))) hf_q28) (hk_Sr hS84 (hk_Sr hS83 f_39)))
  have f_41 : o1 ∈ cL S85 := (hm_N hS85 (hm_Sr hS84 (hm_Sr hS83 (hm_A hS82 (hm_Si hS81 (hm_Sr hS80 f_38))))))
  refine cg_putrF C (k := 11) (j := 11) (x := (some q28)) (ty := tyX11) (fty := tyX11 11) (hm_Sr hS87 (hm_Si hS86 f_41)) (hk_Sr hS87 (hk_Si hS86 f_40)) (by decide) rfl (by decide) rfl (by decide) rfl cWs_wsX110 tyX11_ok nmX11 cl_X11_65 rfl rfl hin rfl rfl rfl rfl dX11_init_104 ?_
  refine cg_nm (fun S88 (hS88 : S88 = cSr S87 363 o1 (some q28)) => ?_)
  refine cg_aload_n C (i := 0) rfl 0 rfl dX11_init_107 ?_
  refine cg_new C (k := 7) (N := 7) (fs := [.null, .null, .null, .null, .null, .null, .null]) (by decide) rfl cWs_wsX70 tyX7_ok cn_X11_68 ci_X7 ct_X7 (fun j_ hj_ => by rcases (show j_ = 0 ∨ j_ = 1 ∨ j_ = 2 ∨ j_ = 3 ∨ j_ = 4 ∨ j_ = 5 ∨ j_ = 6 by omega) with rfl | rfl | rfl | rfl | rfl | rfl | rfl <;> rfl) rfl (by decide) (by decide) dX11_init_108 (fun q29 hf_q29 => ?_)
  refine cg_nm (fun S89 (hS89 : S89 = cNew S88 q29 7) => ?_)
  refine cg_dup C rfl dX11_init_111 ?_
  refine cg_callIN C (z9_X7_init l hlt S89 dp q29 (hk_No hS89) (hm_No hS89)) czn_X11_70 rfl ⟨by decide, by decide⟩ ⟨by decide, by decide⟩ rfl (Nat.le_of_ble_eq_true rfl) dX11_init_112 (fun u_112 h_112 => ?_)
  obtain ⟨q30, S90, hf_q30, hS90, S91, hS91, S92, hS92, S93, hS93, q31, ro_q31, S94, hf_q31, hr_q31, hS94, S95, hS95, q32, ro_q32, S96, hf_q32, hr_q32, hS96, S97, hS97, q33, ro_q33, S98, hf_q33, hr_q33, hS98, S99, hS99, q34, S100, hf_q34, hS100, S101, hS101, q35, S102, hf_q35, hS102, S103, hS103, q36, S104, hf_q36, hS104, S105, hS105, hu_112⟩ := h_112
  have hw_112 := hu_112.symm
  subst hw_112
  have f_42 : cK S89 o1 = 11 := (hk_N hS89 (cm_ne (hm_Sr hS88 (hm_Sr hS87 (hm_Si hS86 f_41))) hf_q29) (hk_Sr hS88 (hk_Sr hS87 (hk_Si hS86 f_40))))
  have f_43 : cK S90 o1 = 11 := (hk_A hS90 (cm_ne (hm_N hS89 (hm_Sr hS88 (hm_Sr hS87 (hm_Si hS86 f_41)))) hf_q30) f_42)
  have f_44 : o1 ∈ cL S91 := (hm_SI hS91 (hm_A hS90 (hm_N hS89 (hm_Sr hS88 (hm_Sr hS87 (hm_Si hS86 f_41))))))
  have f_45 : cK S94 o1 = 11 := (hk_M hS94 hf_q31 hr_q31 (hm_Sr hS93 (hm_SI hS92 f_44)) (hk_Sr hS93 (hk_SI hS92 (hk_SI hS91 f_43))))
  have f_46 : cK S96 o1 = 11 := (hk_M hS96 hf_q32 hr_q32 (hm_Sr hS95 (hm_M hS94 (hm_Sr hS93 (hm_SI hS92 f_44)))) (hk_Sr hS95 f_45))
  have f_47 : o1 ∈ cL S97 := (hm_Sr hS97 (hm_M hS96 (hm_Sr hS95 (hm_M hS94 (hm_Sr hS93 (hm_SI hS92 f_44))))))
  have f_48 : cK S100 o1 = 11 := (hk_A hS100 (cm_ne (hm_Sr hS99 (hm_M hS98 f_47)) hf_q34) (hk_Sr hS99 (hk_M hS98 hf_q33 hr_q33 f_47 (hk_Sr hS97 f_46))))
  have f_49 : cK S102 o1 = 11 := (hk_A hS102 (cm_ne (hm_Sr hS101 (hm_A hS100 (hm_Sr hS99 (hm_M hS98 f_47)))) hf_q35) (hk_Sr hS101 f_48))
  have f_50 : o1 ∈ cL S103 := (hm_Sr hS103 (hm_A hS102 (hm_Sr hS101 (hm_A hS100 (hm_Sr hS99 (hm_M hS98 f_47))))))
  refine cg_putrF C (k := 11) (j := 12) (x := (some q29)) (ty := tyX11) (fty := tyX11 12) (hm_Sr hS105 (hm_A hS104 f_50)) (hk_Sr hS105 (hk_A hS104 (cm_ne f_50 hf_q36) (hk_Sr hS103 f_49))) (by decide) rfl (by decide) rfl (by decide) rfl cWs_wsX110 tyX11_ok nmX11 cl_X11_71 rfl rfl hin rfl rfl rfl rfl dX11_init_115 ?_
  refine cg_nm (fun S106 (hS106 : S106 = cSr S105 364 o1 (some q29)) => ?_)
  refine cg_aload_n C (i := 0) rfl 0 rfl dX11_init_118 ?_
  refine cg_new C (k := 1) (N := 14) (fs := [.null, .int 0, .null, .null, .int 0, .int 0, .int 0, .int 0, .null, .null, .null, .null, .null, .null]) (by decide) rfl cWs_wsX10 tyX1_ok cn_X11_75 ci_X1 ct_X1 (fun j_ hj_ => by rcases (show j_ = 0 ∨ j_ = 1 ∨ j_ = 2 ∨ j_ = 3 ∨ j_ = 4 ∨ j_ = 5 ∨ j_ = 6 ∨ j_ = 7 ∨ j_ = 8 ∨ j_ = 9 ∨ j_ = 10 ∨ j_ = 11 ∨ j_ = 12 ∨ j_ = 13 by omega) with rfl | rfl | rfl | rfl | rfl | rfl | rfl | rfl | rfl | rfl | rfl | rfl | rfl | rfl <;> rfl) rfl (by decide) (by decide) dX11_init_119 (fun q37 hf_q37 => ?_)
  refine cg_nm (fun S107 (hS107 : S107 = cNew S106 q37 1) => ?_)
  refine cg_dup C rfl dX11_init_122 ?_
  refine cg_aload_n C (i := 0) rfl 0 rfl dX11_init_123 ?_
  have f_51 : cr S107 364 o1 = (some q29) := (hr_N hS107 (cm_ne (hm_Sr hS106 (hm_Sr hS105 (hm_A hS104 f_50))) hf_q37) (hr_Sr_s hS106))
  have f_52 : cK S106 o1 = 11 := (hk_Sr hS106 (hk_Sr hS105 (hk_A hS104 (cm_ne f_50 hf_q36) (hk_Sr hS103 f_49))))
  have f_53 : cK S107 o1 = 11 := (hk_N hS107 (cm_ne (hm_Sr hS106 (hm_Sr hS105 (hm_A hS104 f_50))) hf_q37) f_52)
  refine cg_get C (k := 11) (j := 12) (.ref q29) (hm_N hS107 (hm_Sr hS106 (hm_Sr hS105 (hm_A hS104 f_50)))) f_53 (by decide) rfl (by decide) rfl (show cV _ 11 12 o1 = _ from congrArg va_rf f_51) cWs_wsX110 cl_X11_71 rfl dX11_init_124 ?_
  refine cg_callI C (z10_X1_init l hlt S107 dp q37 q29 (hk_No hS107) (hm_No hS107)) cz_X11_77 rfl ⟨by decide, by decide⟩ ⟨by decide, by decide⟩ rfl (Nat.le_of_ble_eq_true rfl) dX11_init_127 (fun u_127 h_127 => ?_)
  obtain ⟨S108, hS108, q38, S109, hf_q38, hS109, S110, hS110, q39, S111, hf_q39, hS111, S112, hS112, S113, hS113, S114, hS114, S115, hS115, S116, hS116, q40, S117, hf_q40, hS117, S118, hS118, q41, S119, hf_q41, hS119, S120, hS120, q42, S121, hf_q42, hS121, S122, hS122, q43, ro_q43, S123, hf_q43, hr_q43, hS123, S124, hS124, q44, S125, hf_q44, hS125, S126, hS126, q45, S127, hf_q45, hS127, S128, hS128, S129, hS129, hu_127⟩ := h_127
  have hw_127 := hu_127.symm
  subst hw_127
  have f_54 : o1 ∈ cL S108 := (hm_Si hS108 (hm_N hS107 (hm_Sr hS106 (hm_Sr hS105 (hm_A hS104 f_50)))))
  have f_55 : cK S111 o1 = 11 := (hk_A hS111 (cm_ne (hm_Sr hS110 (hm_A hS109 f_54)) hf_q39) (hk_Sr hS110 (hk_A hS109 (cm_ne f_54 hf_q38) (hk_Si hS108 f_53))))
  have f_56 : cK S116 o1 = 11 := (hk_Si hS116 (hk_Si hS115 (hk_Si hS114 (hk_Si hS113 (hk_Sr hS112 f_55)))))
  have f_57 : o1 ∈ cL S113 := (hm_Si hS113 (hm_Sr hS112 (hm_A hS111 (hm_Sr hS110 (hm_A hS109 f_54)))))
  have f_58 : cK S117 o1 = 11 := (hk_A hS117 (cm_ne (hm_Si hS116 (hm_Si hS115 (hm_Si hS114 f_57))) hf_q40) f_56)
  have f_59 : o1 ∈ cL S118 := (hm_Sr hS118 (hm_A hS117 (hm_Si hS116 (hm_Si hS115 (hm_Si hS114 f_57)))))
  have f_60 : cK S121 o1 = 11 := (hk_A hS121 (cm_ne (hm_Sr hS120 (hm_A hS119 f_59)) hf_q42) (hk_Sr hS120 (hk_A hS119 (cm_ne f_59 hf_q41) (hk_Sr hS118 f_58))))
  have f_61 : cK S123 o1 = 11 := (hk_M hS123 hf_q43 hr_q43 (hm_Sr hS122 (hm_A hS121 (hm_Sr hS120 (hm_A hS119 f_59)))) (hk_Sr hS122 f_60))
  have f_62 : o1 ∈ cL S123 := (hm_M hS123 (hm_Sr hS122 (hm_A hS121 (hm_Sr hS120 (hm_A hS119 f_59)))))
  have f_63 : cK S126 o1 = 11 := (hk_Sr hS126 (hk_A hS125 (cm_ne (hm_Sr hS124 f_62) hf_q44) (hk_Sr hS124 f_61)))
  have f_64 : cK S127 o1 = 11 := (hk_A hS127 (cm_ne (hm_Sr hS126 (hm_A hS125 (hm_Sr hS124 f_62))) hf_q45) f_63)
  have f_65 : o1 ∈ cL S128 := (hm_Sr hS128 (hm_A hS127 (hm_Sr hS126 (hm_A hS125 (hm_Sr hS124 f_62)))))
  refine cg_putrF C (k := 11) (j := 13) (x := (some q37)) (ty := tyX11) (fty := tyX11 13) (hm_Sr hS129 f_65) (hk_Sr hS129 (hk_Sr hS128 f_64)) (by decide) rfl (by decide) rfl (by decide) rfl cWs_wsX110 tyX11_ok nmX11 cl_X11_80 rfl rfl hin rfl rfl rfl rfl dX11_init_130 ?_
  refine cg_nm (fun S130 (hS130 : S130 = cSr S129 365 o1 (some q37)) => ?_)
  refine cg_aload_n C (i := 0) rfl 0 rfl dX11_init_133 ?_
  refine cg_iconst C (x := nI 0) rfl dX11_init_134 ?_
  refine cg_puti C (k := 11) (j := 14) (ty := tyX11) (fty := .int) (hm_Sr hS130 (hm_Sr hS129 f_65)) (hk_Sr hS130 (hk_Sr hS129 (hk_Sr hS128 f_64))) (by decide) rfl (by decide) rfl (by decide) rfl cWs_wsX110 tyX11_ok nmX11 cl_X11_84 rfl rfl rfl rfl rfl dX11_init_135 ?_
  refine cg_nm (fun S131 (hS131 : S131 = cSi S130 366 o1 (nI 0)) => ?_)
  refine cg_aload_n C (i := 0) rfl 0 rfl dX11_init_138 ?_
  refine cg_iconst C (x := nI 0) rfl dX11_init_139 ?_
  refine cg_puti C (k := 11) (j := 15) (ty := tyX11) (fty := .int) (hm_Si hS131 (hm_Sr hS130 (hm_Sr hS129 f_65))) (hk_Si hS131 (hk_Sr hS130 (hk_Sr hS129 (hk_Sr hS128 f_64)))) (by decide) rfl (by decide) rfl (by decide) rfl cWs_wsX110 tyX11_ok nmX11 cl_X11_87 rfl rfl rfl rfl rfl dX11_init_140 ?_
  refine cg_nm (fun S132 (hS132 : S132 = cSi S131 367 o1 (nI 0)) => ?_)
  refine cg_aload_n C (i := 0) rfl 0 rfl dX11_init_143 ?_
  refine cg_iconst C (x := nI 0) rfl dX11_init_144 ?_
  have f_66 : cK S132 o1 = 11 := (hk_Si hS132 (hk_Si hS131 (hk_Sr hS130 (hk_Sr hS129 (hk_Sr hS128 f_64)))))
  refine cg_puti C (k := 11) (j := 16) (ty := tyX11) (fty := .int) (hm_Si hS132 (hm_Si hS131 (hm_Sr hS130 (hm_Sr hS129 f_65)))) f_66 (by decide) rfl (by decide) rfl (by decide) rfl cWs_wsX110 tyX11_ok nmX11 cl_X11_90 rfl rfl rfl rfl rfl dX11_init_145 ?_
  refine cg_nm (fun S133 (hS133 : S133 = cSi S132 368 o1 (nI 0)) => ?_)
  refine cg_aload_n C (i := 0) rfl 0 rfl dX11_init_148 ?_
  refine cg_iconst C (x := (-1)) rfl dX11_init_149 ?_
  have f_67 : o1 ∈ cL S133 := (hm_Si hS133 (hm_Si hS132 (hm_Si hS131 (hm_Sr hS130 (hm_Sr hS129 f_65)))))
  refine cg_puti C (k := 11) (j := 17) (ty := tyX11) (fty := .int) f_67 (hk_Si hS133 f_66) (by decide) rfl (by decide) rfl (by decide) rfl cWs_wsX110 tyX11_ok nmX11 cl_X11_93 rfl rfl rfl rfl rfl dX11_init_150 ?_
  refine cg_nm (fun S134 (hS134 : S134 = cSi S133 369 o1 ((-1))) => ?_)
  refine cg_aload_n C (i := 0) rfl 0 rfl dX11_init_153 ?_
  refine cg_iconst C (x := nI 0) rfl dX11_init_154 ?_
  refine cg_cast (.int (bI false)) rfl ?_
  refine cg_puti C (k := 11) (j := 18) (ty := tyX11) (fty := .boolean) (hm_Si hS134 f_67) (hk_Si hS134 (hk_Si hS133 f_66)) (by decide) rfl (by decide) rfl (by decide) rfl cWs_wsX110 tyX11_ok nmX11 cl_X11_96 rfl rfl rfl (bI_nar _) (bI_fit _) dX11_init_155 ?_
  refine cg_nm (fun S135 (hS135 : S135 = cSi S134 370 o1 (bI false)) => ?_)
  exact cg_vret C ⟨q1, S1, hf_q1, hS1, q2, S2, hf_q2, hS2, q3, S3, hf_q3, hS3, S4, hS4, S5, hS5, q4, S6, hf_q4, hS6, S7, hS7, q5, S8, hf_q5, hS8, S9, hS9, S10, hS10, S11, hS11, q6, S12, hf_q6, hS12, S13, hS13, S14, hS14, q7, S15, hf_q7, hS15, S16, hS16, S17, hS17, q8, S18, hf_q8, hS18, S19, hS19, q9, S20, hf_q9, hS20, S21, hS21, S22, hS22, S23, hS23, S24, hS24, q10, S25, hf_q10, hS25, S26, hS26, S27, hS27, S28, hS28, q11, S29, hf_q11, hS29, q12, S30, hf_q12, hS30, S31, hS31, S32, hS32, q13, S33, hf_q13, hS33, S34, hS34, q14, S35, hf_q14, hS35, S36, hS36, S37, hS37, S38, hS38, q15, S39, hf_q15, hS39, q16, S40, hf_q16, hS40, S41, hS41, S42, hS42, q17, S43, hf_q17, hS43, S44, hS44, q18, S45, hf_q18, hS45, S46, hS46, S47, hS47, S48, hS48, S49, hS49, q19, S50, hf_q19, hS50, S51, hS51, S52, hS52, S53, hS53, q20, S54, hf_q20, hS54, q21, S55, hf_q21, hS55, S56, hS56, S57, hS57, S58, hS58, S59, hS59, S60, hS60, S61, hS61, S62, hS62, S63, hS63, S64, hS64, q22, S65, hf_q22, hS65, S66, hS66, S67, hS67, S68, hS68, S69, hS69, q23, S70, hf_q23, hS70, q24, S71, hf_q24, hS71, S72, hS72, S73, hS73, S74, hS74, q25, S75, hf_q25, hS75, S76, hS76, S77, hS77, S78, hS78, q26, S79, hf_q26, hS79, S80, hS80, S81, hS81, q27, S82, hf_q27, hS82, S83, hS83, S84, hS84, q28, S85, hf_q28, hS85, S86, hS86, S87, hS87, S88, hS88, q29, S89, hf_q29, hS89, q30, S90, hf_q30, hS90, S91, hS91, S92, hS92, S93, hS93, q31, ro_q31, S94, hf_q31, hr_q31, hS94, S95, hS95, q32, ro_q32, S96, hf_q32, hr_q32, hS96, S97, hS97, q33, ro_q33, S98, hf_q33, hr_q33, hS98, S99, hS99, q34, S100, hf_q34, hS100, S101, hS101, q35, S102, hf_q35, hS102, S103, hS103, q36, S104, hf_q36, hS104, S105, hS105, S106, hS106, q37, S107, hf_q37, hS107, S108, hS108, q38, S109, hf_q38, hS109, S110, hS110, q39, S111, hf_q39, hS111, S112, hS112, S113, hS113, S114, hS114, S115, hS115, S116, hS116, q40, S117, hf_q40, hS117, S118, hS118, q41, S119, hf_q41, hS119, S120, hS120, q42, S121, hf_q42, hS121, S122, hS122, q43, ro_q43, S123, hf_q43, hr_q43, hS123, S124, hS124, q44, S125, hf_q44, hS125, S126, hS126, q45, S127, hf_q45, hS127, S128, hS128, S129, hS129, S130, hS130, S131, hS131, S132, hS132, S133, hS133, S134, hS134, S135, hS135, rfl⟩ dX11_init_158 (by decide) (by decide)
