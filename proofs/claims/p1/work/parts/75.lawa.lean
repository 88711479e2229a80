/-! the law's cases on a fresh machine -/
section LCS
variable {p : Program} {l : Launch} {e : Env} {s : State} {m : MethodId} {below : List Frame} {meth : Method} {c : Code} {b : Nat} {xs : Nat → Int32} {D : va_G} {Y : cY} {tp dp : Nat}
set_option maxHeartbeats 8000000 in
set_option maxRecDepth 100000 in
theorem law_case0 (C : lC p l s m meth c b 6 xs D Y tp dp) {S : cS} {a : Nat → Nat} {v : Nat → Int32} {f : Nat → Nat → Int32} {g : Nat → Nat → Int64} {x out q1 q2 q3 q10 q11 q15 q19 q20 q21 q22 q23 q29 q30 q37 : Nat} (F : cFr S dp x out q1 q2 q3 q10 q11 q15 q19 q20 q21 q22 q23 q29 q30 q37) (M : mFr v f g) : lG p l e s m below meth c b D Y 174 409927 284 [(4, .int (nI 0)), (3, .ref out), (2, .ref (a 0)), (1, .ref x), (0, .ref b)] [] S a v f g := by
  have hlt := C.2.2.2.2.2.2.2.2.2.2.1
  obtain ⟨FeI_q30_0, FeI_q30_1, Fi_195_q23, Fi_289_q11, Fi_289_q15, Fi_289_q2, Fi_33_q37, Fi_361_x, Fi_366_x, Fi_368_x, Fi_369_x, Fi_36_q37, Fi_370_x, Fi_37_q37, Fi_384_q19, Fi_384_q22, Fi_386_q19, Fi_386_q21, Fi_386_q22, Fk_out, Fk_q1, Fk_q10, Fk_q11, Fk_q15, Fk_q19, Fk_q2, Fk_q20, Fk_q21, Fk_q22, Fk_q23, Fk_q29, Fk_q3, Fk_q30, Fk_q37, Fk_x, Fm_out, Fm_q1, Fm_q10, Fm_q11, Fm_q15, Fm_q19, Fm_q2, Fm_q20, Fm_q21, Fm_q22, Fm_q23, Fm_q29, Fm_q3, Fm_q30, Fm_q37, Fm_x, Fn_out, Fn_q3, Fn_q30, Fr_224_q29, Fr_288_q2, Fr_321_q20, Fr_352_x, Fr_353_x, Fr_354_x, Fr_355_x, Fr_356_x, Fr_358_x, Fr_359_x, Fr_360_x, Fr_362_x, Fr_364_x, Fr_365_x, Fr_385_q19, Fr_385_q22, Fr_3_q10, Fr_4_q10, Fr_96_q1⟩ := F
  obtain ⟨Mall_21, Mall_22, Mf_29_0, Mf_29_1, Mf_29_2, Mf_29_3, Mf_29_4, Mf_49_0, Mf_49_1, Mf_8_0, Mf_8_1, Mg_7_0, Mg_7_1, Mg_7_10, Mg_7_11, Mg_7_12, Mg_7_13, Mg_7_14, Mg_7_15, Mg_7_16, Mg_7_17, Mg_7_18, Mg_7_19, Mg_7_2, Mg_7_20, Mg_7_21, Mg_7_22, Mg_7_23, Mg_7_24, Mg_7_25, Mg_7_26, Mg_7_27, Mg_7_28, Mg_7_29, Mg_7_3, Mg_7_30, Mg_7_31, Mg_7_32, Mg_7_33, Mg_7_34, Mg_7_35, Mg_7_36, Mg_7_37, Mg_7_38, Mg_7_39, Mg_7_4, Mg_7_5, Mg_7_6, Mg_7_7, Mg_7_8, Mg_7_9, Mv_13, Mv_14, Mv_2, Mv_20, Mv_29, Mv_34, Mv_35, Mv_40, Mv_48, Mv_49, Mv_72, Mv_88, Mv_89, Mv_90, Mv_96, Mv_97, Mv_98⟩ := M
  obtain ⟨v1, hr_v1, e_v1⟩ := c_chr (xs 1)
  rcases Nat.lt_or_ge v1 32 with hlt_v1 | hlt_v1
  · refine lq_aload_n C (i := 1) rfl 3 rfl dL_law_284 ?_
    refine lq_aload_n C (i := 0) rfl 4 rfl dL_law_285 ?_
    refine lq_iload C 0 rfl dL_law_286 ?_
    refine lq_iconst C (x := nI 1) rfl dL_law_288 ?_
    refine lq_iadd C dL_law_289 ?_
    refine lq_cast (.int (nI 1)) (congrArg Value.int (by decide)) ?_
    refine lq_sld C 1 (by decide) (by decide) dL_law_290 ?_
    refine lq_i2c C dL_law_291 ?_
    refine lq_cast (.int (nI v1)) (congrArg Value.int e_v1) ?_
    refine lq_aload_n C (i := 3) rfl 1 rfl dL_law_292 ?_
    refine lq_callW C (z13_L_type l hlt S dp x out v1 (by omega) Fm_x Fk_x) lH_186 rfl rfl ⟨by decide, by decide⟩ ⟨Nat.le_of_ble_eq_true rfl, Nat.le_of_ble_eq_true rfl⟩ rfl (Nat.le_of_ble_eq_true rfl) dL_law_293 (fun r_293 u_293 h_293 => ?_)
    obtain ⟨hr_293, hu_293⟩ := h_293
    have hw_293 := hu_293.symm
    subst hw_293
    have hx_293 := hr_293.symm
    subst hx_293
    refine lq_istore C (lv' := [(5, .int (nI 1)), (4, .int (nI 0)), (3, .ref out), (2, .ref (a 0)), (1, .ref x), (0, .ref b)]) (by decide) rfl dL_law_296 ?_
    refine lq_aload_n C (i := 2) rfl 3 rfl dL_law_298 ?_
    refine lq_aload_n C (i := 0) rfl 5 rfl dL_law_299 ?_
    refine lq_iload C 1 rfl dL_law_300 ?_
    refine lq_iconst C (x := nI 1) rfl dL_law_302 ?_
    refine lq_iadd C dL_law_303 ?_
    refine lq_cast (.int (nI 1)) (congrArg Value.int (by decide)) ?_
    refine lq_sld C 1 (by decide) (by decide) dL_law_304 ?_
    refine lq_i2c C dL_law_305 ?_
    refine lq_cast (.int (nI v1)) (congrArg Value.int e_v1) ?_
    refine lq_doM C (w3_type l v f g v1 (by omega) Mv_2) lM_191 rfl rfl ⟨by decide, by decide⟩ ⟨Nat.le_of_ble_eq_true rfl, Nat.le_of_ble_eq_true rfl⟩ rfl (Nat.le_of_ble_eq_true rfl) dL_law_306 ?_
    refine lq_istore C (lv' := [(6, .int (nI 0)), (5, .int (nI 1)), (4, .int (nI 0)), (3, .ref out), (2, .ref (a 0)), (1, .ref x), (0, .ref b)]) (by decide) rfl dL_law_309 ?_
    refine lq_aload_n C (i := 2) rfl 4 rfl dL_law_311 ?_
    refine lq_doM C (w4_thrown l (upd v 99 (nI 1)) f g rfl) lM_192 rfl rfl ⟨by decide, by decide⟩ ⟨Nat.le_of_ble_eq_true rfl, Nat.le_of_ble_eq_true rfl⟩ rfl (Nat.le_of_ble_eq_true rfl) dL_law_312 ?_
    refine lq_iload C 1 rfl dL_law_315 ?_
    refine lq_icmp_eq C 322 (by decide) dL_law_317 (fun _ => ?_) (fun c_ => absurd (by decide) c_)
    refine lq_iload C 1 rfl dL_law_322 ?_
    refine lq_if_ne C 339 (by decide) dL_law_324 (fun _ => ?_) (fun c_ => absurd c_ (by decide))
    refine lq_goto C 3491 (by decide) dL_law_339 ?_
    exact lq_sub [2, 6] rfl (law_tail C (Nat.le_of_ble_eq_true rfl) (Nat.le_of_ble_eq_true rfl))
  · rcases Nat.lt_or_ge v1 127 with hlt_v1 | hlt_v1
    · refine lq_aload_n C (i := 1) rfl 3 rfl dL_law_284 ?_
      refine lq_aload_n C (i := 0) rfl 4 rfl dL_law_285 ?_
      refine lq_iload C 0 rfl dL_law_286 ?_
      refine lq_iconst C (x := nI 1) rfl dL_law_288 ?_
      refine lq_iadd C dL_law_289 ?_
      refine lq_cast (.int (nI 1)) (congrArg Value.int (by decide)) ?_
      refine lq_sld C 1 (by decide) (by decide) dL_law_290 ?_
      refine lq_i2c C dL_law_291 ?_
      refine lq_cast (.int (nI v1)) (congrArg Value.int e_v1) ?_
      refine lq_aload_n C (i := 3) rfl 1 rfl dL_law_292 ?_
      refine lq_callW C (z16_L_type l hlt S dp x out q1 q2 q3 v1 (by omega) (by omega) Fr_352_x Fk_x Fm_x Fr_96_q1 Fk_q1 Fm_q1 Fi_289_q2 Fk_q2 Fm_q2 Fr_288_q2 Fk_q3 Fm_q3 Fn_q3 Fk_out Fn_out Fm_out) lH_186 rfl rfl ⟨by decide, by decide⟩ ⟨Nat.le_of_ble_eq_true rfl, Nat.le_of_ble_eq_true rfl⟩ rfl (Nat.le_of_ble_eq_true rfl) dL_law_293 (fun r_293 u_293 h_293 => ?_)
      obtain ⟨S1, hS1, S2, hS2, S3, hS3, hr_293, hu_293⟩ := h_293
      have hw_293 := hu_293.symm
      subst hw_293
      have hx_293 := hr_293.symm
      subst hx_293
      refine lq_istore C (lv' := [(5, .int (nI 0)), (4, .int (nI 0)), (3, .ref out), (2, .ref (a 0)), (1, .ref x), (0, .ref b)]) (by decide) rfl dL_law_296 ?_
      refine lq_aload_n C (i := 2) rfl 3 rfl dL_law_298 ?_
      refine lq_aload_n C (i := 0) rfl 5 rfl dL_law_299 ?_
      refine lq_iload C 1 rfl dL_law_300 ?_
      refine lq_iconst C (x := nI 1) rfl dL_law_302 ?_
      refine lq_iadd C dL_law_303 ?_
      refine lq_cast (.int (nI 1)) (congrArg Value.int (by decide)) ?_
      refine lq_sld C 1 (by decide) (by decide) dL_law_304 ?_
      refine lq_i2c C dL_law_305 ?_
      refine lq_cast (.int (nI v1)) (congrArg Value.int e_v1) ?_
      refine lq_doM C (w7_type l v f g v1 (by omega) (by omega) Mv_2) lM_191 rfl rfl ⟨by decide, by decide⟩ ⟨Nat.le_of_ble_eq_true rfl, Nat.le_of_ble_eq_true rfl⟩ rfl (Nat.le_of_ble_eq_true rfl) dL_law_306 ?_
      refine lq_istore C (lv' := [(6, .int (nI 1)), (5, .int (nI 0)), (4, .int (nI 0)), (3, .ref out), (2, .ref (a 0)), (1, .ref x), (0, .ref b)]) (by decide) rfl dL_law_309 ?_
      refine lq_aload_n C (i := 2) rfl 4 rfl dL_law_311 ?_
      refine lq_doM C (w8_thrown l (upd (upd v 99 (nI 0)) 2 (nI 1)) (mU f 2 0 (nI v1)) g rfl) lM_192 rfl rfl ⟨by decide, by decide⟩ ⟨Nat.le_of_ble_eq_true rfl, Nat.le_of_ble_eq_true rfl⟩ rfl (Nat.le_of_ble_eq_true rfl) dL_law_312 ?_
      refine lq_iload C 1 rfl dL_law_315 ?_
      refine lq_icmp_eq C 322 (by decide) dL_law_317 (fun _ => ?_) (fun c_ => absurd (by decide) c_)
      refine lq_iload C 1 rfl dL_law_322 ?_
      refine lq_if_ne C 339 (by decide) dL_law_324 (fun c_ => absurd (by decide) c_) (fun _ => ?_)
      refine lq_aload_n C (i := 3) rfl 3 rfl dL_law_327 ?_
      refine lq_iconst C (x := nI 0) rfl dL_law_328 ?_
      refine lq_laload C 0 (hm_SJ hS3 (hm_Si hS2 (hm_SI hS1 Fm_out))) (hk_SJ hS3 (hk_Si hS2 (hk_SI hS1 Fk_out))) (by rw [show cn _ _ = 1 from (hn_SJ hS3 (hn_Si hS2 (hn_SI hS1 Fn_out)))]; decide) (by rw [show cn _ _ = 1 from (hn_SJ hS3 (hn_Si hS2 (hn_SI hS1 Fn_out)))]; decide) dL_law_329 ?_
      refine lq_cast (.long (((nI 1)).toInt64)) (congrArg Value.long (heJ_SJ_s hS3)) ?_
      refine lq_iload C 0 rfl dL_law_330 ?_
      refine lq_i2l C dL_law_332 ?_
      refine lq_lcmp C dL_law_333 ?_
      refine lq_if_eqL C 339 (by decide) dL_law_334 ?_
      refine lq_goto C 3491 (by decide) dL_law_339 ?_
      exact lq_sub [2, 6] rfl (law_tail C (Nat.le_of_ble_eq_true rfl) (Nat.le_of_ble_eq_true rfl))
    · refine lq_aload_n C (i := 1) rfl 3 rfl dL_law_284 ?_
      refine lq_aload_n C (i := 0) rfl 4 rfl dL_law_285 ?_
      refine lq_iload C 0 rfl dL_law_286 ?_
      refine lq_iconst C (x := nI 1) rfl dL_law_288 ?_
      refine lq_iadd C dL_law_289 ?_
      refine lq_cast (.int (nI 1)) (congrArg Value.int (by decide)) ?_
      refine lq_sld C 1 (by decide) (by decide) dL_law_290 ?_
      refine lq_i2c C dL_law_291 ?_
      refine lq_cast (.int (nI v1)) (congrArg Value.int e_v1) ?_
      refine lq_aload_n C (i := 3) rfl 1 rfl dL_law_292 ?_
      refine lq_callW C (z18_L_type l hlt S dp x out v1 (by omega) (by omega) Fm_x Fk_x) lH_186 rfl rfl ⟨by decide, by decide⟩ ⟨Nat.le_of_ble_eq_true rfl, Nat.le_of_ble_eq_true rfl⟩ rfl (Nat.le_of_ble_eq_true rfl) dL_law_293 (fun r_293 u_293 h_293 => ?_)
      obtain ⟨hr_293, hu_293⟩ := h_293
      have hw_293 := hu_293.symm
      subst hw_293
      have hx_293 := hr_293.symm
      subst hx_293
      refine lq_istore C (lv' := [(5, .int (nI 1)), (4, .int (nI 0)), (3, .ref out), (2, .ref (a 0)), (1, .ref x), (0, .ref b)]) (by decide) rfl dL_law_296 ?_
      refine lq_aload_n C (i := 2) rfl 3 rfl dL_law_298 ?_
      refine lq_aload_n C (i := 0) rfl 5 rfl dL_law_299 ?_
      refine lq_iload C 1 rfl dL_law_300 ?_
      refine lq_iconst C (x := nI 1) rfl dL_law_302 ?_
      refine lq_iadd C dL_law_303 ?_
      refine lq_cast (.int (nI 1)) (congrArg Value.int (by decide)) ?_
      refine lq_sld C 1 (by decide) (by decide) dL_law_304 ?_
      refine lq_i2c C dL_law_305 ?_
      refine lq_cast (.int (nI v1)) (congrArg Value.int e_v1) ?_
      refine lq_doM C (w10_type l v f g v1 (by omega) (by omega) Mv_2) lM_191 rfl rfl ⟨by decide, by decide⟩ ⟨Nat.le_of_ble_eq_true rfl, Nat.le_of_ble_eq_true rfl⟩ rfl (Nat.le_of_ble_eq_true rfl) dL_law_306 ?_
      refine lq_istore C (lv' := [(6, .int (nI 0)), (5, .int (nI 1)), (4, .int (nI 0)), (3, .ref out), (2, .ref (a 0)), (1, .ref x), (0, .ref b)]) (by decide) rfl dL_law_309 ?_
      refine lq_aload_n C (i := 2) rfl 4 rfl dL_law_311 ?_
      refine lq_doM C (w4_thrown l (upd v 99 (nI 1)) f g rfl) lM_192 rfl rfl ⟨by decide, by decide⟩ ⟨Nat.le_of_ble_eq_true rfl, Nat.le_of_ble_eq_true rfl⟩ rfl (Nat.le_of_ble_eq_true rfl) dL_law_312 ?_
      refine lq_iload C 1 rfl dL_law_315 ?_
      refine lq_icmp_eq C 322 (by decide) dL_law_317 (fun _ => ?_) (fun c_ => absurd (by decide) c_)
      refine lq_iload C 1 rfl dL_law_322 ?_
      refine lq_if_ne C 339 (by decide) dL_law_324 (fun _ => ?_) (fun c_ => absurd c_ (by decide))
      refine lq_goto C 3491 (by decide) dL_law_339 ?_
      exact lq_sub [2, 6] rfl (law_tail C (Nat.le_of_ble_eq_true rfl) (Nat.le_of_ble_eq_true rfl))
set_option maxHeartbeats 8000000 in
set_option maxRecDepth 100000 in
theorem law_case1 (C : lC p l s m meth c b 6 xs D Y tp dp) {S : cS} {a : Nat → Nat} {v : Nat → Int32} {f : Nat → Nat → Int32} {g : Nat → Nat → Int64} {x out q1 q2 q3 q10 q11 q15 q19 q20 q21 q22 q23 q29 q30 q37 : Nat} (F : cFr S dp x out q1 q2 q3 q10 q11 q15 q19 q20 q21 q22 q23 q29 q30 q37) (M : mFr v f g) : lG p l e s m below meth c b D Y 174 409927 342 [(4, .int (nI 0)), (3, .ref out), (2, .ref (a 0)), (1, .ref x), (0, .ref b)] [] S a v f g := by
  have hlt := C.2.2.2.2.2.2.2.2.2.2.1
  obtain ⟨FeI_q30_0, FeI_q30_1, Fi_195_q23, Fi_289_q11, Fi_289_q15, Fi_289_q2, Fi_33_q37, Fi_361_x, Fi_366_x, Fi_368_x, Fi_369_x, Fi_36_q37, Fi_370_x, Fi_37_q37, Fi_384_q19, Fi_384_q22, Fi_386_q19, Fi_386_q21, Fi_386_q22, Fk_out, Fk_q1, Fk_q10, Fk_q11, Fk_q15, Fk_q19, Fk_q2, Fk_q20, Fk_q21, Fk_q22, Fk_q23, Fk_q29, Fk_q3, Fk_q30, Fk_q37, Fk_x, Fm_out, Fm_q1, Fm_q10, Fm_q11, Fm_q15, Fm_q19, Fm_q2, Fm_q20, Fm_q21, Fm_q22, Fm_q23, Fm_q29, Fm_q3, Fm_q30, Fm_q37, Fm_x, Fn_out, Fn_q3, Fn_q30, Fr_224_q29, Fr_288_q2, Fr_321_q20, Fr_352_x, Fr_353_x, Fr_354_x, Fr_355_x, Fr_356_x, Fr_358_x, Fr_359_x, Fr_360_x, Fr_362_x, Fr_364_x, Fr_365_x, Fr_385_q19, Fr_385_q22, Fr_3_q10, Fr_4_q10, Fr_96_q1⟩ := F
  obtain ⟨Mall_21, Mall_22, Mf_29_0, Mf_29_1, Mf_29_2, Mf_29_3, Mf_29_4, Mf_49_0, Mf_49_1, Mf_8_0, Mf_8_1, Mg_7_0, Mg_7_1, Mg_7_10, Mg_7_11, Mg_7_12, Mg_7_13, Mg_7_14, Mg_7_15, Mg_7_16, Mg_7_17, Mg_7_18, Mg_7_19, Mg_7_2, Mg_7_20, Mg_7_21, Mg_7_22, Mg_7_23, Mg_7_24, Mg_7_25, Mg_7_26, Mg_7_27, Mg_7_28, Mg_7_29, Mg_7_3, Mg_7_30, Mg_7_31, Mg_7_32, Mg_7_33, Mg_7_34, Mg_7_35, Mg_7_36, Mg_7_37, Mg_7_38, Mg_7_39, Mg_7_4, Mg_7_5, Mg_7_6, Mg_7_7, Mg_7_8, Mg_7_9, Mv_13, Mv_14, Mv_2, Mv_20, Mv_29, Mv_34, Mv_35, Mv_40, Mv_48, Mv_49, Mv_72, Mv_88, Mv_89, Mv_90, Mv_96, Mv_97, Mv_98⟩ := M
  obtain ⟨v1, e_v1⟩ : ∃ z : Int32, xs 1 = z := ⟨_, rfl⟩
  obtain ⟨v2, e_v2⟩ : ∃ z : Int32, xs 2 = z := ⟨_, rfl⟩
  obtain ⟨v3, e_v3⟩ : ∃ z : Int32, xs 3 = z := ⟨_, rfl⟩
  obtain ⟨v4, e_v4⟩ : ∃ z : Int32, xs 4 = z := ⟨_, rfl⟩
  obtain ⟨v5, e_v5⟩ : ∃ z : Int32, xs 5 = z := ⟨_, rfl⟩
  refine lq_aload_n C (i := 1) rfl 3 rfl dL_law_342 ?_
  refine lq_callC C (z20_X11_wipe l hlt S dp x q1 q2 Fr_352_x Fk_x Fm_x Fr_96_q1 Fk_q1 Fm_q1 Fi_289_q2 Fm_q2 Fk_q2) cc_L_195 Fm_x Fk_x (by decide) rfl rfl ⟨by decide, by decide⟩ ⟨Nat.le_of_ble_eq_true rfl, Nat.le_of_ble_eq_true rfl⟩ rfl (Nat.le_of_ble_eq_true rfl) dL_law_343 (fun r_343 u_343 h_343 => ?_)
  obtain ⟨p1, S1, hf_p1, hS1, p2, S2, hf_p2, hS2, S3, hS3, S4, hS4, p3, S5, hf_p3, hS5, S6, hS6, p4, S7, hf_p4, hS7, S8, hS8, S9, hS9, S10, hS10, hr_343, hu_343⟩ := h_343
  have hw_343 := hu_343.symm
  subst hw_343
  have hx_343 := hr_343.symm
  subst hx_343
  refine lq_aload_n C (i := 2) rfl 2 rfl dL_law_346 ?_
  refine lq_doM C (w11_wipe l v f g Mv_2) lM_198 rfl rfl ⟨by decide, by decide⟩ ⟨Nat.le_of_ble_eq_true rfl, Nat.le_of_ble_eq_true rfl⟩ rfl (Nat.le_of_ble_eq_true rfl) dL_law_347 ?_
  refine lq_icmp_eq C 3491 (by decide) dL_law_350 (fun _ => ?_) (fun c_ => absurd (by decide) c_)
  exact lq_sub [0, 4] rfl (law_tail C (Nat.le_of_ble_eq_true rfl) (Nat.le_of_ble_eq_true rfl))
set_option maxHeartbeats 8000000 in
set_option maxRecDepth 100000 in
theorem law_case2 (C : lC p l s m meth c b 6 xs D Y tp dp) {S : cS} {a : Nat → Nat} {v : Nat → Int32} {f : Nat → Nat → Int32} {g : Nat → Nat → Int64} {x out q1 q2 q3 q10 q11 q15 q19 q20 q21 q22 q23 q29 q30 q37 : Nat} (F : cFr S dp x out q1 q2 q3 q10 q11 q15 q19 q20 q21 q22 q23 q29 q30 q37) (M : mFr v f g) : lG p l e s m below meth c b D Y 174 409927 355 [(4, .int (nI 0)), (3, .ref out), (2, .ref (a 0)), (1, .ref x), (0, .ref b)] [] S a v f g := by
  have hlt := C.2.2.2.2.2.2.2.2.2.2.1
  obtain ⟨FeI_q30_0, FeI_q30_1, Fi_195_q23, Fi_289_q11, Fi_289_q15, Fi_289_q2, Fi_33_q37, Fi_361_x, Fi_366_x, Fi_368_x, Fi_369_x, Fi_36_q37, Fi_370_x, Fi_37_q37, Fi_384_q19, Fi_384_q22, Fi_386_q19, Fi_386_q21, Fi_386_q22, Fk_out, Fk_q1, Fk_q10, Fk_q11, Fk_q15, Fk_q19, Fk_q2, Fk_q20, Fk_q21, Fk_q22, Fk_q23, Fk_q29, Fk_q3, Fk_q30, Fk_q37, Fk_x, Fm_out, Fm_q1, Fm_q10, Fm_q11, Fm_q15, Fm_q19, Fm_q2, Fm_q20, Fm_q21, Fm_q22, Fm_q23, Fm_q29, Fm_q3, Fm_q30, Fm_q37, Fm_x, Fn_out, Fn_q3, Fn_q30, Fr_224_q29, Fr_288_q2, Fr_321_q20, Fr_352_x, Fr_353_x, Fr_354_x, Fr_355_x, Fr_356_x, Fr_358_x, Fr_359_x, Fr_360_x, Fr_362_x, Fr_364_x, Fr_365_x, Fr_385_q19, Fr_385_q22, Fr_3_q10, Fr_4_q10, Fr_96_q1⟩ := F
  obtain ⟨Mall_21, Mall_22, Mf_29_0, Mf_29_1, Mf_29_2, Mf_29_3, Mf_29_4, Mf_49_0, Mf_49_1, Mf_8_0, Mf_8_1, Mg_7_0, Mg_7_1, Mg_7_10, Mg_7_11, Mg_7_12, Mg_7_13, Mg_7_14, Mg_7_15, Mg_7_16, Mg_7_17, Mg_7_18, Mg_7_19, Mg_7_2, Mg_7_20, Mg_7_21, Mg_7_22, Mg_7_23, Mg_7_24, Mg_7_25, Mg_7_26, Mg_7_27, Mg_7_28, Mg_7_29, Mg_7_3, Mg_7_30, Mg_7_31, Mg_7_32, Mg_7_33, Mg_7_34, Mg_7_35, Mg_7_36, Mg_7_37, Mg_7_38, Mg_7_39, Mg_7_4, Mg_7_5, Mg_7_6, Mg_7_7, Mg_7_8, Mg_7_9, Mv_13, Mv_14, Mv_2, Mv_20, Mv_29, Mv_34, Mv_35, Mv_40, Mv_48, Mv_49, Mv_72, Mv_88, Mv_89, Mv_90, Mv_96, Mv_97, Mv_98⟩ := M
  obtain ⟨v1, e_v1⟩ : ∃ z : Int32, xs 1 = z := ⟨_, rfl⟩
  obtain ⟨v2, e_v2⟩ : ∃ z : Int32, xs 2 = z := ⟨_, rfl⟩
  obtain ⟨v3, e_v3⟩ : ∃ z : Int32, xs 3 = z := ⟨_, rfl⟩
  obtain ⟨v4, e_v4⟩ : ∃ z : Int32, xs 4 = z := ⟨_, rfl⟩
  obtain ⟨v5, e_v5⟩ : ∃ z : Int32, xs 5 = z := ⟨_, rfl⟩
  refine lq_aload_n C (i := 1) rfl 3 rfl dL_law_355 ?_
  refine lq_aload_n C (i := 3) rfl 1 rfl dL_law_356 ?_
  refine lq_callW C (z24_L_stop l hlt S dp x out q1 q2 Fr_352_x Fk_x Fm_x Fr_96_q1 Fk_q1 Fm_q1 Fi_289_q2 Fk_q2 Fm_q2) lH_199 rfl rfl ⟨by decide, by decide⟩ ⟨Nat.le_of_ble_eq_true rfl, Nat.le_of_ble_eq_true rfl⟩ rfl (Nat.le_of_ble_eq_true rfl) dL_law_357 (fun r_357 u_357 h_357 => ?_)
  obtain ⟨S1, hS1, hr_357, hu_357⟩ := h_357
  have hw_357 := hu_357.symm
  subst hw_357
  have hx_357 := hr_357.symm
  subst hx_357
  refine lq_istore C (lv' := [(5, .int (nI 1)), (4, .int (nI 0)), (3, .ref out), (2, .ref (a 0)), (1, .ref x), (0, .ref b)]) (by decide) rfl dL_law_360 ?_
  refine lq_aload_n C (i := 2) rfl 3 rfl dL_law_362 ?_
  refine lq_doM C (w14_stop l v f g Mv_2) lM_202 rfl rfl ⟨by decide, by decide⟩ ⟨Nat.le_of_ble_eq_true rfl, Nat.le_of_ble_eq_true rfl⟩ rfl (Nat.le_of_ble_eq_true rfl) dL_law_363 ?_
  refine lq_istore C (lv' := [(6, .int (nI 0)), (5, .int (nI 1)), (4, .int (nI 0)), (3, .ref out), (2, .ref (a 0)), (1, .ref x), (0, .ref b)]) (by decide) rfl dL_law_366 ?_
  refine lq_aload_n C (i := 2) rfl 4 rfl dL_law_368 ?_
  refine lq_doM C (w4_thrown l (upd (upd v 4 (nI 0)) 99 (nI 1)) f g rfl) lM_192 rfl rfl ⟨by decide, by decide⟩ ⟨Nat.le_of_ble_eq_true rfl, Nat.le_of_ble_eq_true rfl⟩ rfl (Nat.le_of_ble_eq_true rfl) dL_law_369 ?_
  refine lq_iload C 1 rfl dL_law_372 ?_
  refine lq_icmp_eq C 379 (by decide) dL_law_374 (fun _ => ?_) (fun c_ => absurd (by decide) c_)
  refine lq_iload C 1 rfl dL_law_379 ?_
  refine lq_if_ne C 396 (by decide) dL_law_381 (fun _ => ?_) (fun c_ => absurd c_ (by decide))
  refine lq_goto C 3491 (by decide) dL_law_396 ?_
  exact lq_sub [2, 6] rfl (law_tail C (Nat.le_of_ble_eq_true rfl) (Nat.le_of_ble_eq_true rfl))
set_option maxHeartbeats 8000000 in
set_option maxRecDepth 100000 in
theorem law_case3 (C : lC p l s m meth c b 6 xs D Y tp dp) {S : cS} {a : Nat → Nat} {v : Nat → Int32} {f : Nat → Nat → Int32} {g : Nat → Nat → Int64} {x out q1 q2 q3 q10 q11 q15 q19 q20 q21 q22 q23 q29 q30 q37 : Nat} (F : cFr S dp x out q1 q2 q3 q10 q11 q15 q19 q20 q21 q22 q23 q29 q30 q37) (M : mFr v f g) : lG p l e s m below meth c b D Y 174 409927 399 [(4, .int (nI 0)), (3, .ref out), (2, .ref (a 0)), (1, .ref x), (0, .ref b)] [] S a v f g := by
  have hlt := C.2.2.2.2.2.2.2.2.2.2.1
  obtain ⟨FeI_q30_0, FeI_q30_1, Fi_195_q23, Fi_289_q11, Fi_289_q15, Fi_289_q2, Fi_33_q37, Fi_361_x, Fi_366_x, Fi_368_x, Fi_369_x, Fi_36_q37, Fi_370_x, Fi_37_q37, Fi_384_q19, Fi_384_q22, Fi_386_q19, Fi_386_q21, Fi_386_q22, Fk_out, Fk_q1, Fk_q10, Fk_q11, Fk_q15, Fk_q19, Fk_q2, Fk_q20, Fk_q21, Fk_q22, Fk_q23, Fk_q29, Fk_q3, Fk_q30, Fk_q37, Fk_x, Fm_out, Fm_q1, Fm_q10, Fm_q11, Fm_q15, Fm_q19, Fm_q2, Fm_q20, Fm_q21, Fm_q22, Fm_q23, Fm_q29, Fm_q3, Fm_q30, Fm_q37, Fm_x, Fn_out, Fn_q3, Fn_q30, Fr_224_q29, Fr_288_q2, Fr_321_q20, Fr_352_x, Fr_353_x, Fr_354_x, Fr_355_x, Fr_356_x, Fr_358_x, Fr_359_x, Fr_360_x, Fr_362_x, Fr_364_x, Fr_365_x, Fr_385_q19, Fr_385_q22, Fr_3_q10, Fr_4_q10, Fr_96_q1⟩ := F
  obtain ⟨Mall_21, Mall_22, Mf_29_0, Mf_29_1, Mf_29_2, Mf_29_3, Mf_29_4, Mf_49_0, Mf_49_1, Mf_8_0, Mf_8_1, Mg_7_0, Mg_7_1, Mg_7_10, Mg_7_11, Mg_7_12, Mg_7_13, Mg_7_14, Mg_7_15, Mg_7_16, Mg_7_17, Mg_7_18, Mg_7_19, Mg_7_2, Mg_7_20, Mg_7_21, Mg_7_22, Mg_7_23, Mg_7_24, Mg_7_25, Mg_7_26, Mg_7_27, Mg_7_28, Mg_7_29, Mg_7_3, Mg_7_30, Mg_7_31, Mg_7_32, Mg_7_33, Mg_7_34, Mg_7_35, Mg_7_36, Mg_7_37, Mg_7_38, Mg_7_39, Mg_7_4, Mg_7_5, Mg_7_6, Mg_7_7, Mg_7_8, Mg_7_9, Mv_13, Mv_14, Mv_2, Mv_20, Mv_29, Mv_34, Mv_35, Mv_40, Mv_48, Mv_49, Mv_72, Mv_88, Mv_89, Mv_90, Mv_96, Mv_97, Mv_98⟩ := M
  obtain ⟨v1, e_v1⟩ : ∃ z : Int32, xs 1 = z := ⟨_, rfl⟩
  obtain ⟨v2, e_v2⟩ : ∃ z : Int32, xs 2 = z := ⟨_, rfl⟩
  obtain ⟨v3, e_v3⟩ : ∃ z : Int32, xs 3 = z := ⟨_, rfl⟩
  obtain ⟨v4, e_v4⟩ : ∃ z : Int32, xs 4 = z := ⟨_, rfl⟩
  obtain ⟨v5, e_v5⟩ : ∃ z : Int32, xs 5 = z := ⟨_, rfl⟩
  refine lq_aload_n C (i := 1) rfl 3 rfl dL_law_399 ?_
  refine lq_aload_n C (i := 3) rfl 1 rfl dL_law_400 ?_
  refine lq_callW C (z26_L_synonym l hlt S dp x out q1 q2 Fr_352_x Fk_x Fm_x Fr_96_q1 Fk_q1 Fm_q1 Fi_289_q2 Fk_q2 Fm_q2) lH_203 rfl rfl ⟨by decide, by decide⟩ ⟨Nat.le_of_ble_eq_true rfl, Nat.le_of_ble_eq_true rfl⟩ rfl (Nat.le_of_ble_eq_true rfl) dL_law_401 (fun r_401 u_401 h_401 => ?_)
  obtain ⟨S1, hS1, hr_401, hu_401⟩ := h_401
  have hw_401 := hu_401.symm
  subst hw_401
  have hx_401 := hr_401.symm
  subst hx_401
  refine lq_istore C (lv' := [(5, .int (nI 1)), (4, .int (nI 0)), (3, .ref out), (2, .ref (a 0)), (1, .ref x), (0, .ref b)]) (by decide) rfl dL_law_404 ?_
  refine lq_aload_n C (i := 2) rfl 3 rfl dL_law_406 ?_
  refine lq_doM C (w15_synonym l v f g Mv_2) lM_205 rfl rfl ⟨by decide, by decide⟩ ⟨Nat.le_of_ble_eq_true rfl, Nat.le_of_ble_eq_true rfl⟩ rfl (Nat.le_of_ble_eq_true rfl) dL_law_407 ?_
  refine lq_istore C (lv' := [(6, .int (nI 0)), (5, .int (nI 1)), (4, .int (nI 0)), (3, .ref out), (2, .ref (a 0)), (1, .ref x), (0, .ref b)]) (by decide) rfl dL_law_410 ?_
  refine lq_aload_n C (i := 2) rfl 4 rfl dL_law_412 ?_
  refine lq_doM C (w4_thrown l (upd (upd v 4 (nI 0)) 99 (nI 1)) f g rfl) lM_192 rfl rfl ⟨by decide, by decide⟩ ⟨Nat.le_of_ble_eq_true rfl, Nat.le_of_ble_eq_true rfl⟩ rfl (Nat.le_of_ble_eq_true rfl) dL_law_413 ?_
  refine lq_iload C 1 rfl dL_law_416 ?_
  refine lq_icmp_eq C 423 (by decide) dL_law_418 (fun _ => ?_) (fun c_ => absurd (by decide) c_)
  refine lq_iload C 1 rfl dL_law_423 ?_
  refine lq_if_ne C 440 (by decide) dL_law_425 (fun _ => ?_) (fun c_ => absurd c_ (by decide))
  refine lq_goto C 3491 (by decide) dL_law_440 ?_
  exact lq_sub [2, 6] rfl (law_tail C (Nat.le_of_ble_eq_true rfl) (Nat.le_of_ble_eq_true rfl))
set_option maxHeartbeats 8000000 in
set_option maxRecDepth 100000 in
theorem law_case4 (C : lC p l s m meth c b 6 xs D Y tp dp) {S : cS} {a : Nat → Nat} {v : Nat → Int32} {f : Nat → Nat → Int32} {g : Nat → Nat → Int64} {x out q1 q2 q3 q10 q11 q15 q19 q20 q21 q22 q23 q29 q30 q37 : Nat} (F : cFr S dp x out q1 q2 q3 q10 q11 q15 q19 q20 q21 q22 q23 q29 q30 q37) (M : mFr v f g) : lG p l e s m below meth c b D Y 174 409927 443 [(4, .int (nI 0)), (3, .ref out), (2, .ref (a 0)), (1, .ref x), (0, .ref b)] [] S a v f g := by
  have hlt := C.2.2.2.2.2.2.2.2.2.2.1
  obtain ⟨FeI_q30_0, FeI_q30_1, Fi_195_q23, Fi_289_q11, Fi_289_q15, Fi_289_q2, Fi_33_q37, Fi_361_x, Fi_366_x, Fi_368_x, Fi_369_x, Fi_36_q37, Fi_370_x, Fi_37_q37, Fi_384_q19, Fi_384_q22, Fi_386_q19, Fi_386_q21, Fi_386_q22, Fk_out, Fk_q1, Fk_q10, Fk_q11, Fk_q15, Fk_q19, Fk_q2, Fk_q20, Fk_q21, Fk_q22, Fk_q23, Fk_q29, Fk_q3, Fk_q30, Fk_q37, Fk_x, Fm_out, Fm_q1, Fm_q10, Fm_q11, Fm_q15, Fm_q19, Fm_q2, Fm_q20, Fm_q21, Fm_q22, Fm_q23, Fm_q29, Fm_q3, Fm_q30, Fm_q37, Fm_x, Fn_out, Fn_q3, Fn_q30, Fr_224_q29, Fr_288_q2, Fr_321_q20, Fr_352_x, Fr_353_x, Fr_354_x, Fr_355_x, Fr_356_x, Fr_358_x, Fr_359_x, Fr_360_x, Fr_362_x, Fr_364_x, Fr_365_x, Fr_385_q19, Fr_385_q22, Fr_3_q10, Fr_4_q10, Fr_96_q1⟩ := F
  obtain ⟨Mall_21, Mall_22, Mf_29_0, Mf_29_1, Mf_29_2, Mf_29_3, Mf_29_4, Mf_49_0, Mf_49_1, Mf_8_0, Mf_8_1, Mg_7_0, Mg_7_1, Mg_7_10, Mg_7_11, Mg_7_12, Mg_7_13, Mg_7_14, Mg_7_15, Mg_7_16, Mg_7_17, Mg_7_18, Mg_7_19, Mg_7_2, Mg_7_20, Mg_7_21, Mg_7_22, Mg_7_23, Mg_7_24, Mg_7_25, Mg_7_26, Mg_7_27, Mg_7_28, Mg_7_29, Mg_7_3, Mg_7_30, Mg_7_31, Mg_7_32, Mg_7_33, Mg_7_34, Mg_7_35, Mg_7_36, Mg_7_37, Mg_7_38, Mg_7_39, Mg_7_4, Mg_7_5, Mg_7_6, Mg_7_7, Mg_7_8, Mg_7_9, Mv_13, Mv_14, Mv_2, Mv_20, Mv_29, Mv_34, Mv_35, Mv_40, Mv_48, Mv_49, Mv_72, Mv_88, Mv_89, Mv_90, Mv_96, Mv_97, Mv_98⟩ := M
  rcases c_sgn (xs 1) with hneg_v1 | ⟨v1, hr_v1, e_v1⟩
  · obtain ⟨v1, e_v1⟩ : ∃ z : Int32, xs 1 = z := ⟨_, rfl⟩
    rw [e_v1] at hneg_v1
    obtain ⟨v2, e_v2⟩ : ∃ z : Int32, xs 2 = z := ⟨_, rfl⟩
    obtain ⟨v3, e_v3⟩ : ∃ z : Int32, xs 3 = z := ⟨_, rfl⟩
    obtain ⟨v4, e_v4⟩ : ∃ z : Int32, xs 4 = z := ⟨_, rfl⟩
    obtain ⟨v5, e_v5⟩ : ∃ z : Int32, xs 5 = z := ⟨_, rfl⟩
    refine lq_aload_n C (i := 1) rfl 3 rfl dL_law_443 ?_
    refine lq_aload_n C (i := 0) rfl 4 rfl dL_law_444 ?_
    refine lq_iload C 0 rfl dL_law_445 ?_
    refine lq_iconst C (x := nI 1) rfl dL_law_447 ?_
    refine lq_iadd C dL_law_448 ?_
    refine lq_cast (.int (nI 1)) (congrArg Value.int (by decide)) ?_
    refine lq_sld C 1 (by decide) (by decide) dL_law_449 ?_
    refine lq_cast (.int v1) (congrArg Value.int e_v1) ?_
    refine lq_aload_n C (i := 3) rfl 1 rfl dL_law_450 ?_
    refine lq_callW C (z29_L_text l hlt S dp x out v1 hneg_v1 Fm_x Fk_x) lH_206 rfl rfl ⟨by decide, by decide⟩ ⟨Nat.le_of_ble_eq_true rfl, Nat.le_of_ble_eq_true rfl⟩ rfl (Nat.le_of_ble_eq_true rfl) dL_law_451 (fun r_451 u_451 h_451 => ?_)
    obtain ⟨hr_451, hu_451⟩ := h_451
    have hw_451 := hu_451.symm
    subst hw_451
    have hx_451 := hr_451.symm
    subst hx_451
    refine lq_istore C (lv' := [(5, .int (nI 1)), (4, .int (nI 0)), (3, .ref out), (2, .ref (a 0)), (1, .ref x), (0, .ref b)]) (by decide) rfl dL_law_454 ?_
    refine lq_aload_n C (i := 2) rfl 3 rfl dL_law_456 ?_
    refine lq_aload_n C (i := 0) rfl 5 rfl dL_law_457 ?_
    refine lq_iload C 1 rfl dL_law_458 ?_
    refine lq_iconst C (x := nI 1) rfl dL_law_460 ?_
    refine lq_iadd C dL_law_461 ?_
    refine lq_cast (.int (nI 1)) (congrArg Value.int (by decide)) ?_
    refine lq_sld C 1 (by decide) (by decide) dL_law_462 ?_
    refine lq_cast (.int v1) (congrArg Value.int e_v1) ?_
    refine lq_doM C (w17_text l v f g v1 hneg_v1) lM_209 rfl rfl ⟨by decide, by decide⟩ ⟨Nat.le_of_ble_eq_true rfl, Nat.le_of_ble_eq_true rfl⟩ rfl (Nat.le_of_ble_eq_true rfl) dL_law_463 ?_
    refine lq_istore C (lv' := [(6, .int (nI 0)), (5, .int (nI 1)), (4, .int (nI 0)), (3, .ref out), (2, .ref (a 0)), (1, .ref x), (0, .ref b)]) (by decide) rfl dL_law_466 ?_
    refine lq_aload_n C (i := 2) rfl 4 rfl dL_law_468 ?_
    refine lq_doM C (w4_thrown l (upd v 99 (nI 1)) f g rfl) lM_192 rfl rfl ⟨by decide, by decide⟩ ⟨Nat.le_of_ble_eq_true rfl, Nat.le_of_ble_eq_true rfl⟩ rfl (Nat.le_of_ble_eq_true rfl) dL_law_469 ?_
    refine lq_iload C 1 rfl dL_law_472 ?_
    refine lq_icmp_eq C 479 (by decide) dL_law_474 (fun _ => ?_) (fun c_ => absurd (by decide) c_)
    refine lq_iload C 1 rfl dL_law_479 ?_
    refine lq_if_ne C 496 (by decide) dL_law_481 (fun _ => ?_) (fun c_ => absurd c_ (by decide))
    refine lq_goto C 3491 (by decide) dL_law_496 ?_
    exact lq_sub [2, 6] rfl (law_tail C (Nat.le_of_ble_eq_true rfl) (Nat.le_of_ble_eq_true rfl))
  · rcases Nat.lt_or_ge v1 2 with hlt_v1 | hlt_v1
    · rcases Nat.lt_or_ge v1 1 with hlt_v1 | hlt_v1
      · obtain rfl : v1 = 0 := by omega
        obtain ⟨v2, e_v2⟩ : ∃ z : Int32, xs 2 = z := ⟨_, rfl⟩
        obtain ⟨v3, e_v3⟩ : ∃ z : Int32, xs 3 = z := ⟨_, rfl⟩
        obtain ⟨v4, e_v4⟩ : ∃ z : Int32, xs 4 = z := ⟨_, rfl⟩
        obtain ⟨v5, e_v5⟩ : ∃ z : Int32, xs 5 = z := ⟨_, rfl⟩
        refine lq_aload_n C (i := 1) rfl 3 rfl dL_law_443 ?_
        refine lq_aload_n C (i := 0) rfl 4 rfl dL_law_444 ?_
        refine lq_iload C 0 rfl dL_law_445 ?_
        refine lq_iconst C (x := nI 1) rfl dL_law_447 ?_
        refine lq_iadd C dL_law_448 ?_
        refine lq_cast (.int (nI 1)) (congrArg Value.int (by decide)) ?_
        refine lq_sld C 1 (by decide) (by decide) dL_law_449 ?_
        refine lq_cast (.int (nI 0)) (congrArg Value.int e_v1) ?_
        refine lq_aload_n C (i := 3) rfl 1 rfl dL_law_450 ?_
        refine lq_callW C (z35_L_text l hlt S dp x out q1 q2 q10 Fr_352_x Fk_x Fm_x Fr_96_q1 Fk_q1 Fm_q1 Fi_289_q2 Fm_q2 Fk_q2 Fr_353_x Fk_q10 Fm_q10 Fk_out Fm_out Fn_out) lH_206 rfl rfl ⟨by decide, by decide⟩ ⟨Nat.le_of_ble_eq_true rfl, Nat.le_of_ble_eq_true rfl⟩ rfl (Nat.le_of_ble_eq_true rfl) dL_law_451 (fun r_451 u_451 h_451 => ?_)
        obtain ⟨p1, S1, hf_p1, hS1, p2, S2, hf_p2, hS2, S3, hS3, S4, hS4, p3, S5, hf_p3, hS5, S6, hS6, p4, S7, hf_p4, hS7, S8, hS8, S9, hS9, S10, hS10, S11, hS11, S12, hS12, S13, hS13, S14, hS14, hr_451, hu_451⟩ := h_451
        have hw_451 := hu_451.symm
        subst hw_451
        have hx_451 := hr_451.symm
        subst hx_451
        refine lq_istore C (lv' := [(5, .int (nI 0)), (4, .int (nI 0)), (3, .ref out), (2, .ref (a 0)), (1, .ref x), (0, .ref b)]) (by decide) rfl dL_law_454 ?_
        refine lq_aload_n C (i := 2) rfl 3 rfl dL_law_456 ?_
        refine lq_aload_n C (i := 0) rfl 5 rfl dL_law_457 ?_
        refine lq_iload C 1 rfl dL_law_458 ?_
        refine lq_iconst C (x := nI 1) rfl dL_law_460 ?_
        refine lq_iadd C dL_law_461 ?_
        refine lq_cast (.int (nI 1)) (congrArg Value.int (by decide)) ?_
        refine lq_sld C 1 (by decide) (by decide) dL_law_462 ?_
        refine lq_cast (.int (nI 0)) (congrArg Value.int e_v1) ?_
        refine lq_doM C (w19_text l v f g Mv_2) lM_209 rfl rfl ⟨by decide, by decide⟩ ⟨Nat.le_of_ble_eq_true rfl, Nat.le_of_ble_eq_true rfl⟩ rfl (Nat.le_of_ble_eq_true rfl) dL_law_463 ?_
        refine lq_istore C (lv' := [(6, .int (nI 0)), (5, .int (nI 0)), (4, .int (nI 0)), (3, .ref out), (2, .ref (a 0)), (1, .ref x), (0, .ref b)]) (by decide) rfl dL_law_466 ?_
        refine lq_aload_n C (i := 2) rfl 4 rfl dL_law_468 ?_
        refine lq_doM C (w8_thrown l (upd (upd (upd v 99 (nI 0)) 4 (nI 0)) 2 (nI 0)) (mU f 8 0 (nI 0)) g rfl) lM_192 rfl rfl ⟨by decide, by decide⟩ ⟨Nat.le_of_ble_eq_true rfl, Nat.le_of_ble_eq_true rfl⟩ rfl (Nat.le_of_ble_eq_true rfl) dL_law_469 ?_
        refine lq_iload C 1 rfl dL_law_472 ?_
        refine lq_icmp_eq C 479 (by decide) dL_law_474 (fun _ => ?_) (fun c_ => absurd (by decide) c_)
        refine lq_iload C 1 rfl dL_law_479 ?_
        refine lq_if_ne C 496 (by decide) dL_law_481 (fun c_ => absurd (by decide) c_) (fun _ => ?_)
        refine lq_aload_n C (i := 3) rfl 3 rfl dL_law_484 ?_
        refine lq_iconst C (x := nI 0) rfl dL_law_485 ?_
        have f_1 : cK S2 out = 15 := (hk_A hS2 (cm_ne (hm_N hS1 Fm_out) hf_p2) (hk_N hS1 (cm_ne Fm_out hf_p1) Fk_out))
        have f_2 : cK S5 out = 15 := (hk_A hS5 (cm_ne (hm_Si hS4 (hm_Sr hS3 (hm_A hS2 (hm_N hS1 Fm_out)))) hf_p3) (hk_Si hS4 (hk_Sr hS3 f_1)))
        have f_3 : out ∈ cL S6 := (hm_Sr hS6 (hm_A hS5 (hm_Si hS4 (hm_Sr hS3 (hm_A hS2 (hm_N hS1 Fm_out))))))
        have f_4 : cK S10 out = 15 := (hk_Sr hS10 (hk_Si hS9 (hk_Sr hS8 (hk_A hS7 (cm_ne f_3 hf_p4) (hk_Sr hS6 f_2)))))
        have f_5 : cn S3 out = 1 := (hn_Sr hS3 (hn_A hS2 (cm_ne (hm_N hS1 Fm_out) hf_p2) (hn_N hS1 Fn_out)))
        have f_6 : cn S5 out = 1 := (hn_A hS5 (cm_ne (hm_Si hS4 (hm_Sr hS3 (hm_A hS2 (hm_N hS1 Fm_out)))) hf_p3) (hn_Si hS4 f_5))
        have f_7 : cn S10 out = 1 := (hn_Sr hS10 (hn_Si hS9 (hn_Sr hS8 (hn_A hS7 (cm_ne f_3 hf_p4) (hn_Sr hS6 f_6)))))
        have f_8 : out ∈ cL S12 := (hm_Si hS12 (hm_Si hS11 (hm_Sr hS10 (hm_Si hS9 (hm_Sr hS8 (hm_A hS7 f_3))))))
        refine lq_laload C 0 (hm_SJ hS14 (hm_Sr hS13 f_8)) (hk_SJ hS14 (hk_Sr hS13 (hk_Si hS12 (hk_Si hS11 f_4)))) (by rw [show cn _ _ = 1 from (hn_SJ hS14 (hn_Sr hS13 (hn_Si hS12 (hn_Si hS11 f_7))))]; decide) (by rw [show cn _ _ = 1 from (hn_SJ hS14 (hn_Sr hS13 (hn_Si hS12 (hn_Si hS11 f_7))))]; decide) dL_law_486 ?_
        refine lq_cast (.long (((nI 0)).toInt64)) (congrArg Value.long (heJ_SJ_s hS14)) ?_
        refine lq_iload C 0 rfl dL_law_487 ?_
        refine lq_i2l C dL_law_489 ?_
        refine lq_lcmp C dL_law_490 ?_
        refine lq_if_eqL C 496 (by decide) dL_law_491 ?_
        refine lq_goto C 3491 (by decide) dL_law_496 ?_
        exact lq_sub [2, 6] rfl (law_tail C (Nat.le_of_ble_eq_true rfl) (Nat.le_of_ble_eq_true rfl))
      · obtain rfl : v1 = 1 := by omega
        obtain ⟨v2, e_v2⟩ : ∃ z : Int32, xs 2 = z := ⟨_, rfl⟩
        obtain ⟨v3, e_v3⟩ : ∃ z : Int32, xs 3 = z := ⟨_, rfl⟩
        obtain ⟨v4, e_v4⟩ : ∃ z : Int32, xs 4 = z := ⟨_, rfl⟩
        obtain ⟨v5, e_v5⟩ : ∃ z : Int32, xs 5 = z := ⟨_, rfl⟩
        refine lq_aload_n C (i := 1) rfl 3 rfl dL_law_443 ?_
        refine lq_aload_n C (i := 0) rfl 4 rfl dL_law_444 ?_
        refine lq_iload C 0 rfl dL_law_445 ?_
        refine lq_iconst C (x := nI 1) rfl dL_law_447 ?_
        refine lq_iadd C dL_law_448 ?_
        refine lq_cast (.int (nI 1)) (congrArg Value.int (by decide)) ?_
        refine lq_sld C 1 (by decide) (by decide) dL_law_449 ?_
        refine lq_cast (.int (nI 1)) (congrArg Value.int e_v1) ?_
        refine lq_aload_n C (i := 3) rfl 1 rfl dL_law_450 ?_
        refine lq_callW C (z39_L_text l hlt S dp x out q1 q2 q10 Fr_352_x Fk_x Fm_x Fr_96_q1 Fk_q1 Fm_q1 Fi_289_q2 Fm_q2 Fk_q2 Fr_353_x Fk_q10 Fm_q10 Fk_out Fm_out Fn_out) lH_206 rfl rfl ⟨by decide, by decide⟩ ⟨Nat.le_of_ble_eq_true rfl, Nat.le_of_ble_eq_true rfl⟩ rfl (Nat.le_of_ble_eq_true rfl) dL_law_451 (fun r_451 u_451 h_451 => ?_)
        obtain ⟨p1, S1, hf_p1, hS1, p2, S2, hf_p2, hS2, S3, hS3, S4, hS4, p3, S5, hf_p3, hS5, S6, hS6, p4, S7, hf_p4, hS7, S8, hS8, S9, hS9, S10, hS10, S11, hS11, S12, hS12, S13, hS13, S14, hS14, hr_451, hu_451⟩ := h_451
        have hw_451 := hu_451.symm
        subst hw_451
        have hx_451 := hr_451.symm
        subst hx_451
        refine lq_istore C (lv' := [(5, .int (nI 0)), (4, .int (nI 0)), (3, .ref out), (2, .ref (a 0)), (1, .ref x), (0, .ref b)]) (by decide) rfl dL_law_454 ?_
        refine lq_aload_n C (i := 2) rfl 3 rfl dL_law_456 ?_
        refine lq_aload_n C (i := 0) rfl 5 rfl dL_law_457 ?_
        refine lq_iload C 1 rfl dL_law_458 ?_
        refine lq_iconst C (x := nI 1) rfl dL_law_460 ?_
        refine lq_iadd C dL_law_461 ?_
        refine lq_cast (.int (nI 1)) (congrArg Value.int (by decide)) ?_
        refine lq_sld C 1 (by decide) (by decide) dL_law_462 ?_
        refine lq_cast (.int (nI 1)) (congrArg Value.int e_v1) ?_
        refine lq_doM C (w21_text l v f g Mv_2) lM_209 rfl rfl ⟨by decide, by decide⟩ ⟨Nat.le_of_ble_eq_true rfl, Nat.le_of_ble_eq_true rfl⟩ rfl (Nat.le_of_ble_eq_true rfl) dL_law_463 ?_
        refine lq_istore C (lv' := [(6, .int (nI 0)), (5, .int (nI 0)), (4, .int (nI 0)), (3, .ref out), (2, .ref (a 0)), (1, .ref x), (0, .ref b)]) (by decide) rfl dL_law_466 ?_
        refine lq_aload_n C (i := 2) rfl 4 rfl dL_law_468 ?_
        refine lq_doM C (w8_thrown l (upd (upd (upd v 99 (nI 0)) 4 (nI 0)) 2 (nI 0)) (mU f 8 1 (nI 0)) g rfl) lM_192 rfl rfl ⟨by decide, by decide⟩ ⟨Nat.le_of_ble_eq_true rfl, Nat.le_of_ble_eq_true rfl⟩ rfl (Nat.le_of_ble_eq_true rfl) dL_law_469 ?_
        refine lq_iload C 1 rfl dL_law_472 ?_
        refine lq_icmp_eq C 479 (by decide) dL_law_474 (fun _ => ?_) (fun c_ => absurd (by decide) c_)
        refine lq_iload C 1 rfl dL_law_479 ?_
        refine lq_if_ne C 496 (by decide) dL_law_481 (fun c_ => absurd (by decide) c_) (fun _ => ?_)
        refine lq_aload_n C (i := 3) rfl 3 rfl dL_law_484 ?_
        refine lq_iconst C (x := nI 0) rfl dL_law_485 ?_
        have f_1 : cK S2 out = 15 := (hk_A hS2 (cm_ne (hm_N hS1 Fm_out) hf_p2) (hk_N hS1 (cm_ne Fm_out hf_p1) Fk_out))
        have f_2 : cK S5 out = 15 := (hk_A hS5 (cm_ne (hm_Si hS4 (hm_Sr hS3 (hm_A hS2 (hm_N hS1 Fm_out)))) hf_p3) (hk_Si hS4 (hk_Sr hS3 f_1)))
        have f_3 : out ∈ cL S6 := (hm_Sr hS6 (hm_A hS5 (hm_Si hS4 (hm_Sr hS3 (hm_A hS2 (hm_N hS1 Fm_out))))))
        have f_4 : cK S10 out = 15 := (hk_Sr hS10 (hk_Si hS9 (hk_Sr hS8 (hk_A hS7 (cm_ne f_3 hf_p4) (hk_Sr hS6 f_2)))))
        have f_5 : cn S3 out = 1 := (hn_Sr hS3 (hn_A hS2 (cm_ne (hm_N hS1 Fm_out) hf_p2) (hn_N hS1 Fn_out)))
        have f_6 : cn S5 out = 1 := (hn_A hS5 (cm_ne (hm_Si hS4 (hm_Sr hS3 (hm_A hS2 (hm_N hS1 Fm_out)))) hf_p3) (hn_Si hS4 f_5))
        have f_7 : cn S10 out = 1 := (hn_Sr hS10 (hn_Si hS9 (hn_Sr hS8 (hn_A hS7 (cm_ne f_3 hf_p4) (hn_Sr hS6 f_6)))))
        have f_8 : out ∈ cL S12 := (hm_Si hS12 (hm_Si hS11 (hm_Sr hS10 (hm_Si hS9 (hm_Sr hS8 (hm_A hS7 f_3))))))
        refine lq_laload C 0 (hm_SJ hS14 (hm_Sr hS13 f_8)) (hk_SJ hS14 (hk_Sr hS13 (hk_Si hS12 (hk_Si hS11 f_4)))) (by rw [show cn _ _ = 1 from (hn_SJ hS14 (hn_Sr hS13 (hn_Si hS12 (hn_Si hS11 f_7))))]; decide) (by rw [show cn _ _ = 1 from (hn_SJ hS14 (hn_Sr hS13 (hn_Si hS12 (hn_Si hS11 f_7))))]; decide) dL_law_486 ?_
        refine lq_cast (.long (((nI 0)).toInt64)) (congrArg Value.long (heJ_SJ_s hS14)) ?_
        refine lq_iload C 0 rfl dL_law_487 ?_
        refine lq_i2l C dL_law_489 ?_
        refine lq_lcmp C dL_law_490 ?_
        refine lq_if_eqL C 496 (by decide) dL_law_491 ?_
        refine lq_goto C 3491 (by decide) dL_law_496 ?_
        exact lq_sub [2, 6] rfl (law_tail C (Nat.le_of_ble_eq_true rfl) (Nat.le_of_ble_eq_true rfl))
    · obtain ⟨v2, e_v2⟩ : ∃ z : Int32, xs 2 = z := ⟨_, rfl⟩
      obtain ⟨v3, e_v3⟩ : ∃ z : Int32, xs 3 = z := ⟨_, rfl⟩
      obtain ⟨v4, e_v4⟩ : ∃ z : Int32, xs 4 = z := ⟨_, rfl⟩
      obtain ⟨v5, e_v5⟩ : ∃ z : Int32, xs 5 = z := ⟨_, rfl⟩
      refine lq_aload_n C (i := 1) rfl 3 rfl dL_law_443 ?_
      refine lq_aload_n C (i := 0) rfl 4 rfl dL_law_444 ?_
      refine lq_iload C 0 rfl dL_law_445 ?_
      refine lq_iconst C (x := nI 1) rfl dL_law_447 ?_
      refine lq_iadd C dL_law_448 ?_
      refine lq_cast (.int (nI 1)) (congrArg Value.int (by decide)) ?_
      refine lq_sld C 1 (by decide) (by decide) dL_law_449 ?_
      refine lq_cast (.int (nI v1)) (congrArg Value.int e_v1) ?_
      refine lq_aload_n C (i := 3) rfl 1 rfl dL_law_450 ?_
      refine lq_callW C (z42_L_text l hlt S dp x out v1 (by omega) (by omega) Fm_x Fk_x) lH_206 rfl rfl ⟨by decide, by decide⟩ ⟨Nat.le_of_ble_eq_true rfl, Nat.le_of_ble_eq_true rfl⟩ rfl (Nat.le_of_ble_eq_true rfl) dL_law_451 (fun r_451 u_451 h_451 => ?_)
      obtain ⟨hr_451, hu_451⟩ := h_451
      have hw_451 := hu_451.symm
      subst hw_451
      have hx_451 := hr_451.symm
      subst hx_451
      refine lq_istore C (lv' := [(5, .int (nI 1)), (4, .int (nI 0)), (3, .ref out), (2, .ref (a 0)), (1, .ref x), (0, .ref b)]) (by decide) rfl dL_law_454 ?_
      refine lq_aload_n C (i := 2) rfl 3 rfl dL_law_456 ?_
      refine lq_aload_n C (i := 0) rfl 5 rfl dL_law_457 ?_
      refine lq_iload C 1 rfl dL_law_458 ?_
      refine lq_iconst C (x := nI 1) rfl dL_law_460 ?_
      refine lq_iadd C dL_law_461 ?_
      refine lq_cast (.int (nI 1)) (congrArg Value.int (by decide)) ?_
      refine lq_sld C 1 (by decide) (by decide) dL_law_462 ?_
      refine lq_cast (.int (nI v1)) (congrArg Value.int e_v1) ?_
      refine lq_doM C (w23_text l v f g v1 (by omega) (by omega)) lM_209 rfl rfl ⟨by decide, by decide⟩ ⟨Nat.le_of_ble_eq_true rfl, Nat.le_of_ble_eq_true rfl⟩ rfl (Nat.le_of_ble_eq_true rfl) dL_law_463 ?_
      refine lq_istore C (lv' := [(6, .int (nI 0)), (5, .int (nI 1)), (4, .int (nI 0)), (3, .ref out), (2, .ref (a 0)), (1, .ref x), (0, .ref b)]) (by decide) rfl dL_law_466 ?_
      refine lq_aload_n C (i := 2) rfl 4 rfl dL_law_468 ?_
      refine lq_doM C (w4_thrown l (upd v 99 (nI 1)) f g rfl) lM_192 rfl rfl ⟨by decide, by decide⟩ ⟨Nat.le_of_ble_eq_true rfl, Nat.le_of_ble_eq_true rfl⟩ rfl (Nat.le_of_ble_eq_true rfl) dL_law_469 ?_
      refine lq_iload C 1 rfl dL_law_472 ?_
      refine lq_icmp_eq C 479 (by decide) dL_law_474 (fun _ => ?_) (fun c_ => absurd (by decide) c_)
      refine lq_iload C 1 rfl dL_law_479 ?_
      refine lq_if_ne C 496 (by decide) dL_law_481 (fun _ => ?_) (fun c_ => absurd c_ (by decide))
      refine lq_goto C 3491 (by decide) dL_law_496 ?_
      exact lq_sub [2, 6] rfl (law_tail C (Nat.le_of_ble_eq_true rfl) (Nat.le_of_ble_eq_true rfl))
set_option maxHeartbeats 8000000 in
set_option maxRecDepth 100000 in
theorem law_case5 (C : lC p l s m meth c b 6 xs D Y tp dp) {S : cS} {a : Nat → Nat} {v : Nat → Int32} {f : Nat → Nat → Int32} {g : Nat → Nat → Int64} {x out q1 q2 q3 q10 q11 q15 q19 q20 q21 q22 q23 q29 q30 q37 : Nat} (F : cFr S dp x out q1 q2 q3 q10 q11 q15 q19 q20 q21 q22 q23 q29 q30 q37) (M : mFr v f g) : lG p l e s m below meth c b D Y 174 409927 499 [(4, .int (nI 0)), (3, .ref out), (2, .ref (a 0)), (1, .ref x), (0, .ref b)] [] S a v f g := by
  have hlt := C.2.2.2.2.2.2.2.2.2.2.1
  obtain ⟨FeI_q30_0, FeI_q30_1, Fi_195_q23, Fi_289_q11, Fi_289_q15, Fi_289_q2, Fi_33_q37, Fi_361_x, Fi_366_x, Fi_368_x, Fi_369_x, Fi_36_q37, Fi_370_x, Fi_37_q37, Fi_384_q19, Fi_384_q22, Fi_386_q19, Fi_386_q21, Fi_386_q22, Fk_out, Fk_q1, Fk_q10, Fk_q11, Fk_q15, Fk_q19, Fk_q2, Fk_q20, Fk_q21, Fk_q22, Fk_q23, Fk_q29, Fk_q3, Fk_q30, Fk_q37, Fk_x, Fm_out, Fm_q1, Fm_q10, Fm_q11, Fm_q15, Fm_q19, Fm_q2, Fm_q20, Fm_q21, Fm_q22, Fm_q23, Fm_q29, Fm_q3, Fm_q30, Fm_q37, Fm_x, Fn_out, Fn_q3, Fn_q30, Fr_224_q29, Fr_288_q2, Fr_321_q20, Fr_352_x, Fr_353_x, Fr_354_x, Fr_355_x, Fr_356_x, Fr_358_x, Fr_359_x, Fr_360_x, Fr_362_x, Fr_364_x, Fr_365_x, Fr_385_q19, Fr_385_q22, Fr_3_q10, Fr_4_q10, Fr_96_q1⟩ := F
  obtain ⟨Mall_21, Mall_22, Mf_29_0, Mf_29_1, Mf_29_2, Mf_29_3, Mf_29_4, Mf_49_0, Mf_49_1, Mf_8_0, Mf_8_1, Mg_7_0, Mg_7_1, Mg_7_10, Mg_7_11, Mg_7_12, Mg_7_13, Mg_7_14, Mg_7_15, Mg_7_16, Mg_7_17, Mg_7_18, Mg_7_19, Mg_7_2, Mg_7_20, Mg_7_21, Mg_7_22, Mg_7_23, Mg_7_24, Mg_7_25, Mg_7_26, Mg_7_27, Mg_7_28, Mg_7_29, Mg_7_3, Mg_7_30, Mg_7_31, Mg_7_32, Mg_7_33, Mg_7_34, Mg_7_35, Mg_7_36, Mg_7_37, Mg_7_38, Mg_7_39, Mg_7_4, Mg_7_5, Mg_7_6, Mg_7_7, Mg_7_8, Mg_7_9, Mv_13, Mv_14, Mv_2, Mv_20, Mv_29, Mv_34, Mv_35, Mv_40, Mv_48, Mv_49, Mv_72, Mv_88, Mv_89, Mv_90, Mv_96, Mv_97, Mv_98⟩ := M
  rcases c_sgn (xs 1) with hneg_v1 | ⟨v1, hr_v1, e_v1⟩
  · obtain ⟨v1, e_v1⟩ : ∃ z : Int32, xs 1 = z := ⟨_, rfl⟩
    rw [e_v1] at hneg_v1
    obtain ⟨v2, e_v2⟩ : ∃ z : Int32, xs 2 = z := ⟨_, rfl⟩
    obtain ⟨v3, e_v3⟩ : ∃ z : Int32, xs 3 = z := ⟨_, rfl⟩
    obtain ⟨v4, e_v4⟩ : ∃ z : Int32, xs 4 = z := ⟨_, rfl⟩
    obtain ⟨v5, e_v5⟩ : ∃ z : Int32, xs 5 = z := ⟨_, rfl⟩
    refine lq_aload_n C (i := 1) rfl 3 rfl dL_law_499 ?_
    refine lq_aload_n C (i := 0) rfl 4 rfl dL_law_500 ?_
    refine lq_iload C 0 rfl dL_law_501 ?_
    refine lq_iconst C (x := nI 1) rfl dL_law_503 ?_
    refine lq_iadd C dL_law_504 ?_
    refine lq_cast (.int (nI 1)) (congrArg Value.int (by decide)) ?_
    refine lq_sld C 1 (by decide) (by decide) dL_law_505 ?_
    refine lq_cast (.int v1) (congrArg Value.int e_v1) ?_
    refine lq_aload_n C (i := 0) rfl 4 rfl dL_law_506 ?_
    refine lq_iload C 0 rfl dL_law_507 ?_
    refine lq_iconst C (x := nI 2) rfl dL_law_509 ?_
    refine lq_iadd C dL_law_510 ?_
    refine lq_cast (.int (nI 2)) (congrArg Value.int (by decide)) ?_
    refine lq_sld C 2 (by decide) (by decide) dL_law_511 ?_
    refine lq_cast (.int v2) (congrArg Value.int e_v2) ?_
    refine lq_callW C (z44_L_columns l hlt S dp x v1 v2 hneg_v1 Fm_x Fk_x) lH_210 rfl rfl ⟨by decide, by decide⟩ ⟨Nat.le_of_ble_eq_true rfl, Nat.le_of_ble_eq_true rfl⟩ rfl (Nat.le_of_ble_eq_true rfl) dL_law_512 (fun r_512 u_512 h_512 => ?_)
    obtain ⟨hr_512, hu_512⟩ := h_512
    have hw_512 := hu_512.symm
    subst hw_512
    have hx_512 := hr_512.symm
    subst hx_512
    refine lq_istore C (lv' := [(5, .int (nI 1)), (4, .int (nI 0)), (3, .ref out), (2, .ref (a 0)), (1, .ref x), (0, .ref b)]) (by decide) rfl dL_law_515 ?_
    refine lq_aload_n C (i := 2) rfl 3 rfl dL_law_517 ?_
    refine lq_aload_n C (i := 0) rfl 5 rfl dL_law_518 ?_
    refine lq_iload C 1 rfl dL_law_519 ?_
    refine lq_iconst C (x := nI 1) rfl dL_law_521 ?_
    refine lq_iadd C dL_law_522 ?_
    refine lq_cast (.int (nI 1)) (congrArg Value.int (by decide)) ?_
    refine lq_sld C 1 (by decide) (by decide) dL_law_523 ?_
    refine lq_cast (.int v1) (congrArg Value.int e_v1) ?_
    refine lq_aload_n C (i := 0) rfl 5 rfl dL_law_524 ?_
    refine lq_iload C 1 rfl dL_law_525 ?_
    refine lq_iconst C (x := nI 2) rfl dL_law_527 ?_
    refine lq_iadd C dL_law_528 ?_
    refine lq_cast (.int (nI 2)) (congrArg Value.int (by decide)) ?_
    refine lq_sld C 2 (by decide) (by decide) dL_law_529 ?_
    refine lq_cast (.int v2) (congrArg Value.int e_v2) ?_
    refine lq_doMv C (w25_columns l v f g v1 v2 hneg_v1) lM_213 rfl rfl ⟨by decide, by decide⟩ ⟨Nat.le_of_ble_eq_true rfl, Nat.le_of_ble_eq_true rfl⟩ rfl (Nat.le_of_ble_eq_true rfl) dL_law_530 ?_
    refine lq_aload_n C (i := 2) rfl 3 rfl dL_law_533 ?_
    refine lq_doM C (w4_thrown l (upd v 99 (nI 1)) f g rfl) lM_192 rfl rfl ⟨by decide, by decide⟩ ⟨Nat.le_of_ble_eq_true rfl, Nat.le_of_ble_eq_true rfl⟩ rfl (Nat.le_of_ble_eq_true rfl) dL_law_534 ?_
    refine lq_iload C 0 rfl dL_law_537 ?_
    refine lq_icmp_eq C 544 (by decide) dL_law_539 (fun _ => ?_) (fun c_ => absurd (by decide) c_)
    refine lq_goto C 3491 (by decide) dL_law_544 ?_
    exact lq_sub [1, 5] rfl (law_tail C (Nat.le_of_ble_eq_true rfl) (Nat.le_of_ble_eq_true rfl))
  · rcases Nat.lt_or_ge v1 10 with hlt_v1 | hlt_v1
    · rcases c_sgn (xs 2) with hneg_v2 | ⟨v2, hr_v2, e_v2⟩
      · obtain ⟨v2, e_v2⟩ : ∃ z : Int32, xs 2 = z := ⟨_, rfl⟩
        rw [e_v2] at hneg_v2
        obtain ⟨v3, e_v3⟩ : ∃ z : Int32, xs 3 = z := ⟨_, rfl⟩
        obtain ⟨v4, e_v4⟩ : ∃ z : Int32, xs 4 = z := ⟨_, rfl⟩
        obtain ⟨v5, e_v5⟩ : ∃ z : Int32, xs 5 = z := ⟨_, rfl⟩
        refine lq_aload_n C (i := 1) rfl 3 rfl dL_law_499 ?_
        refine lq_aload_n C (i := 0) rfl 4 rfl dL_law_500 ?_
        refine lq_iload C 0 rfl dL_law_501 ?_
        refine lq_iconst C (x := nI 1) rfl dL_law_503 ?_
        refine lq_iadd C dL_law_504 ?_
        refine lq_cast (.int (nI 1)) (congrArg Value.int (by decide)) ?_
        refine lq_sld C 1 (by decide) (by decide) dL_law_505 ?_
        refine lq_cast (.int (nI v1)) (congrArg Value.int e_v1) ?_
        refine lq_aload_n C (i := 0) rfl 4 rfl dL_law_506 ?_
        refine lq_iload C 0 rfl dL_law_507 ?_
        refine lq_iconst C (x := nI 2) rfl dL_law_509 ?_
        refine lq_iadd C dL_law_510 ?_
        refine lq_cast (.int (nI 2)) (congrArg Value.int (by decide)) ?_
        refine lq_sld C 2 (by decide) (by decide) dL_law_511 ?_
        refine lq_cast (.int v2) (congrArg Value.int e_v2) ?_
        refine lq_callW C (z46_L_columns l hlt S dp x v1 v2 (by omega) hneg_v2 Fm_x Fk_x) lH_210 rfl rfl ⟨by decide, by decide⟩ ⟨Nat.le_of_ble_eq_true rfl, Nat.le_of_ble_eq_true rfl⟩ rfl (Nat.le_of_ble_eq_true rfl) dL_law_512 (fun r_512 u_512 h_512 => ?_)
        obtain ⟨hr_512, hu_512⟩ := h_512
        have hw_512 := hu_512.symm
        subst hw_512
        have hx_512 := hr_512.symm
        subst hx_512
        refine lq_istore C (lv' := [(5, .int (nI 1)), (4, .int (nI 0)), (3, .ref out), (2, .ref (a 0)), (1, .ref x), (0, .ref b)]) (by decide) rfl dL_law_515 ?_
        refine lq_aload_n C (i := 2) rfl 3 rfl dL_law_517 ?_
        refine lq_aload_n C (i := 0) rfl 5 rfl dL_law_518 ?_
        refine lq_iload C 1 rfl dL_law_519 ?_
        refine lq_iconst C (x := nI 1) rfl dL_law_521 ?_
        refine lq_iadd C dL_law_522 ?_
        refine lq_cast (.int (nI 1)) (congrArg Value.int (by decide)) ?_
        refine lq_sld C 1 (by decide) (by decide) dL_law_523 ?_
        refine lq_cast (.int (nI v1)) (congrArg Value.int e_v1) ?_
        refine lq_aload_n C (i := 0) rfl 5 rfl dL_law_524 ?_
        refine lq_iload C 1 rfl dL_law_525 ?_
        refine lq_iconst C (x := nI 2) rfl dL_law_527 ?_
        refine lq_iadd C dL_law_528 ?_
        refine lq_cast (.int (nI 2)) (congrArg Value.int (by decide)) ?_
        refine lq_sld C 2 (by decide) (by decide) dL_law_529 ?_
        refine lq_cast (.int v2) (congrArg Value.int e_v2) ?_
        refine lq_doMv C (w28_columns l v f g v1 v2 (by omega) hneg_v2) lM_213 rfl rfl ⟨by decide, by decide⟩ ⟨Nat.le_of_ble_eq_true rfl, Nat.le_of_ble_eq_true rfl⟩ rfl (Nat.le_of_ble_eq_true rfl) dL_law_530 ?_
        refine lq_aload_n C (i := 2) rfl 3 rfl dL_law_533 ?_
        refine lq_doM C (w4_thrown l (upd v 99 (nI 1)) f g rfl) lM_192 rfl rfl ⟨by decide, by decide⟩ ⟨Nat.le_of_ble_eq_true rfl, Nat.le_of_ble_eq_true rfl⟩ rfl (Nat.le_of_ble_eq_true rfl) dL_law_534 ?_
        refine lq_iload C 0 rfl dL_law_537 ?_
        refine lq_icmp_eq C 544 (by decide) dL_law_539 (fun _ => ?_) (fun c_ => absurd (by decide) c_)
        refine lq_goto C 3491 (by decide) dL_law_544 ?_
        exact lq_sub [1, 5] rfl (law_tail C (Nat.le_of_ble_eq_true rfl) (Nat.le_of_ble_eq_true rfl))
      · rcases Nat.lt_or_ge v2 1000 with hlt_v2 | hlt_v2
        · obtain ⟨v3, e_v3⟩ : ∃ z : Int32, xs 3 = z := ⟨_, rfl⟩
          obtain ⟨v4, e_v4⟩ : ∃ z : Int32, xs 4 = z := ⟨_, rfl⟩
          obtain ⟨v5, e_v5⟩ : ∃ z : Int32, xs 5 = z := ⟨_, rfl⟩
          refine lq_aload_n C (i := 1) rfl 3 rfl dL_law_499 ?_
          refine lq_aload_n C (i := 0) rfl 4 rfl dL_law_500 ?_
          refine lq_iload C 0 rfl dL_law_501 ?_
          refine lq_iconst C (x := nI 1) rfl dL_law_503 ?_
          refine lq_iadd C dL_law_504 ?_
          refine lq_cast (.int (nI 1)) (congrArg Value.int (by decide)) ?_
          refine lq_sld C 1 (by decide) (by decide) dL_law_505 ?_
          refine lq_cast (.int (nI v1)) (congrArg Value.int e_v1) ?_
          refine lq_aload_n C (i := 0) rfl 4 rfl dL_law_506 ?_
          refine lq_iload C 0 rfl dL_law_507 ?_
          refine lq_iconst C (x := nI 2) rfl dL_law_509 ?_
          refine lq_iadd C dL_law_510 ?_
          refine lq_cast (.int (nI 2)) (congrArg Value.int (by decide)) ?_
          refine lq_sld C 2 (by decide) (by decide) dL_law_511 ?_
          refine lq_cast (.int (nI v2)) (congrArg Value.int e_v2) ?_
          refine lq_callW C (z48_L_columns l hlt S dp x q10 v1 v2 (by omega) (by omega) Fr_353_x Fk_x Fm_x Fk_q10 Fm_q10) lH_210 rfl rfl ⟨by decide, by decide⟩ ⟨Nat.le_of_ble_eq_true rfl, Nat.le_of_ble_eq_true rfl⟩ rfl (Nat.le_of_ble_eq_true rfl) dL_law_512 (fun r_512 u_512 h_512 => ?_)
          obtain ⟨S1, hS1, S2, hS2, hr_512, hu_512⟩ := h_512
          have hw_512 := hu_512.symm
          subst hw_512
          have hx_512 := hr_512.symm
          subst hx_512
          refine lq_istore C (lv' := [(5, .int (nI 0)), (4, .int (nI 0)), (3, .ref out), (2, .ref (a 0)), (1, .ref x), (0, .ref b)]) (by decide) rfl dL_law_515 ?_
          refine lq_aload_n C (i := 2) rfl 3 rfl dL_law_517 ?_
          refine lq_aload_n C (i := 0) rfl 5 rfl dL_law_518 ?_
          refine lq_iload C 1 rfl dL_law_519 ?_
          refine lq_iconst C (x := nI 1) rfl dL_law_521 ?_
          refine lq_iadd C dL_law_522 ?_
          refine lq_cast (.int (nI 1)) (congrArg Value.int (by decide)) ?_
          refine lq_sld C 1 (by decide) (by decide) dL_law_523 ?_
          refine lq_cast (.int (nI v1)) (congrArg Value.int e_v1) ?_
          refine lq_aload_n C (i := 0) rfl 5 rfl dL_law_524 ?_
          refine lq_iload C 1 rfl dL_law_525 ?_
          refine lq_iconst C (x := nI 2) rfl dL_law_527 ?_
          refine lq_iadd C dL_law_528 ?_
          refine lq_cast (.int (nI 2)) (congrArg Value.int (by decide)) ?_
          refine lq_sld C 2 (by decide) (by decide) dL_law_529 ?_
          refine lq_cast (.int (nI v2)) (congrArg Value.int e_v2) ?_
          refine lq_doMv C (w31_columns l v f g v1 v2 (by omega) (by omega)) lM_213 rfl rfl ⟨by decide, by decide⟩ ⟨Nat.le_of_ble_eq_true rfl, Nat.le_of_ble_eq_true rfl⟩ rfl (Nat.le_of_ble_eq_true rfl) dL_law_530 ?_
          refine lq_aload_n C (i := 2) rfl 3 rfl dL_law_533 ?_
          refine lq_doM C (w8_thrown l (upd (upd (upd v 99 (nI 0)) 13 (nI v1)) 14 (nI v2)) f g rfl) lM_192 rfl rfl ⟨by decide, by decide⟩ ⟨Nat.le_of_ble_eq_true rfl, Nat.le_of_ble_eq_true rfl⟩ rfl (Nat.le_of_ble_eq_true rfl) dL_law_534 ?_
          refine lq_iload C 0 rfl dL_law_537 ?_
          refine lq_icmp_eq C 544 (by decide) dL_law_539 (fun _ => ?_) (fun c_ => absurd (by decide) c_)
          refine lq_goto C 3491 (by decide) dL_law_544 ?_
          exact lq_sub [1, 5] rfl (law_tail C (Nat.le_of_ble_eq_true rfl) (Nat.le_of_ble_eq_true rfl))
        · obtain ⟨v3, e_v3⟩ : ∃ z : Int32, xs 3 = z := ⟨_, rfl⟩
          obtain ⟨v4, e_v4⟩ : ∃ z : Int32, xs 4 = z := ⟨_, rfl⟩
          obtain ⟨v5, e_v5⟩ : ∃ z : Int32, xs 5 = z := ⟨_, rfl⟩
          refine lq_aload_n C (i := 1) rfl 3 rfl dL_law_499 ?_
          refine lq_aload_n C (i := 0) rfl 4 rfl dL_law_500 ?_
          refine lq_iload C 0 rfl dL_law_501 ?_
          refine lq_iconst C (x := nI 1) rfl dL_law_503 ?_
          refine lq_iadd C dL_law_504 ?_
          refine lq_cast (.int (nI 1)) (congrArg Value.int (by decide)) ?_
          refine lq_sld C 1 (by decide) (by decide) dL_law_505 ?_
          refine lq_cast (.int (nI v1)) (congrArg Value.int e_v1) ?_
          refine lq_aload_n C (i := 0) rfl 4 rfl dL_law_506 ?_
          refine lq_iload C 0 rfl dL_law_507 ?_
          refine lq_iconst C (x := nI 2) rfl dL_law_509 ?_
          refine lq_iadd C dL_law_510 ?_
          refine lq_cast (.int (nI 2)) (congrArg Value.int (by decide)) ?_
          refine lq_sld C 2 (by decide) (by decide) dL_law_511 ?_
          refine lq_cast (.int (nI v2)) (congrArg Value.int e_v2) ?_
          refine lq_callW C (z50_L_columns l hlt S dp x v1 v2 (by omega) (by omega) (by omega) Fm_x Fk_x) lH_210 rfl rfl ⟨by decide, by decide⟩ ⟨Nat.le_of_ble_eq_true rfl, Nat.le_of_ble_eq_true rfl⟩ rfl (Nat.le_of_ble_eq_true rfl) dL_law_512 (fun r_512 u_512 h_512 => ?_)
          obtain ⟨hr_512, hu_512⟩ := h_512
          have hw_512 := hu_512.symm
          subst hw_512
          have hx_512 := hr_512.symm
          subst hx_512
          refine lq_istore C (lv' := [(5, .int (nI 1)), (4, .int (nI 0)), (3, .ref out), (2, .ref (a 0)), (1, .ref x), (0, .ref b)]) (by decide) rfl dL_law_515 ?_
          refine lq_aload_n C (i := 2) rfl 3 rfl dL_law_517 ?_
          refine lq_aload_n C (i := 0) rfl 5 rfl dL_law_518 ?_
          refine lq_iload C 1 rfl dL_law_519 ?_
          refine lq_iconst C (x := nI 1) rfl dL_law_521 ?_
          refine lq_iadd C dL_law_522 ?_
          refine lq_cast (.int (nI 1)) (congrArg Value.int (by decide)) ?_
          refine lq_sld C 1 (by decide) (by decide) dL_law_523 ?_
          refine lq_cast (.int (nI v1)) (congrArg Value.int e_v1) ?_
          refine lq_aload_n C (i := 0) rfl 5 rfl dL_law_524 ?_
          refine lq_iload C 1 rfl dL_law_525 ?_
          refine lq_iconst C (x := nI 2) rfl dL_law_527 ?_
          refine lq_iadd C dL_law_528 ?_
          refine lq_cast (.int (nI 2)) (congrArg Value.int (by decide)) ?_
          refine lq_sld C 2 (by decide) (by decide) dL_law_529 ?_
          refine lq_cast (.int (nI v2)) (congrArg Value.int e_v2) ?_
          refine lq_doMv C (w33_columns l v f g v1 v2 (by omega) (by omega) (by omega)) lM_213 rfl rfl ⟨by decide, by decide⟩ ⟨Nat.le_of_ble_eq_true rfl, Nat.le_of_ble_eq_true rfl⟩ rfl (Nat.le_of_ble_eq_true rfl) dL_law_530 ?_
          refine lq_aload_n C (i := 2) rfl 3 rfl dL_law_533 ?_
          refine lq_doM C (w4_thrown l (upd v 99 (nI 1)) f g rfl) lM_192 rfl rfl ⟨by decide, by decide⟩ ⟨Nat.le_of_ble_eq_true rfl, Nat.le_of_ble_eq_true rfl⟩ rfl (Nat.le_of_ble_eq_true rfl) dL_law_534 ?_
          refine lq_iload C 0 rfl dL_law_537 ?_
          refine lq_icmp_eq C 544 (by decide) dL_law_539 (fun _ => ?_) (fun c_ => absurd (by decide) c_)
          refine lq_goto C 3491 (by decide) dL_law_544 ?_
          exact lq_sub [1, 5] rfl (law_tail C (Nat.le_of_ble_eq_true rfl) (Nat.le_of_ble_eq_true rfl))
    · obtain ⟨v2, e_v2⟩ : ∃ z : Int32, xs 2 = z := ⟨_, rfl⟩
      obtain ⟨v3, e_v3⟩ : ∃ z : Int32, xs 3 = z := ⟨_, rfl⟩
      obtain ⟨v4, e_v4⟩ : ∃ z : Int32, xs 4 = z := ⟨_, rfl⟩
      obtain ⟨v5, e_v5⟩ : ∃ z : Int32, xs 5 = z := ⟨_, rfl⟩
      refine lq_aload_n C (i := 1) rfl 3 rfl dL_law_499 ?_
      refine lq_aload_n C (i := 0) rfl 4 rfl dL_law_500 ?_
      refine lq_iload C 0 rfl dL_law_501 ?_
      refine lq_iconst C (x := nI 1) rfl dL_law_503 ?_
      refine lq_iadd C dL_law_504 ?_
      refine lq_cast (.int (nI 1)) (congrArg Value.int (by decide)) ?_
      refine lq_sld C 1 (by decide) (by decide) dL_law_505 ?_
      refine lq_cast (.int (nI v1)) (congrArg Value.int e_v1) ?_
      refine lq_aload_n C (i := 0) rfl 4 rfl dL_law_506 ?_
      refine lq_iload C 0 rfl dL_law_507 ?_
      refine lq_iconst C (x := nI 2) rfl dL_law_509 ?_
      refine lq_iadd C dL_law_510 ?_
      refine lq_cast (.int (nI 2)) (congrArg Value.int (by decide)) ?_
      refine lq_sld C 2 (by decide) (by decide) dL_law_511 ?_
      refine lq_cast (.int v2) (congrArg Value.int e_v2) ?_
      refine lq_callW C (z52_L_columns l hlt S dp x v1 v2 (by omega) (by omega) Fm_x Fk_x) lH_210 rfl rfl ⟨by decide, by decide⟩ ⟨Nat.le_of_ble_eq_true rfl, Nat.le_of_ble_eq_true rfl⟩ rfl (Nat.le_of_ble_eq_true rfl) dL_law_512 (fun r_512 u_512 h_512 => ?_)
      obtain ⟨hr_512, hu_512⟩ := h_512
      have hw_512 := hu_512.symm
      subst hw_512
      have hx_512 := hr_512.symm
      subst hx_512
      refine lq_istore C (lv' := [(5, .int (nI 1)), (4, .int (nI 0)), (3, .ref out), (2, .ref (a 0)), (1, .ref x), (0, .ref b)]) (by decide) rfl dL_law_515 ?_
      refine lq_aload_n C (i := 2) rfl 3 rfl dL_law_517 ?_
      refine lq_aload_n C (i := 0) rfl 5 rfl dL_law_518 ?_
      refine lq_iload C 1 rfl dL_law_519 ?_
      refine lq_iconst C (x := nI 1) rfl dL_law_521 ?_
      refine lq_iadd C dL_law_522 ?_
      refine lq_cast (.int (nI 1)) (congrArg Value.int (by decide)) ?_
      refine lq_sld C 1 (by decide) (by decide) dL_law_523 ?_
      refine lq_cast (.int (nI v1)) (congrArg Value.int e_v1) ?_
      refine lq_aload_n C (i := 0) rfl 5 rfl dL_law_524 ?_
      refine lq_iload C 1 rfl dL_law_525 ?_
      refine lq_iconst C (x := nI 2) rfl dL_law_527 ?_
      refine lq_iadd C dL_law_528 ?_
      refine lq_cast (.int (nI 2)) (congrArg Value.int (by decide)) ?_
      refine lq_sld C 2 (by decide) (by decide) dL_law_529 ?_
      refine lq_cast (.int v2) (congrArg Value.int e_v2) ?_
      refine lq_doMv C (w35_columns l v f g v1 v2 (by omega) (by omega)) lM_213 rfl rfl ⟨by decide, by decide⟩ ⟨Nat.le_of_ble_eq_true rfl, Nat.le_of_ble_eq_true rfl⟩ rfl (Nat.le_of_ble_eq_true rfl) dL_law_530 ?_
      refine lq_aload_n C (i := 2) rfl 3 rfl dL_law_533 ?_
      refine lq_doM C (w4_thrown l (upd v 99 (nI 1)) f g rfl) lM_192 rfl rfl ⟨by decide, by decide⟩ ⟨Nat.le_of_ble_eq_true rfl, Nat.le_of_ble_eq_true rfl⟩ rfl (Nat.le_of_ble_eq_true rfl) dL_law_534 ?_
      refine lq_iload C 0 rfl dL_law_537 ?_
      refine lq_icmp_eq C 544 (by decide) dL_law_539 (fun _ => ?_) (fun c_ => absurd (by decide) c_)
      refine lq_goto C 3491 (by decide) dL_law_544 ?_
      exact lq_sub [1, 5] rfl (law_tail C (Nat.le_of_ble_eq_true rfl) (Nat.le_of_ble_eq_true rfl))
set_option maxHeartbeats 8000000 in
set_option maxRecDepth 100000 in
theorem law_case6 (C : lC p l s m meth c b 6 xs D Y tp dp) {S : cS} {a : Nat → Nat} {v : Nat → Int32} {f : Nat → Nat → Int32} {g : Nat → Nat → Int64} {x out q1 q2 q3 q10 q11 q15 q19 q20 q21 q22 q23 q29 q30 q37 : Nat} (F : cFr S dp x out q1 q2 q3 q10 q11 q15 q19 q20 q21 q22 q23 q29 q30 q37) (M : mFr v f g) : lG p l e s m below meth c b D Y 174 409927 547 [(4, .int (nI 0)), (3, .ref out), (2, .ref (a 0)), (1, .ref x), (0, .ref b)] [] S a v f g := by
  have hlt := C.2.2.2.2.2.2.2.2.2.2.1
  obtain ⟨FeI_q30_0, FeI_q30_1, Fi_195_q23, Fi_289_q11, Fi_289_q15, Fi_289_q2, Fi_33_q37, Fi_361_x, Fi_366_x, Fi_368_x, Fi_369_x, Fi_36_q37, Fi_370_x, Fi_37_q37, Fi_384_q19, Fi_384_q22, Fi_386_q19, Fi_386_q21, Fi_386_q22, Fk_out, Fk_q1, Fk_q10, Fk_q11, Fk_q15, Fk_q19, Fk_q2, Fk_q20, Fk_q21, Fk_q22, Fk_q23, Fk_q29, Fk_q3, Fk_q30, Fk_q37, Fk_x, Fm_out, Fm_q1, Fm_q10, Fm_q11, Fm_q15, Fm_q19, Fm_q2, Fm_q20, Fm_q21, Fm_q22, Fm_q23, Fm_q29, Fm_q3, Fm_q30, Fm_q37, Fm_x, Fn_out, Fn_q3, Fn_q30, Fr_224_q29, Fr_288_q2, Fr_321_q20, Fr_352_x, Fr_353_x, Fr_354_x, Fr_355_x, Fr_356_x, Fr_358_x, Fr_359_x, Fr_360_x, Fr_362_x, Fr_364_x, Fr_365_x, Fr_385_q19, Fr_385_q22, Fr_3_q10, Fr_4_q10, Fr_96_q1⟩ := F
  obtain ⟨Mall_21, Mall_22, Mf_29_0, Mf_29_1, Mf_29_2, Mf_29_3, Mf_29_4, Mf_49_0, Mf_49_1, Mf_8_0, Mf_8_1, Mg_7_0, Mg_7_1, Mg_7_10, Mg_7_11, Mg_7_12, Mg_7_13, Mg_7_14, Mg_7_15, Mg_7_16, Mg_7_17, Mg_7_18, Mg_7_19, Mg_7_2, Mg_7_20, Mg_7_21, Mg_7_22, Mg_7_23, Mg_7_24, Mg_7_25, Mg_7_26, Mg_7_27, Mg_7_28, Mg_7_29, Mg_7_3, Mg_7_30, Mg_7_31, Mg_7_32, Mg_7_33, Mg_7_34, Mg_7_35, Mg_7_36, Mg_7_37, Mg_7_38, Mg_7_39, Mg_7_4, Mg_7_5, Mg_7_6, Mg_7_7, Mg_7_8, Mg_7_9, Mv_13, Mv_14, Mv_2, Mv_20, Mv_29, Mv_34, Mv_35, Mv_40, Mv_48, Mv_49, Mv_72, Mv_88, Mv_89, Mv_90, Mv_96, Mv_97, Mv_98⟩ := M
  rcases c_sgn (xs 1) with hneg_v1 | ⟨v1, hr_v1, e_v1⟩
  · obtain ⟨v1, e_v1⟩ : ∃ z : Int32, xs 1 = z := ⟨_, rfl⟩
    rw [e_v1] at hneg_v1
    obtain ⟨v2, e_v2⟩ : ∃ z : Int32, xs 2 = z := ⟨_, rfl⟩
    obtain ⟨v3, e_v3⟩ : ∃ z : Int32, xs 3 = z := ⟨_, rfl⟩
    obtain ⟨v4, e_v4⟩ : ∃ z : Int32, xs 4 = z := ⟨_, rfl⟩
    obtain ⟨v5, e_v5⟩ : ∃ z : Int32, xs 5 = z := ⟨_, rfl⟩
    refine lq_aload_n C (i := 1) rfl 3 rfl dL_law_547 ?_
    refine lq_aload_n C (i := 0) rfl 4 rfl dL_law_548 ?_
    refine lq_iload C 0 rfl dL_law_549 ?_
    refine lq_iconst C (x := nI 1) rfl dL_law_551 ?_
    refine lq_iadd C dL_law_552 ?_
    refine lq_cast (.int (nI 1)) (congrArg Value.int (by decide)) ?_
    refine lq_sld C 1 (by decide) (by decide) dL_law_553 ?_
    refine lq_cast (.int v1) (congrArg Value.int e_v1) ?_
    refine lq_aload_n C (i := 3) rfl 1 rfl dL_law_554 ?_
    refine lq_callW C (z55_L_add l hlt S dp x out v1 hneg_v1 Fm_x Fk_x) lH_214 rfl rfl ⟨by decide, by decide⟩ ⟨Nat.le_of_ble_eq_true rfl, Nat.le_of_ble_eq_true rfl⟩ rfl (Nat.le_of_ble_eq_true rfl) dL_law_555 (fun r_555 u_555 h_555 => ?_)
    obtain ⟨hr_555, hu_555⟩ := h_555
    have hw_555 := hu_555.symm
    subst hw_555
    have hx_555 := hr_555.symm
    subst hx_555
    refine lq_istore C (lv' := [(5, .int (nI 1)), (4, .int (nI 0)), (3, .ref out), (2, .ref (a 0)), (1, .ref x), (0, .ref b)]) (by decide) rfl dL_law_558 ?_
    refine lq_aload_n C (i := 2) rfl 3 rfl dL_law_560 ?_
    refine lq_aload_n C (i := 0) rfl 5 rfl dL_law_561 ?_
    refine lq_iload C 1 rfl dL_law_562 ?_
    refine lq_iconst C (x := nI 1) rfl dL_law_564 ?_
    refine lq_iadd C dL_law_565 ?_
    refine lq_cast (.int (nI 1)) (congrArg Value.int (by decide)) ?_
    refine lq_sld C 1 (by decide) (by decide) dL_law_566 ?_
    refine lq_cast (.int v1) (congrArg Value.int e_v1) ?_
    refine lq_doM C (w38_add l v f g v1 hneg_v1 Mv_98 Mv_20) lM_216 rfl rfl ⟨by decide, by decide⟩ ⟨Nat.le_of_ble_eq_true rfl, Nat.le_of_ble_eq_true rfl⟩ rfl (Nat.le_of_ble_eq_true rfl) dL_law_567 ?_
    refine lq_istore C (lv' := [(6, .int (nI 0)), (5, .int (nI 1)), (4, .int (nI 0)), (3, .ref out), (2, .ref (a 0)), (1, .ref x), (0, .ref b)]) (by decide) rfl dL_law_570 ?_
    refine lq_aload_n C (i := 2) rfl 4 rfl dL_law_572 ?_
    refine lq_doM C (w4_thrown l (upd v 99 (nI 1)) f g rfl) lM_192 rfl rfl ⟨by decide, by decide⟩ ⟨Nat.le_of_ble_eq_true rfl, Nat.le_of_ble_eq_true rfl⟩ rfl (Nat.le_of_ble_eq_true rfl) dL_law_573 ?_
    refine lq_iload C 1 rfl dL_law_576 ?_
    refine lq_icmp_eq C 583 (by decide) dL_law_578 (fun _ => ?_) (fun c_ => absurd (by decide) c_)
    refine lq_iload C 1 rfl dL_law_583 ?_
    refine lq_if_ne C 600 (by decide) dL_law_585 (fun _ => ?_) (fun c_ => absurd c_ (by decide))
    refine lq_goto C 3491 (by decide) dL_law_600 ?_
    exact lq_sub [2, 6] rfl (law_tail C (Nat.le_of_ble_eq_true rfl) (Nat.le_of_ble_eq_true rfl))
  · rcases Nat.lt_or_ge v1 100 with hlt_v1 | hlt_v1
    · obtain ⟨v2, e_v2⟩ : ∃ z : Int32, xs 2 = z := ⟨_, rfl⟩
      obtain ⟨v3, e_v3⟩ : ∃ z : Int32, xs 3 = z := ⟨_, rfl⟩
      obtain ⟨v4, e_v4⟩ : ∃ z : Int32, xs 4 = z := ⟨_, rfl⟩
      obtain ⟨v5, e_v5⟩ : ∃ z : Int32, xs 5 = z := ⟨_, rfl⟩
      refine lq_aload_n C (i := 1) rfl 3 rfl dL_law_547 ?_
      refine lq_aload_n C (i := 0) rfl 4 rfl dL_law_548 ?_
      refine lq_iload C 0 rfl dL_law_549 ?_
      refine lq_iconst C (x := nI 1) rfl dL_law_551 ?_
      refine lq_iadd C dL_law_552 ?_
      refine lq_cast (.int (nI 1)) (congrArg Value.int (by decide)) ?_
      refine lq_sld C 1 (by decide) (by decide) dL_law_553 ?_
      refine lq_cast (.int (nI v1)) (congrArg Value.int e_v1) ?_
      refine lq_aload_n C (i := 3) rfl 1 rfl dL_law_554 ?_
      refine lq_callW C (z70_L_add l hlt S dp x out q19 q20 q21 q1 q10 q11 q15 v1 (by omega) Fi_370_x Fk_x Fm_x Fr_354_x Fi_386_q19 Fk_q19 Fm_q19 Fr_355_x Fr_321_q20 Fk_q20 Fm_q20 Fi_386_q21 Fk_q21 Fm_q21 Fr_352_x Fk_q1 Fm_q1 Fr_353_x Fk_q10 Fm_q10 Fr_3_q10 Fi_289_q11 Fk_q11 Fm_q11 Fr_4_q10 Fi_289_q15 Fk_q15 Fm_q15 Fi_384_q19 Fr_385_q19 Fk_out Fm_out Fn_out) lH_214 rfl rfl ⟨by decide, by decide⟩ ⟨Nat.le_of_ble_eq_true rfl, Nat.le_of_ble_eq_true rfl⟩ rfl (Nat.le_of_ble_eq_true rfl) dL_law_555 (fun r_555 u_555 h_555 => ?_)
      obtain ⟨S1, hS1, S2, hS2, S3, hS3, S4, hS4, S5, hS5, S6, hS6, S7, hS7, p1, S8, hf_p1, hS8, S9, hS9, S10, hS10, S11, hS11, p2, S12, hf_p2, hS12, S13, hS13, S14, hS14, S15, hS15, p3, S16, hf_p3, hS16, p4, S17, hf_p4, hS17, S18, hS18, S19, hS19, p5, S20, hf_p5, hS20, S21, hS21, p6, S22, hf_p6, hS22, S23, hS23, S24, hS24, S25, hS25, p7, S26, hf_p7, hS26, p8, S27, hf_p8, hS27, S28, hS28, S29, hS29, p9, S30, hf_p9, hS30, S31, hS31, p10, S32, hf_p10, hS32, S33, hS33, S34, hS34, S35, hS35, S36, hS36, S37, hS37, hr_555, hu_555⟩ := h_555
      have hw_555 := hu_555.symm
      subst hw_555
      have hx_555 := hr_555.symm
      subst hx_555
      refine lq_istore C (lv' := [(5, .int (nI 0)), (4, .int (nI 0)), (3, .ref out), (2, .ref (a 0)), (1, .ref x), (0, .ref b)]) (by decide) rfl dL_law_558 ?_
      refine lq_aload_n C (i := 2) rfl 3 rfl dL_law_560 ?_
      refine lq_aload_n C (i := 0) rfl 5 rfl dL_law_561 ?_
      refine lq_iload C 1 rfl dL_law_562 ?_
      refine lq_iconst C (x := nI 1) rfl dL_law_564 ?_
      refine lq_iadd C dL_law_565 ?_
      refine lq_cast (.int (nI 1)) (congrArg Value.int (by decide)) ?_
      refine lq_sld C 1 (by decide) (by decide) dL_law_566 ?_
      refine lq_cast (.int (nI v1)) (congrArg Value.int e_v1) ?_
      refine lq_doM C (w43_add l v f g v1 (by omega) Mv_98 Mv_20 Mv_34 Mv_13 Mv_14 Mg_7_0 Mg_7_1 Mg_7_2 Mg_7_3 Mg_7_4 Mg_7_5 Mg_7_6 Mg_7_7 Mg_7_8 Mg_7_9 Mg_7_10 Mg_7_11 Mg_7_12 Mg_7_13 Mg_7_14 Mg_7_15 Mg_7_16 Mg_7_17 Mg_7_18 Mg_7_19 Mg_7_20 Mg_7_21 Mg_7_22 Mg_7_23 Mg_7_24 Mg_7_25 Mg_7_26 Mg_7_27 Mg_7_28 Mg_7_29 Mg_7_30 Mg_7_31 Mg_7_32 Mg_7_33 Mg_7_34 Mg_7_35 Mg_7_36 Mg_7_37 Mg_7_38 Mg_7_39 Mf_8_0 Mf_8_1) lM_216 rfl rfl ⟨by decide, by decide⟩ ⟨Nat.le_of_ble_eq_true rfl, Nat.le_of_ble_eq_true rfl⟩ rfl (Nat.le_of_ble_eq_true rfl) dL_law_567 ?_
      refine lq_istore C (lv' := [(6, .int (nI 1)), (5, .int (nI 0)), (4, .int (nI 0)), (3, .ref out), (2, .ref (a 0)), (1, .ref x), (0, .ref b)]) (by decide) rfl dL_law_570 ?_
      refine lq_aload_n C (i := 2) rfl 4 rfl dL_law_572 ?_
      refine lq_doM C (w8_thrown l (upd (upd (upd (upd (upd v 99 (nI 0)) 13 (nI 0)) 14 (nI 0)) 20 (nI 1)) 10 (bI true)) (mU (mU (mU (mU (mU (mU (mU f 9 0 (nI v1)) 10 0 (nI 0)) 11 0 (nI 0)) 13 0 (nI 0)) 8 0 (nI 0)) 13 1 (nI 0)) 8 1 (nI 0)) (mU (mU (mU (mU (mU (mU (mU (mU (mU (mU (mU (mU (mU (mU (mU (mU (mU (mU (mU (mU (mU (mU (mU (mU (mU (mU (mU (mU (mU (mU (mU (mU (mU (mU (mU (mU (mU (mU (mU (mU g 12 0 0) 12 1 0) 12 2 0) 12 3 0) 12 4 0) 12 5 0) 12 6 0) 12 7 0) 12 8 0) 12 9 0) 12 10 0) 12 11 0) 12 12 0) 12 13 0) 12 14 0) 12 15 0) 12 16 0) 12 17 0) 12 18 0) 12 19 0) 12 20 0) 12 21 0) 12 22 0) 12 23 0) 12 24 0) 12 25 0) 12 26 0) 12 27 0) 12 28 0) 12 29 0) 12 30 0) 12 31 0) 12 32 0) 12 33 0) 12 34 0) 12 35 0) 12 36 0) 12 37 0) 12 38 0) 12 39 0) rfl) lM_192 rfl rfl ⟨by decide, by decide⟩ ⟨Nat.le_of_ble_eq_true rfl, Nat.le_of_ble_eq_true rfl⟩ rfl (Nat.le_of_ble_eq_true rfl) dL_law_573 ?_
      refine lq_iload C 1 rfl dL_law_576 ?_
      refine lq_icmp_eq C 583 (by decide) dL_law_578 (fun _ => ?_) (fun c_ => absurd (by decide) c_)
      refine lq_iload C 1 rfl dL_law_583 ?_
      refine lq_if_ne C 600 (by decide) dL_law_585 (fun c_ => absurd (by decide) c_) (fun _ => ?_)
      refine lq_aload_n C (i := 3) rfl 3 rfl dL_law_588 ?_
      refine lq_iconst C (x := nI 0) rfl dL_law_589 ?_
      have f_1 : cK S6 out = 15 := (hk_Si hS6 (hk_Si hS5 (hk_Si hS4 (hk_Si hS3 (hk_Si hS2 (hk_Si hS1 Fk_out))))))
      have f_2 : out ∈ cL S6 := (hm_Si hS6 (hm_Si hS5 (hm_Si hS4 (hm_Si hS3 (hm_Si hS2 (hm_Si hS1 Fm_out))))))
      have f_3 : cK S10 out = 15 := (hk_SO hS10 (hk_Sr hS9 (hk_A hS8 (cm_ne (hm_Si hS7 f_2) hf_p1) (hk_Si hS7 f_1))))
      have f_4 : cK S12 out = 15 := (hk_N hS12 (cm_ne (hm_Si hS11 (hm_SO hS10 (hm_Sr hS9 (hm_A hS8 (hm_Si hS7 f_2))))) hf_p2) (hk_Si hS11 f_3))
      have f_5 : out ∈ cL S12 := (hm_N hS12 (hm_Si hS11 (hm_SO hS10 (hm_Sr hS9 (hm_A hS8 (hm_Si hS7 f_2))))))
      have f_6 : cK S16 out = 15 := (hk_N hS16 (cm_ne (hm_Si hS15 (hm_Si hS14 (hm_Si hS13 f_5))) hf_p3) (hk_Si hS15 (hk_Si hS14 (hk_Si hS13 f_4))))
      have f_7 : cK S17 out = 15 := (hk_A hS17 (cm_ne (hm_N hS16 (hm_Si hS15 (hm_Si hS14 (hm_Si hS13 f_5)))) hf_p4) f_6)
      have f_8 : out ∈ cL S18 := (hm_Sr hS18 (hm_A hS17 (hm_N hS16 (hm_Si hS15 (hm_Si hS14 (hm_Si hS13 f_5))))))
      have f_9 : cK S20 out = 15 := (hk_A hS20 (cm_ne (hm_Si hS19 f_8) hf_p5) (hk_Si hS19 (hk_Sr hS18 f_7)))
      have f_10 : cK S22 out = 15 := (hk_A hS22 (cm_ne (hm_Sr hS21 (hm_A hS20 (hm_Si hS19 f_8))) hf_p6) (hk_Sr hS21 f_9))
      have f_11 : out ∈ cL S24 := (hm_Si hS24 (hm_Sr hS23 (hm_A hS22 (hm_Sr hS21 (hm_A hS20 (hm_Si hS19 f_8))))))
      have f_12 : cK S26 out = 15 := (hk_N hS26 (cm_ne (hm_Sr hS25 f_11) hf_p7) (hk_Sr hS25 (hk_Si hS24 (hk_Sr hS23 f_10))))
      have f_13 : cK S28 out = 15 := (hk_Sr hS28 (hk_A hS27 (cm_ne (hm_N hS26 (hm_Sr hS25 f_11)) hf_p8) f_12))
      have f_14 : cK S30 out = 15 := (hk_A hS30 (cm_ne (hm_Si hS29 (hm_Sr hS28 (hm_A hS27 (hm_N hS26 (hm_Sr hS25 f_11))))) hf_p9) (hk_Si hS29 f_13))
      have f_15 : out ∈ cL S30 := (hm_A hS30 (hm_Si hS29 (hm_Sr hS28 (hm_A hS27 (hm_N hS26 (hm_Sr hS25 f_11))))))
      have f_16 : cK S33 out = 15 := (hk_Sr hS33 (hk_A hS32 (cm_ne (hm_Sr hS31 f_15) hf_p10) (hk_Sr hS31 f_14)))
      have f_17 : cn S6 out = 1 := (hn_Si hS6 (hn_Si hS5 (hn_Si hS4 (hn_Si hS3 (hn_Si hS2 (hn_Si hS1 Fn_out))))))
      have f_18 : cn S10 out = 1 := (hn_SO hS10 (hn_Sr hS9 (hn_A hS8 (cm_ne (hm_Si hS7 f_2) hf_p1) (hn_Si hS7 f_17))))
      have f_19 : cn S16 out = 1 := (hn_N hS16 (hn_Si hS15 (hn_Si hS14 (hn_Si hS13 (hn_N hS12 (hn_Si hS11 f_18))))))
      have f_20 : cn S17 out = 1 := (hn_A hS17 (cm_ne (hm_N hS16 (hm_Si hS15 (hm_Si hS14 (hm_Si hS13 f_5)))) hf_p4) f_19)
      have f_21 : cn S20 out = 1 := (hn_A hS20 (cm_ne (hm_Si hS19 f_8) hf_p5) (hn_Si hS19 (hn_Sr hS18 f_20)))
      have f_22 : cn S22 out = 1 := (hn_A hS22 (cm_ne (hm_Sr hS21 (hm_A hS20 (hm_Si hS19 f_8))) hf_p6) (hn_Sr hS21 f_21))
      have f_23 : cn S27 out = 1 := (hn_A hS27 (cm_ne (hm_N hS26 (hm_Sr hS25 f_11)) hf_p8) (hn_N hS26 (hn_Sr hS25 (hn_Si hS24 (hn_Sr hS23 f_22)))))
      have f_24 : cn S30 out = 1 := (hn_A hS30 (cm_ne (hm_Si hS29 (hm_Sr hS28 (hm_A hS27 (hm_N hS26 (hm_Sr hS25 f_11))))) hf_p9) (hn_Si hS29 (hn_Sr hS28 f_23)))
      have f_25 : cn S33 out = 1 := (hn_Sr hS33 (hn_A hS32 (cm_ne (hm_Sr hS31 f_15) hf_p10) (hn_Sr hS31 f_24)))
      have f_26 : out ∈ cL S36 := (hm_Sr hS36 (hm_Sr hS35 (hm_Si hS34 (hm_Sr hS33 (hm_A hS32 (hm_Sr hS31 f_15))))))
      refine lq_laload C 0 (hm_SJ hS37 f_26) (hk_SJ hS37 (hk_Sr hS36 (hk_Sr hS35 (hk_Si hS34 f_16)))) (by rw [show cn _ _ = 1 from (hn_SJ hS37 (hn_Sr hS36 (hn_Sr hS35 (hn_Si hS34 f_25))))]; decide) (by rw [show cn _ _ = 1 from (hn_SJ hS37 (hn_Sr hS36 (hn_Sr hS35 (hn_Si hS34 f_25))))]; decide) dL_law_590 ?_
      refine lq_cast (.long (((nI 1)).toInt64)) (congrArg Value.long (heJ_SJ_s hS37)) ?_
      refine lq_iload C 0 rfl dL_law_591 ?_
      refine lq_i2l C dL_law_593 ?_
      refine lq_lcmp C dL_law_594 ?_
      refine lq_if_eqL C 600 (by decide) dL_law_595 ?_
      refine lq_goto C 3491 (by decide) dL_law_600 ?_
      exact lq_sub [2, 6] rfl (law_tail C (Nat.le_of_ble_eq_true rfl) (Nat.le_of_ble_eq_true rfl))
    · obtain ⟨v2, e_v2⟩ : ∃ z : Int32, xs 2 = z := ⟨_, rfl⟩
      obtain ⟨v3, e_v3⟩ : ∃ z : Int32, xs 3 = z := ⟨_, rfl⟩
      obtain ⟨v4, e_v4⟩ : ∃ z : Int32, xs 4 = z := ⟨_, rfl⟩
      obtain ⟨v5, e_v5⟩ : ∃ z : Int32, xs 5 = z := ⟨_, rfl⟩
      refine lq_aload_n C (i := 1) rfl 3 rfl dL_law_547 ?_
      refine lq_aload_n C (i := 0) rfl 4 rfl dL_law_548 ?_
      refine lq_iload C 0 rfl dL_law_549 ?_
      refine lq_iconst C (x := nI 1) rfl dL_law_551 ?_
      refine lq_iadd C dL_law_552 ?_
      refine lq_cast (.int (nI 1)) (congrArg Value.int (by decide)) ?_
      refine lq_sld C 1 (by decide) (by decide) dL_law_553 ?_
      refine lq_cast (.int (nI v1)) (congrArg Value.int e_v1) ?_
      refine lq_aload_n C (i := 3) rfl 1 rfl dL_law_554 ?_
      refine lq_callW C (z73_L_add l hlt S dp x out v1 (by omega) (by omega) Fm_x Fk_x) lH_214 rfl rfl ⟨by decide, by decide⟩ ⟨Nat.le_of_ble_eq_true rfl, Nat.le_of_ble_eq_true rfl⟩ rfl (Nat.le_of_ble_eq_true rfl) dL_law_555 (fun r_555 u_555 h_555 => ?_)
      obtain ⟨hr_555, hu_555⟩ := h_555
      have hw_555 := hu_555.symm
      subst hw_555
      have hx_555 := hr_555.symm
      subst hx_555
      refine lq_istore C (lv' := [(5, .int (nI 1)), (4, .int (nI 0)), (3, .ref out), (2, .ref (a 0)), (1, .ref x), (0, .ref b)]) (by decide) rfl dL_law_558 ?_
      refine lq_aload_n C (i := 2) rfl 3 rfl dL_law_560 ?_
      refine lq_aload_n C (i := 0) rfl 5 rfl dL_law_561 ?_
      refine lq_iload C 1 rfl dL_law_562 ?_
      refine lq_iconst C (x := nI 1) rfl dL_law_564 ?_
      refine lq_iadd C dL_law_565 ?_
      refine lq_cast (.int (nI 1)) (congrArg Value.int (by decide)) ?_
      refine lq_sld C 1 (by decide) (by decide) dL_law_566 ?_
      refine lq_cast (.int (nI v1)) (congrArg Value.int e_v1) ?_
      refine lq_doM C (w46_add l v f g v1 (by omega) (by omega) Mv_98 Mv_20) lM_216 rfl rfl ⟨by decide, by decide⟩ ⟨Nat.le_of_ble_eq_true rfl, Nat.le_of_ble_eq_true rfl⟩ rfl (Nat.le_of_ble_eq_true rfl) dL_law_567 ?_
      refine lq_istore C (lv' := [(6, .int (nI 0)), (5, .int (nI 1)), (4, .int (nI 0)), (3, .ref out), (2, .ref (a 0)), (1, .ref x), (0, .ref b)]) (by decide) rfl dL_law_570 ?_
      refine lq_aload_n C (i := 2) rfl 4 rfl dL_law_572 ?_
      refine lq_doM C (w4_thrown l (upd v 99 (nI 1)) f g rfl) lM_192 rfl rfl ⟨by decide, by decide⟩ ⟨Nat.le_of_ble_eq_true rfl, Nat.le_of_ble_eq_true rfl⟩ rfl (Nat.le_of_ble_eq_true rfl) dL_law_573 ?_
      refine lq_iload C 1 rfl dL_law_576 ?_
      refine lq_icmp_eq C 583 (by decide) dL_law_578 (fun _ => ?_) (fun c_ => absurd (by decide) c_)
      refine lq_iload C 1 rfl dL_law_583 ?_
      refine lq_if_ne C 600 (by decide) dL_law_585 (fun _ => ?_) (fun c_ => absurd c_ (by decide))
      refine lq_goto C 3491 (by decide) dL_law_600 ?_
      exact lq_sub [2, 6] rfl (law_tail C (Nat.le_of_ble_eq_true rfl) (Nat.le_of_ble_eq_true rfl))
set_option maxHeartbeats 8000000 in
set_option maxRecDepth 100000 in
theorem law_case7 (C : lC p l s m meth c b 6 xs D Y tp dp) {S : cS} {a : Nat → Nat} {v : Nat → Int32} {f : Nat → Nat → Int32} {g : Nat → Nat → Int64} {x out q1 q2 q3 q10 q11 q15 q19 q20 q21 q22 q23 q29 q30 q37 : Nat} (F : cFr S dp x out q1 q2 q3 q10 q11 q15 q19 q20 q21 q22 q23 q29 q30 q37) (M : mFr v f g) : lG p l e s m below meth c b D Y 174 409927 603 [(4, .int (nI 0)), (3, .ref out), (2, .ref (a 0)), (1, .ref x), (0, .ref b)] [] S a v f g := by
  have hlt := C.2.2.2.2.2.2.2.2.2.2.1
  obtain ⟨FeI_q30_0, FeI_q30_1, Fi_195_q23, Fi_289_q11, Fi_289_q15, Fi_289_q2, Fi_33_q37, Fi_361_x, Fi_366_x, Fi_368_x, Fi_369_x, Fi_36_q37, Fi_370_x, Fi_37_q37, Fi_384_q19, Fi_384_q22, Fi_386_q19, Fi_386_q21, Fi_386_q22, Fk_out, Fk_q1, Fk_q10, Fk_q11, Fk_q15, Fk_q19, Fk_q2, Fk_q20, Fk_q21, Fk_q22, Fk_q23, Fk_q29, Fk_q3, Fk_q30, Fk_q37, Fk_x, Fm_out, Fm_q1, Fm_q10, Fm_q11, Fm_q15, Fm_q19, Fm_q2, Fm_q20, Fm_q21, Fm_q22, Fm_q23, Fm_q29, Fm_q3, Fm_q30, Fm_q37, Fm_x, Fn_out, Fn_q3, Fn_q30, Fr_224_q29, Fr_288_q2, Fr_321_q20, Fr_352_x, Fr_353_x, Fr_354_x, Fr_355_x, Fr_356_x, Fr_358_x, Fr_359_x, Fr_360_x, Fr_362_x, Fr_364_x, Fr_365_x, Fr_385_q19, Fr_385_q22, Fr_3_q10, Fr_4_q10, Fr_96_q1⟩ := F
  obtain ⟨Mall_21, Mall_22, Mf_29_0, Mf_29_1, Mf_29_2, Mf_29_3, Mf_29_4, Mf_49_0, Mf_49_1, Mf_8_0, Mf_8_1, Mg_7_0, Mg_7_1, Mg_7_10, Mg_7_11, Mg_7_12, Mg_7_13, Mg_7_14, Mg_7_15, Mg_7_16, Mg_7_17, Mg_7_18, Mg_7_19, Mg_7_2, Mg_7_20, Mg_7_21, Mg_7_22, Mg_7_23, Mg_7_24, Mg_7_25, Mg_7_26, Mg_7_27, Mg_7_28, Mg_7_29, Mg_7_3, Mg_7_30, Mg_7_31, Mg_7_32, Mg_7_33, Mg_7_34, Mg_7_35, Mg_7_36, Mg_7_37, Mg_7_38, Mg_7_39, Mg_7_4, Mg_7_5, Mg_7_6, Mg_7_7, Mg_7_8, Mg_7_9, Mv_13, Mv_14, Mv_2, Mv_20, Mv_29, Mv_34, Mv_35, Mv_40, Mv_48, Mv_49, Mv_72, Mv_88, Mv_89, Mv_90, Mv_96, Mv_97, Mv_98⟩ := M
  rcases c_sgn (xs 1) with hneg_v1 | ⟨v1, hr_v1, e_v1⟩
  · obtain ⟨v1, e_v1⟩ : ∃ z : Int32, xs 1 = z := ⟨_, rfl⟩
    rw [e_v1] at hneg_v1
    obtain ⟨v2, e_v2⟩ : ∃ z : Int32, xs 2 = z := ⟨_, rfl⟩
    obtain ⟨v3, e_v3⟩ : ∃ z : Int32, xs 3 = z := ⟨_, rfl⟩
    obtain ⟨v4, e_v4⟩ : ∃ z : Int32, xs 4 = z := ⟨_, rfl⟩
    obtain ⟨v5, e_v5⟩ : ∃ z : Int32, xs 5 = z := ⟨_, rfl⟩
    refine lq_aload_n C (i := 1) rfl 3 rfl dL_law_603 ?_
    refine lq_aload_n C (i := 0) rfl 4 rfl dL_law_604 ?_
    refine lq_iload C 0 rfl dL_law_605 ?_
    refine lq_iconst C (x := nI 1) rfl dL_law_607 ?_
    refine lq_iadd C dL_law_608 ?_
    refine lq_cast (.int (nI 1)) (congrArg Value.int (by decide)) ?_
    refine lq_sld C 1 (by decide) (by decide) dL_law_609 ?_
    refine lq_cast (.int v1) (congrArg Value.int e_v1) ?_
    refine lq_aload_n C (i := 3) rfl 1 rfl dL_law_610 ?_
    refine lq_callW C (z75_L_delete l hlt S dp x out v1 hneg_v1 Fm_x Fk_x) lH_217 rfl rfl ⟨by decide, by decide⟩ ⟨Nat.le_of_ble_eq_true rfl, Nat.le_of_ble_eq_true rfl⟩ rfl (Nat.le_of_ble_eq_true rfl) dL_law_611 (fun r_611 u_611 h_611 => ?_)
    obtain ⟨hr_611, hu_611⟩ := h_611
    have hw_611 := hu_611.symm
    subst hw_611
    have hx_611 := hr_611.symm
    subst hx_611
    refine lq_istore C (lv' := [(5, .int (nI 1)), (4, .int (nI 0)), (3, .ref out), (2, .ref (a 0)), (1, .ref x), (0, .ref b)]) (by decide) rfl dL_law_614 ?_
    refine lq_aload_n C (i := 2) rfl 3 rfl dL_law_616 ?_
    refine lq_aload_n C (i := 0) rfl 5 rfl dL_law_617 ?_
    refine lq_iload C 1 rfl dL_law_618 ?_
    refine lq_iconst C (x := nI 1) rfl dL_law_620 ?_
    refine lq_iadd C dL_law_621 ?_
    refine lq_cast (.int (nI 1)) (congrArg Value.int (by decide)) ?_
    refine lq_sld C 1 (by decide) (by decide) dL_law_622 ?_
    refine lq_cast (.int v1) (congrArg Value.int e_v1) ?_
    refine lq_doM C (w47_delete l v f g v1 hneg_v1 Mv_98) lM_219 rfl rfl ⟨by decide, by decide⟩ ⟨Nat.le_of_ble_eq_true rfl, Nat.le_of_ble_eq_true rfl⟩ rfl (Nat.le_of_ble_eq_true rfl) dL_law_623 ?_
    refine lq_istore C (lv' := [(6, .int (bI false)), (5, .int (nI 1)), (4, .int (nI 0)), (3, .ref out), (2, .ref (a 0)), (1, .ref x), (0, .ref b)]) (by decide) rfl dL_law_626 ?_
    refine lq_aload_n C (i := 2) rfl 4 rfl dL_law_628 ?_
    refine lq_doM C (w4_thrown l (upd v 99 (nI 1)) f g rfl) lM_192 rfl rfl ⟨by decide, by decide⟩ ⟨Nat.le_of_ble_eq_true rfl, Nat.le_of_ble_eq_true rfl⟩ rfl (Nat.le_of_ble_eq_true rfl) dL_law_629 ?_
    refine lq_iload C 1 rfl dL_law_632 ?_
    refine lq_icmp_eq C 639 (by decide) dL_law_634 (fun _ => ?_) (fun c_ => absurd (by decide) c_)
    refine lq_iload C 1 rfl dL_law_639 ?_
    refine lq_if_ne C 663 (by decide) dL_law_641 (fun _ => ?_) (fun c_ => absurd c_ (by decide))
    refine lq_goto C 3491 (by decide) dL_law_663 ?_
    exact lq_sub [2, 6] rfl (law_tail C (Nat.le_of_ble_eq_true rfl) (Nat.le_of_ble_eq_true rfl))
  · rcases Nat.lt_or_ge v1 100 with hlt_v1 | hlt_v1
    · obtain ⟨v2, e_v2⟩ : ∃ z : Int32, xs 2 = z := ⟨_, rfl⟩
      obtain ⟨v3, e_v3⟩ : ∃ z : Int32, xs 3 = z := ⟨_, rfl⟩
      obtain ⟨v4, e_v4⟩ : ∃ z : Int32, xs 4 = z := ⟨_, rfl⟩
      obtain ⟨v5, e_v5⟩ : ∃ z : Int32, xs 5 = z := ⟨_, rfl⟩
      refine lq_aload_n C (i := 1) rfl 3 rfl dL_law_603 ?_
      refine lq_aload_n C (i := 0) rfl 4 rfl dL_law_604 ?_
      refine lq_iload C 0 rfl dL_law_605 ?_
      refine lq_iconst C (x := nI 1) rfl dL_law_607 ?_
      refine lq_iadd C dL_law_608 ?_
      refine lq_cast (.int (nI 1)) (congrArg Value.int (by decide)) ?_
      refine lq_sld C 1 (by decide) (by decide) dL_law_609 ?_
      refine lq_cast (.int (nI v1)) (congrArg Value.int e_v1) ?_
      refine lq_aload_n C (i := 3) rfl 1 rfl dL_law_610 ?_
      refine lq_callW C (z77_L_delete l hlt S dp x out q19 q20 q21 v1 (by omega) Fi_370_x Fk_x Fm_x Fr_354_x Fi_386_q19 Fk_q19 Fm_q19 Fr_355_x Fr_321_q20 Fk_q20 Fm_q20 Fi_386_q21 Fk_q21 Fm_q21 Fk_out Fn_out Fm_out) lH_217 rfl rfl ⟨by decide, by decide⟩ ⟨Nat.le_of_ble_eq_true rfl, Nat.le_of_ble_eq_true rfl⟩ rfl (Nat.le_of_ble_eq_true rfl) dL_law_611 (fun r_611 u_611 h_611 => ?_)
      obtain ⟨S1, hS1, hr_611, hu_611⟩ := h_611
      have hw_611 := hu_611.symm
      subst hw_611
      have hx_611 := hr_611.symm
      subst hx_611
      refine lq_istore C (lv' := [(5, .int (nI 0)), (4, .int (nI 0)), (3, .ref out), (2, .ref (a 0)), (1, .ref x), (0, .ref b)]) (by decide) rfl dL_law_614 ?_
      refine lq_aload_n C (i := 2) rfl 3 rfl dL_law_616 ?_
      refine lq_aload_n C (i := 0) rfl 5 rfl dL_law_617 ?_
      refine lq_iload C 1 rfl dL_law_618 ?_
      refine lq_iconst C (x := nI 1) rfl dL_law_620 ?_
      refine lq_iadd C dL_law_621 ?_
      refine lq_cast (.int (nI 1)) (congrArg Value.int (by decide)) ?_
      refine lq_sld C 1 (by decide) (by decide) dL_law_622 ?_
      refine lq_cast (.int (nI v1)) (congrArg Value.int e_v1) ?_
      refine lq_doM C (w48_delete l v f g v1 (by omega) Mv_98 Mv_20 Mv_34) lM_219 rfl rfl ⟨by decide, by decide⟩ ⟨Nat.le_of_ble_eq_true rfl, Nat.le_of_ble_eq_true rfl⟩ rfl (Nat.le_of_ble_eq_true rfl) dL_law_623 ?_
      refine lq_istore C (lv' := [(6, .int (bI false)), (5, .int (nI 0)), (4, .int (nI 0)), (3, .ref out), (2, .ref (a 0)), (1, .ref x), (0, .ref b)]) (by decide) rfl dL_law_626 ?_
      refine lq_aload_n C (i := 2) rfl 4 rfl dL_law_628 ?_
      refine lq_doM C (w8_thrown l (upd v 99 (nI 0)) f g rfl) lM_192 rfl rfl ⟨by decide, by decide⟩ ⟨Nat.le_of_ble_eq_true rfl, Nat.le_of_ble_eq_true rfl⟩ rfl (Nat.le_of_ble_eq_true rfl) dL_law_629 ?_
      refine lq_iload C 1 rfl dL_law_632 ?_
      refine lq_icmp_eq C 639 (by decide) dL_law_634 (fun _ => ?_) (fun c_ => absurd (by decide) c_)
      refine lq_iload C 1 rfl dL_law_639 ?_
      refine lq_if_ne C 663 (by decide) dL_law_641 (fun c_ => absurd (by decide) c_) (fun _ => ?_)
      refine lq_aload_n C (i := 3) rfl 3 rfl dL_law_644 ?_
      refine lq_iconst C (x := nI 0) rfl dL_law_645 ?_
      refine lq_laload C 0 (hm_SJ hS1 Fm_out) (hk_SJ hS1 Fk_out) (by rw [show cn _ _ = 1 from (hn_SJ hS1 Fn_out)]; decide) (by rw [show cn _ _ = 1 from (hn_SJ hS1 Fn_out)]; decide) dL_law_646 ?_
      refine lq_cast (.long 0) (congrArg Value.long (heJ_SJ_s hS1)) ?_
      refine lq_iload C 0 rfl dL_law_647 ?_
      refine lq_if_eq C 656 (by decide) dL_law_649 (fun _ => ?_) (fun c_ => absurd (by decide) c_)
      refine lq_lconst C (x := 0) rfl dL_law_656 ?_
      refine lq_lcmp C dL_law_657 ?_
      refine lq_if_eqL C 663 (by decide) dL_law_658 ?_
      refine lq_goto C 3491 (by decide) dL_law_663 ?_
      exact lq_sub [2, 6] rfl (law_tail C (Nat.le_of_ble_eq_true rfl) (Nat.le_of_ble_eq_true rfl))
    · obtain ⟨v2, e_v2⟩ : ∃ z : Int32, xs 2 = z := ⟨_, rfl⟩
      obtain ⟨v3, e_v3⟩ : ∃ z : Int32, xs 3 = z := ⟨_, rfl⟩
      obtain ⟨v4, e_v4⟩ : ∃ z : Int32, xs 4 = z := ⟨_, rfl⟩
      obtain ⟨v5, e_v5⟩ : ∃ z : Int32, xs 5 = z := ⟨_, rfl⟩
      refine lq_aload_n C (i := 1) rfl 3 rfl dL_law_603 ?_
      refine lq_aload_n C (i := 0) rfl 4 rfl dL_law_604 ?_
      refine lq_iload C 0 rfl dL_law_605 ?_
      refine lq_iconst C (x := nI 1) rfl dL_law_607 ?_
      refine lq_iadd C dL_law_608 ?_
      refine lq_cast (.int (nI 1)) (congrArg Value.int (by decide)) ?_
      refine lq_sld C 1 (by decide) (by decide) dL_law_609 ?_
      refine lq_cast (.int (nI v1)) (congrArg Value.int e_v1) ?_
      refine lq_aload_n C (i := 3) rfl 1 rfl dL_law_610 ?_
      refine lq_callW C (z79_L_delete l hlt S dp x out v1 (by omega) (by omega) Fm_x Fk_x) lH_217 rfl rfl ⟨by decide, by decide⟩ ⟨Nat.le_of_ble_eq_true rfl, Nat.le_of_ble_eq_true rfl⟩ rfl (Nat.le_of_ble_eq_true rfl) dL_law_611 (fun r_611 u_611 h_611 => ?_)
      obtain ⟨hr_611, hu_611⟩ := h_611
      have hw_611 := hu_611.symm
      subst hw_611
      have hx_611 := hr_611.symm
      subst hx_611
      refine lq_istore C (lv' := [(5, .int (nI 1)), (4, .int (nI 0)), (3, .ref out), (2, .ref (a 0)), (1, .ref x), (0, .ref b)]) (by decide) rfl dL_law_614 ?_
      refine lq_aload_n C (i := 2) rfl 3 rfl dL_law_616 ?_
      refine lq_aload_n C (i := 0) rfl 5 rfl dL_law_617 ?_
      refine lq_iload C 1 rfl dL_law_618 ?_
      refine lq_iconst C (x := nI 1) rfl dL_law_620 ?_
      refine lq_iadd C dL_law_621 ?_
      refine lq_cast (.int (nI 1)) (congrArg Value.int (by decide)) ?_
      refine lq_sld C 1 (by decide) (by decide) dL_law_622 ?_
      refine lq_cast (.int (nI v1)) (congrArg Value.int e_v1) ?_
      refine lq_doM C (w49_delete l v f g v1 (by omega) (by omega) Mv_98) lM_219 rfl rfl ⟨by decide, by decide⟩ ⟨Nat.le_of_ble_eq_true rfl, Nat.le_of_ble_eq_true rfl⟩ rfl (Nat.le_of_ble_eq_true rfl) dL_law_623 ?_
      refine lq_istore C (lv' := [(6, .int (bI false)), (5, .int (nI 1)), (4, .int (nI 0)), (3, .ref out), (2, .ref (a 0)), (1, .ref x), (0, .ref b)]) (by decide) rfl dL_law_626 ?_
      refine lq_aload_n C (i := 2) rfl 4 rfl dL_law_628 ?_
      refine lq_doM C (w4_thrown l (upd v 99 (nI 1)) f g rfl) lM_192 rfl rfl ⟨by decide, by decide⟩ ⟨Nat.le_of_ble_eq_true rfl, Nat.le_of_ble_eq_true rfl⟩ rfl (Nat.le_of_ble_eq_true rfl) dL_law_629 ?_
      refine lq_iload C 1 rfl dL_law_632 ?_
      refine lq_icmp_eq C 639 (by decide) dL_law_634 (fun _ => ?_) (fun c_ => absurd (by decide) c_)
      refine lq_iload C 1 rfl dL_law_639 ?_
      refine lq_if_ne C 663 (by decide) dL_law_641 (fun _ => ?_) (fun c_ => absurd c_ (by decide))
      refine lq_goto C 3491 (by decide) dL_law_663 ?_
      exact lq_sub [2, 6] rfl (law_tail C (Nat.le_of_ble_eq_true rfl) (Nat.le_of_ble_eq_true rfl))
set_option maxHeartbeats 8000000 in
set_option maxRecDepth 100000 in
theorem law_case8 (C : lC p l s m meth c b 6 xs D Y tp dp) {S : cS} {a : Nat → Nat} {v : Nat → Int32} {f : Nat → Nat → Int32} {g : Nat → Nat → Int64} {x out q1 q2 q3 q10 q11 q15 q19 q20 q21 q22 q23 q29 q30 q37 : Nat} (F : cFr S dp x out q1 q2 q3 q10 q11 q15 q19 q20 q21 q22 q23 q29 q30 q37) (M : mFr v f g) : lG p l e s m below meth c b D Y 174 409927 666 [(4, .int (nI 0)), (3, .ref out), (2, .ref (a 0)), (1, .ref x), (0, .ref b)] [] S a v f g := by
  have hlt := C.2.2.2.2.2.2.2.2.2.2.1
  obtain ⟨FeI_q30_0, FeI_q30_1, Fi_195_q23, Fi_289_q11, Fi_289_q15, Fi_289_q2, Fi_33_q37, Fi_361_x, Fi_366_x, Fi_368_x, Fi_369_x, Fi_36_q37, Fi_370_x, Fi_37_q37, Fi_384_q19, Fi_384_q22, Fi_386_q19, Fi_386_q21, Fi_386_q22, Fk_out, Fk_q1, Fk_q10, Fk_q11, Fk_q15, Fk_q19, Fk_q2, Fk_q20, Fk_q21, Fk_q22, Fk_q23, Fk_q29, Fk_q3, Fk_q30, Fk_q37, Fk_x, Fm_out, Fm_q1, Fm_q10, Fm_q11, Fm_q15, Fm_q19, Fm_q2, Fm_q20, Fm_q21, Fm_q22, Fm_q23, Fm_q29, Fm_q3, Fm_q30, Fm_q37, Fm_x, Fn_out, Fn_q3, Fn_q30, Fr_224_q29, Fr_288_q2, Fr_321_q20, Fr_352_x, Fr_353_x, Fr_354_x, Fr_355_x, Fr_356_x, Fr_358_x, Fr_359_x, Fr_360_x, Fr_362_x, Fr_364_x, Fr_365_x, Fr_385_q19, Fr_385_q22, Fr_3_q10, Fr_4_q10, Fr_96_q1⟩ := F
  obtain ⟨Mall_21, Mall_22, Mf_29_0, Mf_29_1, Mf_29_2, Mf_29_3, Mf_29_4, Mf_49_0, Mf_49_1, Mf_8_0, Mf_8_1, Mg_7_0, Mg_7_1, Mg_7_10, Mg_7_11, Mg_7_12, Mg_7_13, Mg_7_14, Mg_7_15, Mg_7_16, Mg_7_17, Mg_7_18, Mg_7_19, Mg_7_2, Mg_7_20, Mg_7_21, Mg_7_22, Mg_7_23, Mg_7_24, Mg_7_25, Mg_7_26, Mg_7_27, Mg_7_28, Mg_7_29, Mg_7_3, Mg_7_30, Mg_7_31, Mg_7_32, Mg_7_33, Mg_7_34, Mg_7_35, Mg_7_36, Mg_7_37, Mg_7_38, Mg_7_39, Mg_7_4, Mg_7_5, Mg_7_6, Mg_7_7, Mg_7_8, Mg_7_9, Mv_13, Mv_14, Mv_2, Mv_20, Mv_29, Mv_34, Mv_35, Mv_40, Mv_48, Mv_49, Mv_72, Mv_88, Mv_89, Mv_90, Mv_96, Mv_97, Mv_98⟩ := M
  obtain ⟨v1, e_v1⟩ : ∃ z : Int32, xs 1 = z := ⟨_, rfl⟩
  obtain ⟨v2, e_v2⟩ : ∃ z : Int32, xs 2 = z := ⟨_, rfl⟩
  obtain ⟨v3, e_v3⟩ : ∃ z : Int32, xs 3 = z := ⟨_, rfl⟩
  obtain ⟨v4, e_v4⟩ : ∃ z : Int32, xs 4 = z := ⟨_, rfl⟩
  obtain ⟨v5, e_v5⟩ : ∃ z : Int32, xs 5 = z := ⟨_, rfl⟩
  refine lq_aload_n C (i := 1) rfl 3 rfl dL_law_666 ?_
  refine lq_aload_n C (i := 3) rfl 1 rfl dL_law_667 ?_
  refine lq_callW C (z82_L_flush l hlt S dp x out q19 Fi_370_x Fk_x Fm_x Fi_366_x Fr_354_x Fi_386_q19 Fk_q19 Fm_q19 Fk_out Fn_out Fm_out) lH_220 rfl rfl ⟨by decide, by decide⟩ ⟨Nat.le_of_ble_eq_true rfl, Nat.le_of_ble_eq_true rfl⟩ rfl (Nat.le_of_ble_eq_true rfl) dL_law_668 (fun r_668 u_668 h_668 => ?_)
  obtain ⟨S1, hS1, hr_668, hu_668⟩ := h_668
  have hw_668 := hu_668.symm
  subst hw_668
  have hx_668 := hr_668.symm
  subst hx_668
  refine lq_istore C (lv' := [(5, .int (nI 0)), (4, .int (nI 0)), (3, .ref out), (2, .ref (a 0)), (1, .ref x), (0, .ref b)]) (by decide) rfl dL_law_671 ?_
  refine lq_aload_n C (i := 2) rfl 3 rfl dL_law_673 ?_
  refine lq_doM C (w51_flush l v f g Mv_98 Mv_29 Mv_20) lM_222 rfl rfl ⟨by decide, by decide⟩ ⟨Nat.le_of_ble_eq_true rfl, Nat.le_of_ble_eq_true rfl⟩ rfl (Nat.le_of_ble_eq_true rfl) dL_law_674 ?_
  refine lq_istore C (lv' := [(6, .int ((-1))), (5, .int (nI 0)), (4, .int (nI 0)), (3, .ref out), (2, .ref (a 0)), (1, .ref x), (0, .ref b)]) (by decide) rfl dL_law_677 ?_
  refine lq_aload_n C (i := 2) rfl 4 rfl dL_law_679 ?_
  refine lq_doM C (w8_thrown l (upd v 99 (nI 0)) f g rfl) lM_192 rfl rfl ⟨by decide, by decide⟩ ⟨Nat.le_of_ble_eq_true rfl, Nat.le_of_ble_eq_true rfl⟩ rfl (Nat.le_of_ble_eq_true rfl) dL_law_680 ?_
  refine lq_iload C 1 rfl dL_law_683 ?_
  refine lq_icmp_eq C 690 (by decide) dL_law_685 (fun _ => ?_) (fun c_ => absurd (by decide) c_)
  refine lq_iload C 1 rfl dL_law_690 ?_
  refine lq_if_ne C 707 (by decide) dL_law_692 (fun c_ => absurd (by decide) c_) (fun _ => ?_)
  refine lq_aload_n C (i := 3) rfl 3 rfl dL_law_695 ?_
  refine lq_iconst C (x := nI 0) rfl dL_law_696 ?_
  refine lq_laload C 0 (hm_SJ hS1 Fm_out) (hk_SJ hS1 Fk_out) (by rw [show cn _ _ = 1 from (hn_SJ hS1 Fn_out)]; decide) (by rw [show cn _ _ = 1 from (hn_SJ hS1 Fn_out)]; decide) dL_law_697 ?_
  refine lq_cast (.long (((-1)).toInt64)) (congrArg Value.long (heJ_SJ_s hS1)) ?_
  refine lq_iload C 0 rfl dL_law_698 ?_
  refine lq_i2l C dL_law_700 ?_
  refine lq_lcmp C dL_law_701 ?_
  refine lq_if_eqL C 707 (by decide) dL_law_702 ?_
  refine lq_goto C 3491 (by decide) dL_law_707 ?_
  exact lq_sub [2, 6] rfl (law_tail C (Nat.le_of_ble_eq_true rfl) (Nat.le_of_ble_eq_true rfl))
set_option maxHeartbeats 8000000 in
set_option maxRecDepth 100000 in
theorem law_case9 (C : lC p l s m meth c b 6 xs D Y tp dp) {S : cS} {a : Nat → Nat} {v : Nat → Int32} {f : Nat → Nat → Int32} {g : Nat → Nat → Int64} {x out q1 q2 q3 q10 q11 q15 q19 q20 q21 q22 q23 q29 q30 q37 : Nat} (F : cFr S dp x out q1 q2 q3 q10 q11 q15 q19 q20 q21 q22 q23 q29 q30 q37) (M : mFr v f g) : lG p l e s m below meth c b D Y 174 409927 710 [(4, .int (nI 0)), (3, .ref out), (2, .ref (a 0)), (1, .ref x), (0, .ref b)] [] S a v f g := by
  have hlt := C.2.2.2.2.2.2.2.2.2.2.1
  obtain ⟨FeI_q30_0, FeI_q30_1, Fi_195_q23, Fi_289_q11, Fi_289_q15, Fi_289_q2, Fi_33_q37, Fi_361_x, Fi_366_x, Fi_368_x, Fi_369_x, Fi_36_q37, Fi_370_x, Fi_37_q37, Fi_384_q19, Fi_384_q22, Fi_386_q19, Fi_386_q21, Fi_386_q22, Fk_out, Fk_q1, Fk_q10, Fk_q11, Fk_q15, Fk_q19, Fk_q2, Fk_q20, Fk_q21, Fk_q22, Fk_q23, Fk_q29, Fk_q3, Fk_q30, Fk_q37, Fk_x, Fm_out, Fm_q1, Fm_q10, Fm_q11, Fm_q15, Fm_q19, Fm_q2, Fm_q20, Fm_q21, Fm_q22, Fm_q23, Fm_q29, Fm_q3, Fm_q30, Fm_q37, Fm_x, Fn_out, Fn_q3, Fn_q30, Fr_224_q29, Fr_288_q2, Fr_321_q20, Fr_352_x, Fr_353_x, Fr_354_x, Fr_355_x, Fr_356_x, Fr_358_x, Fr_359_x, Fr_360_x, Fr_362_x, Fr_364_x, Fr_365_x, Fr_385_q19, Fr_385_q22, Fr_3_q10, Fr_4_q10, Fr_96_q1⟩ := F
  obtain ⟨Mall_21, Mall_22, Mf_29_0, Mf_29_1, Mf_29_2, Mf_29_3, Mf_29_4, Mf_49_0, Mf_49_1, Mf_8_0, Mf_8_1, Mg_7_0, Mg_7_1, Mg_7_10, Mg_7_11, Mg_7_12, Mg_7_13, Mg_7_14, Mg_7_15, Mg_7_16, Mg_7_17, Mg_7_18, Mg_7_19, Mg_7_2, Mg_7_20, Mg_7_21, Mg_7_22, Mg_7_23, Mg_7_24, Mg_7_25, Mg_7_26, Mg_7_27, Mg_7_28, Mg_7_29, Mg_7_3, Mg_7_30, Mg_7_31, Mg_7_32, Mg_7_33, Mg_7_34, Mg_7_35, Mg_7_36, Mg_7_37, Mg_7_38, Mg_7_39, Mg_7_4, Mg_7_5, Mg_7_6, Mg_7_7, Mg_7_8, Mg_7_9, Mv_13, Mv_14, Mv_2, Mv_20, Mv_29, Mv_34, Mv_35, Mv_40, Mv_48, Mv_49, Mv_72, Mv_88, Mv_89, Mv_90, Mv_96, Mv_97, Mv_98⟩ := M
  obtain ⟨v1, e_v1⟩ : ∃ z : Int32, xs 1 = z := ⟨_, rfl⟩
  obtain ⟨v2, e_v2⟩ : ∃ z : Int32, xs 2 = z := ⟨_, rfl⟩
  obtain ⟨v3, e_v3⟩ : ∃ z : Int32, xs 3 = z := ⟨_, rfl⟩
  obtain ⟨v4, e_v4⟩ : ∃ z : Int32, xs 4 = z := ⟨_, rfl⟩
  obtain ⟨v5, e_v5⟩ : ∃ z : Int32, xs 5 = z := ⟨_, rfl⟩
  refine lq_aload_n C (i := 1) rfl 3 rfl dL_law_710 ?_
  refine lq_aload_n C (i := 3) rfl 1 rfl dL_law_711 ?_
  refine lq_callW C (z85_L_due l hlt S dp x out q20 q21 Fi_370_x Fk_x Fm_x Fr_355_x Fr_321_q20 Fk_q20 Fm_q20 Fi_386_q21 Fk_q21 Fm_q21 Fk_out Fn_out Fm_out) lH_223 rfl rfl ⟨by decide, by decide⟩ ⟨Nat.le_of_ble_eq_true rfl, Nat.le_of_ble_eq_true rfl⟩ rfl (Nat.le_of_ble_eq_true rfl) dL_law_712 (fun r_712 u_712 h_712 => ?_)
  obtain ⟨S1, hS1, hr_712, hu_712⟩ := h_712
  have hw_712 := hu_712.symm
  subst hw_712
  have hx_712 := hr_712.symm
  subst hx_712
  refine lq_istore C (lv' := [(5, .int (nI 0)), (4, .int (nI 0)), (3, .ref out), (2, .ref (a 0)), (1, .ref x), (0, .ref b)]) (by decide) rfl dL_law_715 ?_
  refine lq_aload_n C (i := 2) rfl 3 rfl dL_law_717 ?_
  refine lq_doM C (w53_due l v f g Mv_98 Mv_34) lM_225 rfl rfl ⟨by decide, by decide⟩ ⟨Nat.le_of_ble_eq_true rfl, Nat.le_of_ble_eq_true rfl⟩ rfl (Nat.le_of_ble_eq_true rfl) dL_law_718 ?_
  refine lq_istore C (lv' := [(6, .int ((-1))), (5, .int (nI 0)), (4, .int (nI 0)), (3, .ref out), (2, .ref (a 0)), (1, .ref x), (0, .ref b)]) (by decide) rfl dL_law_721 ?_
  refine lq_aload_n C (i := 2) rfl 4 rfl dL_law_723 ?_
  refine lq_doM C (w8_thrown l (upd v 99 (nI 0)) f g rfl) lM_192 rfl rfl ⟨by decide, by decide⟩ ⟨Nat.le_of_ble_eq_true rfl, Nat.le_of_ble_eq_true rfl⟩ rfl (Nat.le_of_ble_eq_true rfl) dL_law_724 ?_
  refine lq_iload C 1 rfl dL_law_727 ?_
  refine lq_icmp_eq C 734 (by decide) dL_law_729 (fun _ => ?_) (fun c_ => absurd (by decide) c_)
  refine lq_iload C 1 rfl dL_law_734 ?_
  refine lq_if_ne C 751 (by decide) dL_law_736 (fun c_ => absurd (by decide) c_) (fun _ => ?_)
  refine lq_aload_n C (i := 3) rfl 3 rfl dL_law_739 ?_
  refine lq_iconst C (x := nI 0) rfl dL_law_740 ?_
  refine lq_laload C 0 (hm_SJ hS1 Fm_out) (hk_SJ hS1 Fk_out) (by rw [show cn _ _ = 1 from (hn_SJ hS1 Fn_out)]; decide) (by rw [show cn _ _ = 1 from (hn_SJ hS1 Fn_out)]; decide) dL_law_741 ?_
  refine lq_cast (.long (((-1)).toInt64)) (congrArg Value.long (heJ_SJ_s hS1)) ?_
  refine lq_iload C 0 rfl dL_law_742 ?_
  refine lq_i2l C dL_law_744 ?_
  refine lq_lcmp C dL_law_745 ?_
  refine lq_if_eqL C 751 (by decide) dL_law_746 ?_
  refine lq_goto C 3491 (by decide) dL_law_751 ?_
  exact lq_sub [2, 6] rfl (law_tail C (Nat.le_of_ble_eq_true rfl) (Nat.le_of_ble_eq_true rfl))
set_option maxHeartbeats 8000000 in
set_option maxRecDepth 100000 in
theorem law_case10 (C : lC p l s m meth c b 6 xs D Y tp dp) {S : cS} {a : Nat → Nat} {v : Nat → Int32} {f : Nat → Nat → Int32} {g : Nat → Nat → Int64} {x out q1 q2 q3 q10 q11 q15 q19 q20 q21 q22 q23 q29 q30 q37 : Nat} (F : cFr S dp x out q1 q2 q3 q10 q11 q15 q19 q20 q21 q22 q23 q29 q30 q37) (M : mFr v f g) : lG p l e s m below meth c b D Y 174 409927 754 [(4, .int (nI 0)), (3, .ref out), (2, .ref (a 0)), (1, .ref x), (0, .ref b)] [] S a v f g := by
  have hlt := C.2.2.2.2.2.2.2.2.2.2.1
  obtain ⟨FeI_q30_0, FeI_q30_1, Fi_195_q23, Fi_289_q11, Fi_289_q15, Fi_289_q2, Fi_33_q37, Fi_361_x, Fi_366_x, Fi_368_x, Fi_369_x, Fi_36_q37, Fi_370_x, Fi_37_q37, Fi_384_q19, Fi_384_q22, Fi_386_q19, Fi_386_q21, Fi_386_q22, Fk_out, Fk_q1, Fk_q10, Fk_q11, Fk_q15, Fk_q19, Fk_q2, Fk_q20, Fk_q21, Fk_q22, Fk_q23, Fk_q29, Fk_q3, Fk_q30, Fk_q37, Fk_x, Fm_out, Fm_q1, Fm_q10, Fm_q11, Fm_q15, Fm_q19, Fm_q2, Fm_q20, Fm_q21, Fm_q22, Fm_q23, Fm_q29, Fm_q3, Fm_q30, Fm_q37, Fm_x, Fn_out, Fn_q3, Fn_q30, Fr_224_q29, Fr_288_q2, Fr_321_q20, Fr_352_x, Fr_353_x, Fr_354_x, Fr_355_x, Fr_356_x, Fr_358_x, Fr_359_x, Fr_360_x, Fr_362_x, Fr_364_x, Fr_365_x, Fr_385_q19, Fr_385_q22, Fr_3_q10, Fr_4_q10, Fr_96_q1⟩ := F
  obtain ⟨Mall_21, Mall_22, Mf_29_0, Mf_29_1, Mf_29_2, Mf_29_3, Mf_29_4, Mf_49_0, Mf_49_1, Mf_8_0, Mf_8_1, Mg_7_0, Mg_7_1, Mg_7_10, Mg_7_11, Mg_7_12, Mg_7_13, Mg_7_14, Mg_7_15, Mg_7_16, Mg_7_17, Mg_7_18, Mg_7_19, Mg_7_2, Mg_7_20, Mg_7_21, Mg_7_22, Mg_7_23, Mg_7_24, Mg_7_25, Mg_7_26, Mg_7_27, Mg_7_28, Mg_7_29, Mg_7_3, Mg_7_30, Mg_7_31, Mg_7_32, Mg_7_33, Mg_7_34, Mg_7_35, Mg_7_36, Mg_7_37, Mg_7_38, Mg_7_39, Mg_7_4, Mg_7_5, Mg_7_6, Mg_7_7, Mg_7_8, Mg_7_9, Mv_13, Mv_14, Mv_2, Mv_20, Mv_29, Mv_34, Mv_35, Mv_40, Mv_48, Mv_49, Mv_72, Mv_88, Mv_89, Mv_90, Mv_96, Mv_97, Mv_98⟩ := M
  obtain ⟨v1, e_v1⟩ : ∃ z : Int32, xs 1 = z := ⟨_, rfl⟩
  obtain ⟨v2, e_v2⟩ : ∃ z : Int32, xs 2 = z := ⟨_, rfl⟩
  obtain ⟨v3, e_v3⟩ : ∃ z : Int32, xs 3 = z := ⟨_, rfl⟩
  obtain ⟨v4, e_v4⟩ : ∃ z : Int32, xs 4 = z := ⟨_, rfl⟩
  obtain ⟨v5, e_v5⟩ : ∃ z : Int32, xs 5 = z := ⟨_, rfl⟩
  refine lq_aload_n C (i := 1) rfl 3 rfl dL_law_754 ?_
  refine lq_aload_n C (i := 3) rfl 1 rfl dL_law_755 ?_
  refine lq_callW C (z87_L_merge l hlt S dp x out q20 q21 Fi_370_x Fk_x Fm_x Fr_355_x Fr_321_q20 Fk_q20 Fm_q20 Fi_386_q21 Fk_q21 Fm_q21) lH_226 rfl rfl ⟨by decide, by decide⟩ ⟨Nat.le_of_ble_eq_true rfl, Nat.le_of_ble_eq_true rfl⟩ rfl (Nat.le_of_ble_eq_true rfl) dL_law_756 (fun r_756 u_756 h_756 => ?_)
  obtain ⟨hr_756, hu_756⟩ := h_756
  have hw_756 := hu_756.symm
  subst hw_756
  have hx_756 := hr_756.symm
  subst hx_756
  refine lq_istore C (lv' := [(5, .int (nI 1)), (4, .int (nI 0)), (3, .ref out), (2, .ref (a 0)), (1, .ref x), (0, .ref b)]) (by decide) rfl dL_law_759 ?_
  refine lq_aload_n C (i := 2) rfl 3 rfl dL_law_761 ?_
  refine lq_doM C (w54_merge l v f g Mv_98 Mv_34) lM_228 rfl rfl ⟨by decide, by decide⟩ ⟨Nat.le_of_ble_eq_true rfl, Nat.le_of_ble_eq_true rfl⟩ rfl (Nat.le_of_ble_eq_true rfl) dL_law_762 ?_
  refine lq_istore C (lv' := [(6, .int (nI 0)), (5, .int (nI 1)), (4, .int (nI 0)), (3, .ref out), (2, .ref (a 0)), (1, .ref x), (0, .ref b)]) (by decide) rfl dL_law_765 ?_
  refine lq_aload_n C (i := 2) rfl 4 rfl dL_law_767 ?_
  refine lq_doM C (w4_thrown l (upd v 99 (nI 1)) f g rfl) lM_192 rfl rfl ⟨by decide, by decide⟩ ⟨Nat.le_of_ble_eq_true rfl, Nat.le_of_ble_eq_true rfl⟩ rfl (Nat.le_of_ble_eq_true rfl) dL_law_768 ?_
  refine lq_iload C 1 rfl dL_law_771 ?_
  refine lq_icmp_eq C 778 (by decide) dL_law_773 (fun _ => ?_) (fun c_ => absurd (by decide) c_)
  refine lq_iload C 1 rfl dL_law_778 ?_
  refine lq_if_ne C 795 (by decide) dL_law_780 (fun _ => ?_) (fun c_ => absurd c_ (by decide))
  refine lq_goto C 3491 (by decide) dL_law_795 ?_
  exact lq_sub [2, 6] rfl (law_tail C (Nat.le_of_ble_eq_true rfl) (Nat.le_of_ble_eq_true rfl))
set_option maxHeartbeats 8000000 in
set_option maxRecDepth 100000 in
theorem law_case11 (C : lC p l s m meth c b 6 xs D Y tp dp) {S : cS} {a : Nat → Nat} {v : Nat → Int32} {f : Nat → Nat → Int32} {g : Nat → Nat → Int64} {x out q1 q2 q3 q10 q11 q15 q19 q20 q21 q22 q23 q29 q30 q37 : Nat} (F : cFr S dp x out q1 q2 q3 q10 q11 q15 q19 q20 q21 q22 q23 q29 q30 q37) (M : mFr v f g) : lG p l e s m below meth c b D Y 174 409927 798 [(4, .int (nI 0)), (3, .ref out), (2, .ref (a 0)), (1, .ref x), (0, .ref b)] [] S a v f g := by
  have hlt := C.2.2.2.2.2.2.2.2.2.2.1
  obtain ⟨FeI_q30_0, FeI_q30_1, Fi_195_q23, Fi_289_q11, Fi_289_q15, Fi_289_q2, Fi_33_q37, Fi_361_x, Fi_366_x, Fi_368_x, Fi_369_x, Fi_36_q37, Fi_370_x, Fi_37_q37, Fi_384_q19, Fi_384_q22, Fi_386_q19, Fi_386_q21, Fi_386_q22, Fk_out, Fk_q1, Fk_q10, Fk_q11, Fk_q15, Fk_q19, Fk_q2, Fk_q20, Fk_q21, Fk_q22, Fk_q23, Fk_q29, Fk_q3, Fk_q30, Fk_q37, Fk_x, Fm_out, Fm_q1, Fm_q10, Fm_q11, Fm_q15, Fm_q19, Fm_q2, Fm_q20, Fm_q21, Fm_q22, Fm_q23, Fm_q29, Fm_q3, Fm_q30, Fm_q37, Fm_x, Fn_out, Fn_q3, Fn_q30, Fr_224_q29, Fr_288_q2, Fr_321_q20, Fr_352_x, Fr_353_x, Fr_354_x, Fr_355_x, Fr_356_x, Fr_358_x, Fr_359_x, Fr_360_x, Fr_362_x, Fr_364_x, Fr_365_x, Fr_385_q19, Fr_385_q22, Fr_3_q10, Fr_4_q10, Fr_96_q1⟩ := F
  obtain ⟨Mall_21, Mall_22, Mf_29_0, Mf_29_1, Mf_29_2, Mf_29_3, Mf_29_4, Mf_49_0, Mf_49_1, Mf_8_0, Mf_8_1, Mg_7_0, Mg_7_1, Mg_7_10, Mg_7_11, Mg_7_12, Mg_7_13, Mg_7_14, Mg_7_15, Mg_7_16, Mg_7_17, Mg_7_18, Mg_7_19, Mg_7_2, Mg_7_20, Mg_7_21, Mg_7_22, Mg_7_23, Mg_7_24, Mg_7_25, Mg_7_26, Mg_7_27, Mg_7_28, Mg_7_29, Mg_7_3, Mg_7_30, Mg_7_31, Mg_7_32, Mg_7_33, Mg_7_34, Mg_7_35, Mg_7_36, Mg_7_37, Mg_7_38, Mg_7_39, Mg_7_4, Mg_7_5, Mg_7_6, Mg_7_7, Mg_7_8, Mg_7_9, Mv_13, Mv_14, Mv_2, Mv_20, Mv_29, Mv_34, Mv_35, Mv_40, Mv_48, Mv_49, Mv_72, Mv_88, Mv_89, Mv_90, Mv_96, Mv_97, Mv_98⟩ := M
  obtain ⟨v1, e_v1⟩ : ∃ z : Int32, xs 1 = z := ⟨_, rfl⟩
  obtain ⟨v2, e_v2⟩ : ∃ z : Int32, xs 2 = z := ⟨_, rfl⟩
  obtain ⟨v3, e_v3⟩ : ∃ z : Int32, xs 3 = z := ⟨_, rfl⟩
  obtain ⟨v4, e_v4⟩ : ∃ z : Int32, xs 4 = z := ⟨_, rfl⟩
  obtain ⟨v5, e_v5⟩ : ∃ z : Int32, xs 5 = z := ⟨_, rfl⟩
  refine lq_aload_n C (i := 1) rfl 3 rfl dL_law_798 ?_
  refine lq_aload_n C (i := 3) rfl 1 rfl dL_law_799 ?_
  refine lq_callW C (z89_L_step l hlt S dp x out Fi_370_x Fk_x Fm_x Fr_356_x) lH_229 rfl rfl ⟨by decide, by decide⟩ ⟨Nat.le_of_ble_eq_true rfl, Nat.le_of_ble_eq_true rfl⟩ rfl (Nat.le_of_ble_eq_true rfl) dL_law_800 (fun r_800 u_800 h_800 => ?_)
  obtain ⟨hr_800, hu_800⟩ := h_800
  have hw_800 := hu_800.symm
  subst hw_800
  have hx_800 := hr_800.symm
  subst hx_800
  refine lq_istore C (lv' := [(5, .int (nI 1)), (4, .int (nI 0)), (3, .ref out), (2, .ref (a 0)), (1, .ref x), (0, .ref b)]) (by decide) rfl dL_law_803 ?_
  refine lq_aload_n C (i := 2) rfl 3 rfl dL_law_805 ?_
  refine lq_doM C (w55_step l v f g Mv_98 Mv_49) lM_231 rfl rfl ⟨by decide, by decide⟩ ⟨Nat.le_of_ble_eq_true rfl, Nat.le_of_ble_eq_true rfl⟩ rfl (Nat.le_of_ble_eq_true rfl) dL_law_806 ?_
  refine lq_istore C (lv' := [(6, .int (nI 0)), (5, .int (nI 1)), (4, .int (nI 0)), (3, .ref out), (2, .ref (a 0)), (1, .ref x), (0, .ref b)]) (by decide) rfl dL_law_809 ?_
  refine lq_aload_n C (i := 2) rfl 4 rfl dL_law_811 ?_
  refine lq_doM C (w4_thrown l (upd v 99 (nI 1)) f g rfl) lM_192 rfl rfl ⟨by decide, by decide⟩ ⟨Nat.le_of_ble_eq_true rfl, Nat.le_of_ble_eq_true rfl⟩ rfl (Nat.le_of_ble_eq_true rfl) dL_law_812 ?_
  refine lq_iload C 1 rfl dL_law_815 ?_
  refine lq_icmp_eq C 822 (by decide) dL_law_817 (fun _ => ?_) (fun c_ => absurd (by decide) c_)
  refine lq_iload C 1 rfl dL_law_822 ?_
  refine lq_if_ne C 839 (by decide) dL_law_824 (fun _ => ?_) (fun c_ => absurd c_ (by decide))
  refine lq_goto C 3491 (by decide) dL_law_839 ?_
  exact lq_sub [2, 6] rfl (law_tail C (Nat.le_of_ble_eq_true rfl) (Nat.le_of_ble_eq_true rfl))
set_option maxHeartbeats 8000000 in
set_option maxRecDepth 100000 in
theorem law_case12 (C : lC p l s m meth c b 6 xs D Y tp dp) {S : cS} {a : Nat → Nat} {v : Nat → Int32} {f : Nat → Nat → Int32} {g : Nat → Nat → Int64} {x out q1 q2 q3 q10 q11 q15 q19 q20 q21 q22 q23 q29 q30 q37 : Nat} (F : cFr S dp x out q1 q2 q3 q10 q11 q15 q19 q20 q21 q22 q23 q29 q30 q37) (M : mFr v f g) : lG p l e s m below meth c b D Y 174 409927 842 [(4, .int (nI 0)), (3, .ref out), (2, .ref (a 0)), (1, .ref x), (0, .ref b)] [] S a v f g := by
  have hlt := C.2.2.2.2.2.2.2.2.2.2.1
  obtain ⟨FeI_q30_0, FeI_q30_1, Fi_195_q23, Fi_289_q11, Fi_289_q15, Fi_289_q2, Fi_33_q37, Fi_361_x, Fi_366_x, Fi_368_x, Fi_369_x, Fi_36_q37, Fi_370_x, Fi_37_q37, Fi_384_q19, Fi_384_q22, Fi_386_q19, Fi_386_q21, Fi_386_q22, Fk_out, Fk_q1, Fk_q10, Fk_q11, Fk_q15, Fk_q19, Fk_q2, Fk_q20, Fk_q21, Fk_q22, Fk_q23, Fk_q29, Fk_q3, Fk_q30, Fk_q37, Fk_x, Fm_out, Fm_q1, Fm_q10, Fm_q11, Fm_q15, Fm_q19, Fm_q2, Fm_q20, Fm_q21, Fm_q22, Fm_q23, Fm_q29, Fm_q3, Fm_q30, Fm_q37, Fm_x, Fn_out, Fn_q3, Fn_q30, Fr_224_q29, Fr_288_q2, Fr_321_q20, Fr_352_x, Fr_353_x, Fr_354_x, Fr_355_x, Fr_356_x, Fr_358_x, Fr_359_x, Fr_360_x, Fr_362_x, Fr_364_x, Fr_365_x, Fr_385_q19, Fr_385_q22, Fr_3_q10, Fr_4_q10, Fr_96_q1⟩ := F
  obtain ⟨Mall_21, Mall_22, Mf_29_0, Mf_29_1, Mf_29_2, Mf_29_3, Mf_29_4, Mf_49_0, Mf_49_1, Mf_8_0, Mf_8_1, Mg_7_0, Mg_7_1, Mg_7_10, Mg_7_11, Mg_7_12, Mg_7_13, Mg_7_14, Mg_7_15, Mg_7_16, Mg_7_17, Mg_7_18, Mg_7_19, Mg_7_2, Mg_7_20, Mg_7_21, Mg_7_22, Mg_7_23, Mg_7_24, Mg_7_25, Mg_7_26, Mg_7_27, Mg_7_28, Mg_7_29, Mg_7_3, Mg_7_30, Mg_7_31, Mg_7_32, Mg_7_33, Mg_7_34, Mg_7_35, Mg_7_36, Mg_7_37, Mg_7_38, Mg_7_39, Mg_7_4, Mg_7_5, Mg_7_6, Mg_7_7, Mg_7_8, Mg_7_9, Mv_13, Mv_14, Mv_2, Mv_20, Mv_29, Mv_34, Mv_35, Mv_40, Mv_48, Mv_49, Mv_72, Mv_88, Mv_89, Mv_90, Mv_96, Mv_97, Mv_98⟩ := M
  obtain ⟨v1, e_v1⟩ : ∃ z : Int32, xs 1 = z := ⟨_, rfl⟩
  obtain ⟨v2, e_v2⟩ : ∃ z : Int32, xs 2 = z := ⟨_, rfl⟩
  obtain ⟨v3, e_v3⟩ : ∃ z : Int32, xs 3 = z := ⟨_, rfl⟩
  obtain ⟨v4, e_v4⟩ : ∃ z : Int32, xs 4 = z := ⟨_, rfl⟩
  obtain ⟨v5, e_v5⟩ : ∃ z : Int32, xs 5 = z := ⟨_, rfl⟩
  refine lq_aload_n C (i := 1) rfl 3 rfl dL_law_842 ?_
  refine lq_aload_n C (i := 3) rfl 1 rfl dL_law_843 ?_
  refine lq_callW C (z91_L_giveUp l hlt S dp x out Fi_370_x Fk_x Fm_x Fr_356_x) lH_232 rfl rfl ⟨by decide, by decide⟩ ⟨Nat.le_of_ble_eq_true rfl, Nat.le_of_ble_eq_true rfl⟩ rfl (Nat.le_of_ble_eq_true rfl) dL_law_844 (fun r_844 u_844 h_844 => ?_)
  obtain ⟨hr_844, hu_844⟩ := h_844
  have hw_844 := hu_844.symm
  subst hw_844
  have hx_844 := hr_844.symm
  subst hx_844
  refine lq_istore C (lv' := [(5, .int (nI 1)), (4, .int (nI 0)), (3, .ref out), (2, .ref (a 0)), (1, .ref x), (0, .ref b)]) (by decide) rfl dL_law_847 ?_
  refine lq_aload_n C (i := 2) rfl 3 rfl dL_law_849 ?_
  refine lq_doM C (w56_giveUp l v f g Mv_98 Mv_49) lM_234 rfl rfl ⟨by decide, by decide⟩ ⟨Nat.le_of_ble_eq_true rfl, Nat.le_of_ble_eq_true rfl⟩ rfl (Nat.le_of_ble_eq_true rfl) dL_law_850 ?_
  refine lq_istore C (lv' := [(6, .int (nI 0)), (5, .int (nI 1)), (4, .int (nI 0)), (3, .ref out), (2, .ref (a 0)), (1, .ref x), (0, .ref b)]) (by decide) rfl dL_law_853 ?_
  refine lq_aload_n C (i := 2) rfl 4 rfl dL_law_855 ?_
  refine lq_doM C (w4_thrown l (upd v 99 (nI 1)) f g rfl) lM_192 rfl rfl ⟨by decide, by decide⟩ ⟨Nat.le_of_ble_eq_true rfl, Nat.le_of_ble_eq_true rfl⟩ rfl (Nat.le_of_ble_eq_true rfl) dL_law_856 ?_
  refine lq_iload C 1 rfl dL_law_859 ?_
  refine lq_icmp_eq C 866 (by decide) dL_law_861 (fun _ => ?_) (fun c_ => absurd (by decide) c_)
  refine lq_iload C 1 rfl dL_law_866 ?_
  refine lq_if_ne C 883 (by decide) dL_law_868 (fun _ => ?_) (fun c_ => absurd c_ (by decide))
  refine lq_goto C 3491 (by decide) dL_law_883 ?_
  exact lq_sub [2, 6] rfl (law_tail C (Nat.le_of_ble_eq_true rfl) (Nat.le_of_ble_eq_true rfl))
set_option maxHeartbeats 8000000 in
set_option maxRecDepth 100000 in
theorem law_case13 (C : lC p l s m meth c b 6 xs D Y tp dp) {S : cS} {a : Nat → Nat} {v : Nat → Int32} {f : Nat → Nat → Int32} {g : Nat → Nat → Int64} {x out q1 q2 q3 q10 q11 q15 q19 q20 q21 q22 q23 q29 q30 q37 : Nat} (F : cFr S dp x out q1 q2 q3 q10 q11 q15 q19 q20 q21 q22 q23 q29 q30 q37) (M : mFr v f g) : lG p l e s m below meth c b D Y 174 409927 886 [(4, .int (nI 0)), (3, .ref out), (2, .ref (a 0)), (1, .ref x), (0, .ref b)] [] S a v f g := by
  have hlt := C.2.2.2.2.2.2.2.2.2.2.1
  obtain ⟨FeI_q30_0, FeI_q30_1, Fi_195_q23, Fi_289_q11, Fi_289_q15, Fi_289_q2, Fi_33_q37, Fi_361_x, Fi_366_x, Fi_368_x, Fi_369_x, Fi_36_q37, Fi_370_x, Fi_37_q37, Fi_384_q19, Fi_384_q22, Fi_386_q19, Fi_386_q21, Fi_386_q22, Fk_out, Fk_q1, Fk_q10, Fk_q11, Fk_q15, Fk_q19, Fk_q2, Fk_q20, Fk_q21, Fk_q22, Fk_q23, Fk_q29, Fk_q3, Fk_q30, Fk_q37, Fk_x, Fm_out, Fm_q1, Fm_q10, Fm_q11, Fm_q15, Fm_q19, Fm_q2, Fm_q20, Fm_q21, Fm_q22, Fm_q23, Fm_q29, Fm_q3, Fm_q30, Fm_q37, Fm_x, Fn_out, Fn_q3, Fn_q30, Fr_224_q29, Fr_288_q2, Fr_321_q20, Fr_352_x, Fr_353_x, Fr_354_x, Fr_355_x, Fr_356_x, Fr_358_x, Fr_359_x, Fr_360_x, Fr_362_x, Fr_364_x, Fr_365_x, Fr_385_q19, Fr_385_q22, Fr_3_q10, Fr_4_q10, Fr_96_q1⟩ := F
  obtain ⟨Mall_21, Mall_22, Mf_29_0, Mf_29_1, Mf_29_2, Mf_29_3, Mf_29_4, Mf_49_0, Mf_49_1, Mf_8_0, Mf_8_1, Mg_7_0, Mg_7_1, Mg_7_10, Mg_7_11, Mg_7_12, Mg_7_13, Mg_7_14, Mg_7_15, Mg_7_16, Mg_7_17, Mg_7_18, Mg_7_19, Mg_7_2, Mg_7_20, Mg_7_21, Mg_7_22, Mg_7_23, Mg_7_24, Mg_7_25, Mg_7_26, Mg_7_27, Mg_7_28, Mg_7_29, Mg_7_3, Mg_7_30, Mg_7_31, Mg_7_32, Mg_7_33, Mg_7_34, Mg_7_35, Mg_7_36, Mg_7_37, Mg_7_38, Mg_7_39, Mg_7_4, Mg_7_5, Mg_7_6, Mg_7_7, Mg_7_8, Mg_7_9, Mv_13, Mv_14, Mv_2, Mv_20, Mv_29, Mv_34, Mv_35, Mv_40, Mv_48, Mv_49, Mv_72, Mv_88, Mv_89, Mv_90, Mv_96, Mv_97, Mv_98⟩ := M
  obtain ⟨v1, e_v1⟩ : ∃ z : Int32, xs 1 = z := ⟨_, rfl⟩
  obtain ⟨v2, e_v2⟩ : ∃ z : Int32, xs 2 = z := ⟨_, rfl⟩
  obtain ⟨v3, e_v3⟩ : ∃ z : Int32, xs 3 = z := ⟨_, rfl⟩
  obtain ⟨v4, e_v4⟩ : ∃ z : Int32, xs 4 = z := ⟨_, rfl⟩
  obtain ⟨v5, e_v5⟩ : ∃ z : Int32, xs 5 = z := ⟨_, rfl⟩
  refine lq_aload_n C (i := 1) rfl 3 rfl dL_law_886 ?_
  refine lq_aload_n C (i := 3) rfl 1 rfl dL_law_887 ?_
  refine lq_callW C (z97_L_prepare l hlt S dp x out q19 q20 q21 Fi_370_x Fk_x Fm_x Fr_359_x Fi_366_x Fr_354_x Fi_386_q19 Fk_q19 Fm_q19 Fr_355_x Fr_358_x Fr_321_q20 Fk_q20 Fm_q20 Fi_386_q21 Fk_q21 Fm_q21 Fi_369_x Fi_368_x Fk_out Fm_out Fn_out) lH_235 rfl rfl ⟨by decide, by decide⟩ ⟨Nat.le_of_ble_eq_true rfl, Nat.le_of_ble_eq_true rfl⟩ rfl (Nat.le_of_ble_eq_true rfl) dL_law_888 (fun r_888 u_888 h_888 => ?_)
  obtain ⟨S1, hS1, p1, S2, hf_p1, hS2, p2, S3, hf_p2, hS3, S4, hS4, S5, hS5, S6, hS6, S7, hS7, S8, hS8, S9, hS9, hr_888, hu_888⟩ := h_888
  have hw_888 := hu_888.symm
  subst hw_888
  have hx_888 := hr_888.symm
  subst hx_888
  refine lq_istore C (lv' := [(5, .int (nI 0)), (4, .int (nI 0)), (3, .ref out), (2, .ref (a 0)), (1, .ref x), (0, .ref b)]) (by decide) rfl dL_law_891 ?_
  refine lq_aload_n C (i := 2) rfl 3 rfl dL_law_893 ?_
  refine lq_callM C (w58_prepare l v f g Mv_98 Mv_40 Mv_29 Mv_20 Mall_22 Mv_34 Mv_97 Mv_96 Mall_21) lM_237 rfl rfl ⟨by decide, by decide⟩ ⟨Nat.le_of_ble_eq_true rfl, Nat.le_of_ble_eq_true rfl⟩ rfl (Nat.le_of_ble_eq_true rfl) dL_law_894 (fun r_894 v_894 f_894 g_894 h_894 => ?_)
  obtain ⟨hr_894, fx_894, hu_894⟩ := h_894
  have hx_894 := hr_894.symm
  subst hx_894
  cases hu_894
  refine lq_istore C (lv' := [(6, .int (nI 0)), (5, .int (nI 0)), (4, .int (nI 0)), (3, .ref out), (2, .ref (a 0)), (1, .ref x), (0, .ref b)]) (by decide) rfl dL_law_897 ?_
  refine lq_aload_n C (i := 2) rfl 4 rfl dL_law_899 ?_
  refine lq_doM C (w8_thrown l (upd (upd (upd (upd (upd v 99 (nI 0)) 97 ((-1))) 96 (nI 1)) 42 (nI 0)) 40 (bI true)) f_894 g rfl) lM_192 rfl rfl ⟨by decide, by decide⟩ ⟨Nat.le_of_ble_eq_true rfl, Nat.le_of_ble_eq_true rfl⟩ rfl (Nat.le_of_ble_eq_true rfl) dL_law_900 ?_
  refine lq_iload C 1 rfl dL_law_903 ?_
  refine lq_icmp_eq C 910 (by decide) dL_law_905 (fun _ => ?_) (fun c_ => absurd (by decide) c_)
  refine lq_iload C 1 rfl dL_law_910 ?_
  refine lq_if_ne C 927 (by decide) dL_law_912 (fun c_ => absurd (by decide) c_) (fun _ => ?_)
  refine lq_aload_n C (i := 3) rfl 3 rfl dL_law_915 ?_
  refine lq_iconst C (x := nI 0) rfl dL_law_916 ?_
  have f_1 : cK S3 out = 15 := (hk_N hS3 (cm_ne (hm_N hS2 (hm_Si hS1 Fm_out)) hf_p2) (hk_N hS2 (cm_ne (hm_Si hS1 Fm_out) hf_p1) (hk_Si hS1 Fk_out)))
  have f_2 : cK S9 out = 15 := (hk_SJ hS9 (hk_Sr hS8 (hk_Si hS7 (hk_Sr hS6 (hk_Sr hS5 (hk_Si hS4 f_1))))))
  have f_3 : cn S6 out = 1 := (hn_Sr hS6 (hn_Sr hS5 (hn_Si hS4 (hn_N hS3 (hn_N hS2 (hn_Si hS1 Fn_out))))))
  have f_4 : out ∈ cL S6 := (hm_Sr hS6 (hm_Sr hS5 (hm_Si hS4 (hm_N hS3 (hm_N hS2 (hm_Si hS1 Fm_out))))))
  refine lq_laload C 0 (hm_SJ hS9 (hm_Sr hS8 (hm_Si hS7 f_4))) f_2 (by rw [show cn _ _ = 1 from (hn_SJ hS9 (hn_Sr hS8 (hn_Si hS7 f_3)))]; decide) (by rw [show cn _ _ = 1 from (hn_SJ hS9 (hn_Sr hS8 (hn_Si hS7 f_3)))]; decide) dL_law_917 ?_
  refine lq_cast (.long (((nI 0)).toInt64)) (congrArg Value.long (heJ_SJ_s hS9)) ?_
  refine lq_iload C 0 rfl dL_law_918 ?_
  refine lq_i2l C dL_law_920 ?_
  refine lq_lcmp C dL_law_921 ?_
  refine lq_if_eqL C 927 (by decide) dL_law_922 ?_
  refine lq_goto C 3491 (by decide) dL_law_927 ?_
  exact lq_sub [2, 6] rfl (law_tail C (Nat.le_of_ble_eq_true rfl) (Nat.le_of_ble_eq_true rfl))
set_option maxHeartbeats 8000000 in
set_option maxRecDepth 100000 in
theorem law_case14 (C : lC p l s m meth c b 6 xs D Y tp dp) {S : cS} {a : Nat → Nat} {v : Nat → Int32} {f : Nat → Nat → Int32} {g : Nat → Nat → Int64} {x out q1 q2 q3 q10 q11 q15 q19 q20 q21 q22 q23 q29 q30 q37 : Nat} (F : cFr S dp x out q1 q2 q3 q10 q11 q15 q19 q20 q21 q22 q23 q29 q30 q37) (M : mFr v f g) : lG p l e s m below meth c b D Y 174 409927 930 [(4, .int (nI 0)), (3, .ref out), (2, .ref (a 0)), (1, .ref x), (0, .ref b)] [] S a v f g := by
  have hlt := C.2.2.2.2.2.2.2.2.2.2.1
  obtain ⟨FeI_q30_0, FeI_q30_1, Fi_195_q23, Fi_289_q11, Fi_289_q15, Fi_289_q2, Fi_33_q37, Fi_361_x, Fi_366_x, Fi_368_x, Fi_369_x, Fi_36_q37, Fi_370_x, Fi_37_q37, Fi_384_q19, Fi_384_q22, Fi_386_q19, Fi_386_q21, Fi_386_q22, Fk_out, Fk_q1, Fk_q10, Fk_q11, Fk_q15, Fk_q19, Fk_q2, Fk_q20, Fk_q21, Fk_q22, Fk_q23, Fk_q29, Fk_q3, Fk_q30, Fk_q37, Fk_x, Fm_out, Fm_q1, Fm_q10, Fm_q11, Fm_q15, Fm_q19, Fm_q2, Fm_q20, Fm_q21, Fm_q22, Fm_q23, Fm_q29, Fm_q3, Fm_q30, Fm_q37, Fm_x, Fn_out, Fn_q3, Fn_q30, Fr_224_q29, Fr_288_q2, Fr_321_q20, Fr_352_x, Fr_353_x, Fr_354_x, Fr_355_x, Fr_356_x, Fr_358_x, Fr_359_x, Fr_360_x, Fr_362_x, Fr_364_x, Fr_365_x, Fr_385_q19, Fr_385_q22, Fr_3_q10, Fr_4_q10, Fr_96_q1⟩ := F
  obtain ⟨Mall_21, Mall_22, Mf_29_0, Mf_29_1, Mf_29_2, Mf_29_3, Mf_29_4, Mf_49_0, Mf_49_1, Mf_8_0, Mf_8_1, Mg_7_0, Mg_7_1, Mg_7_10, Mg_7_11, Mg_7_12, Mg_7_13, Mg_7_14, Mg_7_15, Mg_7_16, Mg_7_17, Mg_7_18, Mg_7_19, Mg_7_2, Mg_7_20, Mg_7_21, Mg_7_22, Mg_7_23, Mg_7_24, Mg_7_25, Mg_7_26, Mg_7_27, Mg_7_28, Mg_7_29, Mg_7_3, Mg_7_30, Mg_7_31, Mg_7_32, Mg_7_33, Mg_7_34, Mg_7_35, Mg_7_36, Mg_7_37, Mg_7_38, Mg_7_39, Mg_7_4, Mg_7_5, Mg_7_6, Mg_7_7, Mg_7_8, Mg_7_9, Mv_13, Mv_14, Mv_2, Mv_20, Mv_29, Mv_34, Mv_35, Mv_40, Mv_48, Mv_49, Mv_72, Mv_88, Mv_89, Mv_90, Mv_96, Mv_97, Mv_98⟩ := M
  obtain ⟨v1, e_v1⟩ : ∃ z : Int32, xs 1 = z := ⟨_, rfl⟩
  obtain ⟨v2, e_v2⟩ : ∃ z : Int32, xs 2 = z := ⟨_, rfl⟩
  obtain ⟨v3, e_v3⟩ : ∃ z : Int32, xs 3 = z := ⟨_, rfl⟩
  obtain ⟨v4, e_v4⟩ : ∃ z : Int32, xs 4 = z := ⟨_, rfl⟩
  obtain ⟨v5, e_v5⟩ : ∃ z : Int32, xs 5 = z := ⟨_, rfl⟩
  refine lq_aload_n C (i := 1) rfl 3 rfl dL_law_930 ?_
  refine lq_aload_n C (i := 3) rfl 1 rfl dL_law_931 ?_
  refine lq_callW C (z99_L_finish l hlt S dp x out Fi_370_x Fk_x Fm_x Fr_359_x) lH_238 rfl rfl ⟨by decide, by decide⟩ ⟨Nat.le_of_ble_eq_true rfl, Nat.le_of_ble_eq_true rfl⟩ rfl (Nat.le_of_ble_eq_true rfl) dL_law_932 (fun r_932 u_932 h_932 => ?_)
  obtain ⟨hr_932, hu_932⟩ := h_932
  have hw_932 := hu_932.symm
  subst hw_932
  have hx_932 := hr_932.symm
  subst hx_932
  refine lq_istore C (lv' := [(5, .int (nI 1)), (4, .int (nI 0)), (3, .ref out), (2, .ref (a 0)), (1, .ref x), (0, .ref b)]) (by decide) rfl dL_law_935 ?_
  refine lq_aload_n C (i := 2) rfl 3 rfl dL_law_937 ?_
  refine lq_doM C (w59_finish l v f g Mv_98 Mv_40) lM_240 rfl rfl ⟨by decide, by decide⟩ ⟨Nat.le_of_ble_eq_true rfl, Nat.le_of_ble_eq_true rfl⟩ rfl (Nat.le_of_ble_eq_true rfl) dL_law_938 ?_
  refine lq_istore C (lv' := [(6, .int (nI 0)), (5, .int (nI 1)), (4, .int (nI 0)), (3, .ref out), (2, .ref (a 0)), (1, .ref x), (0, .ref b)]) (by decide) rfl dL_law_941 ?_
  refine lq_aload_n C (i := 2) rfl 4 rfl dL_law_943 ?_
  refine lq_doM C (w4_thrown l (upd v 99 (nI 1)) f g rfl) lM_192 rfl rfl ⟨by decide, by decide⟩ ⟨Nat.le_of_ble_eq_true rfl, Nat.le_of_ble_eq_true rfl⟩ rfl (Nat.le_of_ble_eq_true rfl) dL_law_944 ?_
  refine lq_iload C 1 rfl dL_law_947 ?_
  refine lq_icmp_eq C 954 (by decide) dL_law_949 (fun _ => ?_) (fun c_ => absurd (by decide) c_)
  refine lq_iload C 1 rfl dL_law_954 ?_
  refine lq_if_ne C 971 (by decide) dL_law_956 (fun _ => ?_) (fun c_ => absurd c_ (by decide))
  refine lq_goto C 3491 (by decide) dL_law_971 ?_
  exact lq_sub [2, 6] rfl (law_tail C (Nat.le_of_ble_eq_true rfl) (Nat.le_of_ble_eq_true rfl))
set_option maxHeartbeats 8000000 in
set_option maxRecDepth 100000 in
theorem law_case15 (C : lC p l s m meth c b 6 xs D Y tp dp) {S : cS} {a : Nat → Nat} {v : Nat → Int32} {f : Nat → Nat → Int32} {g : Nat → Nat → Int64} {x out q1 q2 q3 q10 q11 q15 q19 q20 q21 q22 q23 q29 q30 q37 : Nat} (F : cFr S dp x out q1 q2 q3 q10 q11 q15 q19 q20 q21 q22 q23 q29 q30 q37) (M : mFr v f g) : lG p l e s m below meth c b D Y 174 409927 974 [(4, .int (nI 0)), (3, .ref out), (2, .ref (a 0)), (1, .ref x), (0, .ref b)] [] S a v f g := by
  have hlt := C.2.2.2.2.2.2.2.2.2.2.1
  obtain ⟨FeI_q30_0, FeI_q30_1, Fi_195_q23, Fi_289_q11, Fi_289_q15, Fi_289_q2, Fi_33_q37, Fi_361_x, Fi_366_x, Fi_368_x, Fi_369_x, Fi_36_q37, Fi_370_x, Fi_37_q37, Fi_384_q19, Fi_384_q22, Fi_386_q19, Fi_386_q21, Fi_386_q22, Fk_out, Fk_q1, Fk_q10, Fk_q11, Fk_q15, Fk_q19, Fk_q2, Fk_q20, Fk_q21, Fk_q22, Fk_q23, Fk_q29, Fk_q3, Fk_q30, Fk_q37, Fk_x, Fm_out, Fm_q1, Fm_q10, Fm_q11, Fm_q15, Fm_q19, Fm_q2, Fm_q20, Fm_q21, Fm_q22, Fm_q23, Fm_q29, Fm_q3, Fm_q30, Fm_q37, Fm_x, Fn_out, Fn_q3, Fn_q30, Fr_224_q29, Fr_288_q2, Fr_321_q20, Fr_352_x, Fr_353_x, Fr_354_x, Fr_355_x, Fr_356_x, Fr_358_x, Fr_359_x, Fr_360_x, Fr_362_x, Fr_364_x, Fr_365_x, Fr_385_q19, Fr_385_q22, Fr_3_q10, Fr_4_q10, Fr_96_q1⟩ := F
  obtain ⟨Mall_21, Mall_22, Mf_29_0, Mf_29_1, Mf_29_2, Mf_29_3, Mf_29_4, Mf_49_0, Mf_49_1, Mf_8_0, Mf_8_1, Mg_7_0, Mg_7_1, Mg_7_10, Mg_7_11, Mg_7_12, Mg_7_13, Mg_7_14, Mg_7_15, Mg_7_16, Mg_7_17, Mg_7_18, Mg_7_19, Mg_7_2, Mg_7_20, Mg_7_21, Mg_7_22, Mg_7_23, Mg_7_24, Mg_7_25, Mg_7_26, Mg_7_27, Mg_7_28, Mg_7_29, Mg_7_3, Mg_7_30, Mg_7_31, Mg_7_32, Mg_7_33, Mg_7_34, Mg_7_35, Mg_7_36, Mg_7_37, Mg_7_38, Mg_7_39, Mg_7_4, Mg_7_5, Mg_7_6, Mg_7_7, Mg_7_8, Mg_7_9, Mv_13, Mv_14, Mv_2, Mv_20, Mv_29, Mv_34, Mv_35, Mv_40, Mv_48, Mv_49, Mv_72, Mv_88, Mv_89, Mv_90, Mv_96, Mv_97, Mv_98⟩ := M
  obtain ⟨v1, e_v1⟩ : ∃ z : Int32, xs 1 = z := ⟨_, rfl⟩
  obtain ⟨v2, e_v2⟩ : ∃ z : Int32, xs 2 = z := ⟨_, rfl⟩
  obtain ⟨v3, e_v3⟩ : ∃ z : Int32, xs 3 = z := ⟨_, rfl⟩
  obtain ⟨v4, e_v4⟩ : ∃ z : Int32, xs 4 = z := ⟨_, rfl⟩
  obtain ⟨v5, e_v5⟩ : ∃ z : Int32, xs 5 = z := ⟨_, rfl⟩
  refine lq_aload_n C (i := 1) rfl 3 rfl dL_law_974 ?_
  refine lq_callW C (z101_L_drop l hlt S dp x Fi_370_x Fk_x Fm_x Fr_359_x) lH_241 rfl rfl ⟨by decide, by decide⟩ ⟨Nat.le_of_ble_eq_true rfl, Nat.le_of_ble_eq_true rfl⟩ rfl (Nat.le_of_ble_eq_true rfl) dL_law_975 (fun r_975 u_975 h_975 => ?_)
  obtain ⟨hr_975, hu_975⟩ := h_975
  have hw_975 := hu_975.symm
  subst hw_975
  have hx_975 := hr_975.symm
  subst hx_975
  refine lq_istore C (lv' := [(5, .int (nI 1)), (4, .int (nI 0)), (3, .ref out), (2, .ref (a 0)), (1, .ref x), (0, .ref b)]) (by decide) rfl dL_law_978 ?_
  refine lq_aload_n C (i := 2) rfl 3 rfl dL_law_980 ?_
  refine lq_doMv C (w60_drop l v f g Mv_98 Mv_40) lM_244 rfl rfl ⟨by decide, by decide⟩ ⟨Nat.le_of_ble_eq_true rfl, Nat.le_of_ble_eq_true rfl⟩ rfl (Nat.le_of_ble_eq_true rfl) dL_law_981 ?_
  refine lq_aload_n C (i := 2) rfl 3 rfl dL_law_984 ?_
  refine lq_doM C (w4_thrown l (upd v 99 (nI 1)) f g rfl) lM_192 rfl rfl ⟨by decide, by decide⟩ ⟨Nat.le_of_ble_eq_true rfl, Nat.le_of_ble_eq_true rfl⟩ rfl (Nat.le_of_ble_eq_true rfl) dL_law_985 ?_
  refine lq_iload C 0 rfl dL_law_988 ?_
  refine lq_icmp_eq C 995 (by decide) dL_law_990 (fun _ => ?_) (fun c_ => absurd (by decide) c_)
  refine lq_goto C 3491 (by decide) dL_law_995 ?_
  exact lq_sub [1, 5] rfl (law_tail C (Nat.le_of_ble_eq_true rfl) (Nat.le_of_ble_eq_true rfl))
set_option maxHeartbeats 8000000 in
set_option maxRecDepth 100000 in
theorem law_case16 (C : lC p l s m meth c b 6 xs D Y tp dp) {S : cS} {a : Nat → Nat} {v : Nat → Int32} {f : Nat → Nat → Int32} {g : Nat → Nat → Int64} {x out q1 q2 q3 q10 q11 q15 q19 q20 q21 q22 q23 q29 q30 q37 : Nat} (F : cFr S dp x out q1 q2 q3 q10 q11 q15 q19 q20 q21 q22 q23 q29 q30 q37) (M : mFr v f g) : lG p l e s m below meth c b D Y 174 409927 998 [(4, .int (nI 0)), (3, .ref out), (2, .ref (a 0)), (1, .ref x), (0, .ref b)] [] S a v f g := by
  have hlt := C.2.2.2.2.2.2.2.2.2.2.1
  obtain ⟨FeI_q30_0, FeI_q30_1, Fi_195_q23, Fi_289_q11, Fi_289_q15, Fi_289_q2, Fi_33_q37, Fi_361_x, Fi_366_x, Fi_368_x, Fi_369_x, Fi_36_q37, Fi_370_x, Fi_37_q37, Fi_384_q19, Fi_384_q22, Fi_386_q19, Fi_386_q21, Fi_386_q22, Fk_out, Fk_q1, Fk_q10, Fk_q11, Fk_q15, Fk_q19, Fk_q2, Fk_q20, Fk_q21, Fk_q22, Fk_q23, Fk_q29, Fk_q3, Fk_q30, Fk_q37, Fk_x, Fm_out, Fm_q1, Fm_q10, Fm_q11, Fm_q15, Fm_q19, Fm_q2, Fm_q20, Fm_q21, Fm_q22, Fm_q23, Fm_q29, Fm_q3, Fm_q30, Fm_q37, Fm_x, Fn_out, Fn_q3, Fn_q30, Fr_224_q29, Fr_288_q2, Fr_321_q20, Fr_352_x, Fr_353_x, Fr_354_x, Fr_355_x, Fr_356_x, Fr_358_x, Fr_359_x, Fr_360_x, Fr_362_x, Fr_364_x, Fr_365_x, Fr_385_q19, Fr_385_q22, Fr_3_q10, Fr_4_q10, Fr_96_q1⟩ := F
  obtain ⟨Mall_21, Mall_22, Mf_29_0, Mf_29_1, Mf_29_2, Mf_29_3, Mf_29_4, Mf_49_0, Mf_49_1, Mf_8_0, Mf_8_1, Mg_7_0, Mg_7_1, Mg_7_10, Mg_7_11, Mg_7_12, Mg_7_13, Mg_7_14, Mg_7_15, Mg_7_16, Mg_7_17, Mg_7_18, Mg_7_19, Mg_7_2, Mg_7_20, Mg_7_21, Mg_7_22, Mg_7_23, Mg_7_24, Mg_7_25, Mg_7_26, Mg_7_27, Mg_7_28, Mg_7_29, Mg_7_3, Mg_7_30, Mg_7_31, Mg_7_32, Mg_7_33, Mg_7_34, Mg_7_35, Mg_7_36, Mg_7_37, Mg_7_38, Mg_7_39, Mg_7_4, Mg_7_5, Mg_7_6, Mg_7_7, Mg_7_8, Mg_7_9, Mv_13, Mv_14, Mv_2, Mv_20, Mv_29, Mv_34, Mv_35, Mv_40, Mv_48, Mv_49, Mv_72, Mv_88, Mv_89, Mv_90, Mv_96, Mv_97, Mv_98⟩ := M
  rcases c_sgn (xs 1) with hneg_v1 | ⟨v1, hr_v1, e_v1⟩
  · obtain ⟨v1, e_v1⟩ : ∃ z : Int32, xs 1 = z := ⟨_, rfl⟩
    rw [e_v1] at hneg_v1
    obtain ⟨v2, e_v2⟩ : ∃ z : Int32, xs 2 = z := ⟨_, rfl⟩
    obtain ⟨v3, e_v3⟩ : ∃ z : Int32, xs 3 = z := ⟨_, rfl⟩
    obtain ⟨v4, e_v4⟩ : ∃ z : Int32, xs 4 = z := ⟨_, rfl⟩
    obtain ⟨v5, e_v5⟩ : ∃ z : Int32, xs 5 = z := ⟨_, rfl⟩
    refine lq_aload_n C (i := 1) rfl 3 rfl dL_law_998 ?_
    refine lq_aload_n C (i := 0) rfl 4 rfl dL_law_999 ?_
    refine lq_iload C 0 rfl dL_law_1000 ?_
    refine lq_iconst C (x := nI 1) rfl dL_law_1002 ?_
    refine lq_iadd C dL_law_1003 ?_
    refine lq_cast (.int (nI 1)) (congrArg Value.int (by decide)) ?_
    refine lq_sld C 1 (by decide) (by decide) dL_law_1004 ?_
    refine lq_cast (.int v1) (congrArg Value.int e_v1) ?_
    refine lq_callW C (z103_L_crashAt l hlt S dp x v1 hneg_v1 Fm_x Fk_x) lH_245 rfl rfl ⟨by decide, by decide⟩ ⟨Nat.le_of_ble_eq_true rfl, Nat.le_of_ble_eq_true rfl⟩ rfl (Nat.le_of_ble_eq_true rfl) dL_law_1005 (fun r_1005 u_1005 h_1005 => ?_)
    obtain ⟨hr_1005, hu_1005⟩ := h_1005
    have hw_1005 := hu_1005.symm
    subst hw_1005
    have hx_1005 := hr_1005.symm
    subst hx_1005
    refine lq_istore C (lv' := [(5, .int (nI 1)), (4, .int (nI 0)), (3, .ref out), (2, .ref (a 0)), (1, .ref x), (0, .ref b)]) (by decide) rfl dL_law_1008 ?_
    refine lq_aload_n C (i := 2) rfl 3 rfl dL_law_1010 ?_
    refine lq_aload_n C (i := 0) rfl 5 rfl dL_law_1011 ?_
    refine lq_iload C 1 rfl dL_law_1012 ?_
    refine lq_iconst C (x := nI 1) rfl dL_law_1014 ?_
    refine lq_iadd C dL_law_1015 ?_
    refine lq_cast (.int (nI 1)) (congrArg Value.int (by decide)) ?_
    refine lq_sld C 1 (by decide) (by decide) dL_law_1016 ?_
    refine lq_cast (.int v1) (congrArg Value.int e_v1) ?_
    refine lq_doMv C (w62_crashAt l v f g v1 hneg_v1 Mv_98) lM_248 rfl rfl ⟨by decide, by decide⟩ ⟨Nat.le_of_ble_eq_true rfl, Nat.le_of_ble_eq_true rfl⟩ rfl (Nat.le_of_ble_eq_true rfl) dL_law_1017 ?_
    refine lq_aload_n C (i := 2) rfl 3 rfl dL_law_1020 ?_
    refine lq_doM C (w4_thrown l (upd v 99 (nI 1)) f g rfl) lM_192 rfl rfl ⟨by decide, by decide⟩ ⟨Nat.le_of_ble_eq_true rfl, Nat.le_of_ble_eq_true rfl⟩ rfl (Nat.le_of_ble_eq_true rfl) dL_law_1021 ?_
    refine lq_iload C 0 rfl dL_law_1024 ?_
    refine lq_icmp_eq C 1031 (by decide) dL_law_1026 (fun _ => ?_) (fun c_ => absurd (by decide) c_)
    refine lq_goto C 3491 (by decide) dL_law_1031 ?_
    exact lq_sub [1, 5] rfl (law_tail C (Nat.le_of_ble_eq_true rfl) (Nat.le_of_ble_eq_true rfl))
  · rcases Nat.lt_or_ge v1 1001 with hlt_v1 | hlt_v1
    · obtain ⟨v2, e_v2⟩ : ∃ z : Int32, xs 2 = z := ⟨_, rfl⟩
      obtain ⟨v3, e_v3⟩ : ∃ z : Int32, xs 3 = z := ⟨_, rfl⟩
      obtain ⟨v4, e_v4⟩ : ∃ z : Int32, xs 4 = z := ⟨_, rfl⟩
      obtain ⟨v5, e_v5⟩ : ∃ z : Int32, xs 5 = z := ⟨_, rfl⟩
      refine lq_aload_n C (i := 1) rfl 3 rfl dL_law_998 ?_
      refine lq_aload_n C (i := 0) rfl 4 rfl dL_law_999 ?_
      refine lq_iload C 0 rfl dL_law_1000 ?_
      refine lq_iconst C (x := nI 1) rfl dL_law_1002 ?_
      refine lq_iadd C dL_law_1003 ?_
      refine lq_cast (.int (nI 1)) (congrArg Value.int (by decide)) ?_
      refine lq_sld C 1 (by decide) (by decide) dL_law_1004 ?_
      refine lq_cast (.int (nI v1)) (congrArg Value.int e_v1) ?_
      refine lq_callW C (z105_L_crashAt l hlt S dp x v1 (by omega) Fi_370_x Fk_x Fm_x) lH_245 rfl rfl ⟨by decide, by decide⟩ ⟨Nat.le_of_ble_eq_true rfl, Nat.le_of_ble_eq_true rfl⟩ rfl (Nat.le_of_ble_eq_true rfl) dL_law_1005 (fun r_1005 u_1005 h_1005 => ?_)
      obtain ⟨S1, hS1, hr_1005, hu_1005⟩ := h_1005
      have hw_1005 := hu_1005.symm
      subst hw_1005
      have hx_1005 := hr_1005.symm
      subst hx_1005
      refine lq_istore C (lv' := [(5, .int (nI 0)), (4, .int (nI 0)), (3, .ref out), (2, .ref (a 0)), (1, .ref x), (0, .ref b)]) (by decide) rfl dL_law_1008 ?_
      refine lq_aload_n C (i := 2) rfl 3 rfl dL_law_1010 ?_
      refine lq_aload_n C (i := 0) rfl 5 rfl dL_law_1011 ?_
      refine lq_iload C 1 rfl dL_law_1012 ?_
      refine lq_iconst C (x := nI 1) rfl dL_law_1014 ?_
      refine lq_iadd C dL_law_1015 ?_
      refine lq_cast (.int (nI 1)) (congrArg Value.int (by decide)) ?_
      refine lq_sld C 1 (by decide) (by decide) dL_law_1016 ?_
      refine lq_cast (.int (nI v1)) (congrArg Value.int e_v1) ?_
      refine lq_doMv C (w64_crashAt l v f g v1 (by omega) Mv_98) lM_248 rfl rfl ⟨by decide, by decide⟩ ⟨Nat.le_of_ble_eq_true rfl, Nat.le_of_ble_eq_true rfl⟩ rfl (Nat.le_of_ble_eq_true rfl) dL_law_1017 ?_
      refine lq_aload_n C (i := 2) rfl 3 rfl dL_law_1020 ?_
      refine lq_doM C (w8_thrown l (upd (upd v 99 (nI 0)) 97 (nI v1)) f g rfl) lM_192 rfl rfl ⟨by decide, by decide⟩ ⟨Nat.le_of_ble_eq_true rfl, Nat.le_of_ble_eq_true rfl⟩ rfl (Nat.le_of_ble_eq_true rfl) dL_law_1021 ?_
      refine lq_iload C 0 rfl dL_law_1024 ?_
      refine lq_icmp_eq C 1031 (by decide) dL_law_1026 (fun _ => ?_) (fun c_ => absurd (by decide) c_)
      refine lq_goto C 3491 (by decide) dL_law_1031 ?_
      exact lq_sub [1, 5] rfl (law_tail C (Nat.le_of_ble_eq_true rfl) (Nat.le_of_ble_eq_true rfl))
    · obtain ⟨v2, e_v2⟩ : ∃ z : Int32, xs 2 = z := ⟨_, rfl⟩
      obtain ⟨v3, e_v3⟩ : ∃ z : Int32, xs 3 = z := ⟨_, rfl⟩
      obtain ⟨v4, e_v4⟩ : ∃ z : Int32, xs 4 = z := ⟨_, rfl⟩
      obtain ⟨v5, e_v5⟩ : ∃ z : Int32, xs 5 = z := ⟨_, rfl⟩
      refine lq_aload_n C (i := 1) rfl 3 rfl dL_law_998 ?_
      refine lq_aload_n C (i := 0) rfl 4 rfl dL_law_999 ?_
      refine lq_iload C 0 rfl dL_law_1000 ?_
      refine lq_iconst C (x := nI 1) rfl dL_law_1002 ?_
      refine lq_iadd C dL_law_1003 ?_
      refine lq_cast (.int (nI 1)) (congrArg Value.int (by decide)) ?_
      refine lq_sld C 1 (by decide) (by decide) dL_law_1004 ?_
      refine lq_cast (.int (nI v1)) (congrArg Value.int e_v1) ?_
      refine lq_callW C (z107_L_crashAt l hlt S dp x v1 (by omega) (by omega) Fm_x Fk_x) lH_245 rfl rfl ⟨by decide, by decide⟩ ⟨Nat.le_of_ble_eq_true rfl, Nat.le_of_ble_eq_true rfl⟩ rfl (Nat.le_of_ble_eq_true rfl) dL_law_1005 (fun r_1005 u_1005 h_1005 => ?_)
      obtain ⟨hr_1005, hu_1005⟩ := h_1005
      have hw_1005 := hu_1005.symm
      subst hw_1005
      have hx_1005 := hr_1005.symm
      subst hx_1005
      refine lq_istore C (lv' := [(5, .int (nI 1)), (4, .int (nI 0)), (3, .ref out), (2, .ref (a 0)), (1, .ref x), (0, .ref b)]) (by decide) rfl dL_law_1008 ?_
      refine lq_aload_n C (i := 2) rfl 3 rfl dL_law_1010 ?_
      refine lq_aload_n C (i := 0) rfl 5 rfl dL_law_1011 ?_
      refine lq_iload C 1 rfl dL_law_1012 ?_
      refine lq_iconst C (x := nI 1) rfl dL_law_1014 ?_
      refine lq_iadd C dL_law_1015 ?_
      refine lq_cast (.int (nI 1)) (congrArg Value.int (by decide)) ?_
      refine lq_sld C 1 (by decide) (by decide) dL_law_1016 ?_
      refine lq_cast (.int (nI v1)) (congrArg Value.int e_v1) ?_
      refine lq_doMv C (w66_crashAt l v f g v1 (by omega) (by omega) Mv_98) lM_248 rfl rfl ⟨by decide, by decide⟩ ⟨Nat.le_of_ble_eq_true rfl, Nat.le_of_ble_eq_true rfl⟩ rfl (Nat.le_of_ble_eq_true rfl) dL_law_1017 ?_
      refine lq_aload_n C (i := 2) rfl 3 rfl dL_law_1020 ?_
      refine lq_doM C (w4_thrown l (upd v 99 (nI 1)) f g rfl) lM_192 rfl rfl ⟨by decide, by decide⟩ ⟨Nat.le_of_ble_eq_true rfl, Nat.le_of_ble_eq_true rfl⟩ rfl (Nat.le_of_ble_eq_true rfl) dL_law_1021 ?_
      refine lq_iload C 0 rfl dL_law_1024 ?_
      refine lq_icmp_eq C 1031 (by decide) dL_law_1026 (fun _ => ?_) (fun c_ => absurd (by decide) c_)
      refine lq_goto C 3491 (by decide) dL_law_1031 ?_
      exact lq_sub [1, 5] rfl (law_tail C (Nat.le_of_ble_eq_true rfl) (Nat.le_of_ble_eq_true rfl))
set_option maxHeartbeats 8000000 in
set_option maxRecDepth 100000 in
theorem law_case17 (C : lC p l s m meth c b 6 xs D Y tp dp) {S : cS} {a : Nat → Nat} {v : Nat → Int32} {f : Nat → Nat → Int32} {g : Nat → Nat → Int64} {x out q1 q2 q3 q10 q11 q15 q19 q20 q21 q22 q23 q29 q30 q37 : Nat} (F : cFr S dp x out q1 q2 q3 q10 q11 q15 q19 q20 q21 q22 q23 q29 q30 q37) (M : mFr v f g) : lG p l e s m below meth c b D Y 174 409927 1034 [(4, .int (nI 0)), (3, .ref out), (2, .ref (a 0)), (1, .ref x), (0, .ref b)] [] S a v f g := by
  have hlt := C.2.2.2.2.2.2.2.2.2.2.1
  obtain ⟨FeI_q30_0, FeI_q30_1, Fi_195_q23, Fi_289_q11, Fi_289_q15, Fi_289_q2, Fi_33_q37, Fi_361_x, Fi_366_x, Fi_368_x, Fi_369_x, Fi_36_q37, Fi_370_x, Fi_37_q37, Fi_384_q19, Fi_384_q22, Fi_386_q19, Fi_386_q21, Fi_386_q22, Fk_out, Fk_q1, Fk_q10, Fk_q11, Fk_q15, Fk_q19, Fk_q2, Fk_q20, Fk_q21, Fk_q22, Fk_q23, Fk_q29, Fk_q3, Fk_q30, Fk_q37, Fk_x, Fm_out, Fm_q1, Fm_q10, Fm_q11, Fm_q15, Fm_q19, Fm_q2, Fm_q20, Fm_q21, Fm_q22, Fm_q23, Fm_q29, Fm_q3, Fm_q30, Fm_q37, Fm_x, Fn_out, Fn_q3, Fn_q30, Fr_224_q29, Fr_288_q2, Fr_321_q20, Fr_352_x, Fr_353_x, Fr_354_x, Fr_355_x, Fr_356_x, Fr_358_x, Fr_359_x, Fr_360_x, Fr_362_x, Fr_364_x, Fr_365_x, Fr_385_q19, Fr_385_q22, Fr_3_q10, Fr_4_q10, Fr_96_q1⟩ := F
  obtain ⟨Mall_21, Mall_22, Mf_29_0, Mf_29_1, Mf_29_2, Mf_29_3, Mf_29_4, Mf_49_0, Mf_49_1, Mf_8_0, Mf_8_1, Mg_7_0, Mg_7_1, Mg_7_10, Mg_7_11, Mg_7_12, Mg_7_13, Mg_7_14, Mg_7_15, Mg_7_16, Mg_7_17, Mg_7_18, Mg_7_19, Mg_7_2, Mg_7_20, Mg_7_21, Mg_7_22, Mg_7_23, Mg_7_24, Mg_7_25, Mg_7_26, Mg_7_27, Mg_7_28, Mg_7_29, Mg_7_3, Mg_7_30, Mg_7_31, Mg_7_32, Mg_7_33, Mg_7_34, Mg_7_35, Mg_7_36, Mg_7_37, Mg_7_38, Mg_7_39, Mg_7_4, Mg_7_5, Mg_7_6, Mg_7_7, Mg_7_8, Mg_7_9, Mv_13, Mv_14, Mv_2, Mv_20, Mv_29, Mv_34, Mv_35, Mv_40, Mv_48, Mv_49, Mv_72, Mv_88, Mv_89, Mv_90, Mv_96, Mv_97, Mv_98⟩ := M
  obtain ⟨v1, e_v1⟩ : ∃ z : Int32, xs 1 = z := ⟨_, rfl⟩
  obtain ⟨v2, e_v2⟩ : ∃ z : Int32, xs 2 = z := ⟨_, rfl⟩
  obtain ⟨v3, e_v3⟩ : ∃ z : Int32, xs 3 = z := ⟨_, rfl⟩
  obtain ⟨v4, e_v4⟩ : ∃ z : Int32, xs 4 = z := ⟨_, rfl⟩
  obtain ⟨v5, e_v5⟩ : ∃ z : Int32, xs 5 = z := ⟨_, rfl⟩
  refine lq_aload_n C (i := 1) rfl 3 rfl dL_law_1034 ?_
  refine lq_aload_n C (i := 3) rfl 1 rfl dL_law_1035 ?_
  refine lq_callW C (z109_L_open l hlt S dp x out Fi_370_x Fk_x Fm_x) lH_249 rfl rfl ⟨by decide, by decide⟩ ⟨Nat.le_of_ble_eq_true rfl, Nat.le_of_ble_eq_true rfl⟩ rfl (Nat.le_of_ble_eq_true rfl) dL_law_1036 (fun r_1036 u_1036 h_1036 => ?_)
  obtain ⟨hr_1036, hu_1036⟩ := h_1036
  have hw_1036 := hu_1036.symm
  subst hw_1036
  have hx_1036 := hr_1036.symm
  subst hx_1036
  refine lq_istore C (lv' := [(5, .int (nI 1)), (4, .int (nI 0)), (3, .ref out), (2, .ref (a 0)), (1, .ref x), (0, .ref b)]) (by decide) rfl dL_law_1039 ?_
  refine lq_aload_n C (i := 2) rfl 3 rfl dL_law_1041 ?_
  refine lq_doM C (w67_open l v f g Mv_98) lM_251 rfl rfl ⟨by decide, by decide⟩ ⟨Nat.le_of_ble_eq_true rfl, Nat.le_of_ble_eq_true rfl⟩ rfl (Nat.le_of_ble_eq_true rfl) dL_law_1042 ?_
  refine lq_istore C (lv' := [(6, .int (nI 0)), (5, .int (nI 1)), (4, .int (nI 0)), (3, .ref out), (2, .ref (a 0)), (1, .ref x), (0, .ref b)]) (by decide) rfl dL_law_1045 ?_
  refine lq_aload_n C (i := 2) rfl 4 rfl dL_law_1047 ?_
  refine lq_doM C (w4_thrown l (upd v 99 (nI 1)) f g rfl) lM_192 rfl rfl ⟨by decide, by decide⟩ ⟨Nat.le_of_ble_eq_true rfl, Nat.le_of_ble_eq_true rfl⟩ rfl (Nat.le_of_ble_eq_true rfl) dL_law_1048 ?_
  refine lq_iload C 1 rfl dL_law_1051 ?_
  refine lq_icmp_eq C 1058 (by decide) dL_law_1053 (fun _ => ?_) (fun c_ => absurd (by decide) c_)
  refine lq_iload C 1 rfl dL_law_1058 ?_
  refine lq_if_ne C 1075 (by decide) dL_law_1060 (fun _ => ?_) (fun c_ => absurd c_ (by decide))
  refine lq_goto C 3491 (by decide) dL_law_1075 ?_
  exact lq_sub [2, 6] rfl (law_tail C (Nat.le_of_ble_eq_true rfl) (Nat.le_of_ble_eq_true rfl))
set_option maxHeartbeats 8000000 in
set_option maxRecDepth 100000 in
theorem law_case18 (C : lC p l s m meth c b 6 xs D Y tp dp) {S : cS} {a : Nat → Nat} {v : Nat → Int32} {f : Nat → Nat → Int32} {g : Nat → Nat → Int64} {x out q1 q2 q3 q10 q11 q15 q19 q20 q21 q22 q23 q29 q30 q37 : Nat} (F : cFr S dp x out q1 q2 q3 q10 q11 q15 q19 q20 q21 q22 q23 q29 q30 q37) (M : mFr v f g) : lG p l e s m below meth c b D Y 174 409927 1078 [(4, .int (nI 0)), (3, .ref out), (2, .ref (a 0)), (1, .ref x), (0, .ref b)] [] S a v f g := by
  have hlt := C.2.2.2.2.2.2.2.2.2.2.1
  obtain ⟨FeI_q30_0, FeI_q30_1, Fi_195_q23, Fi_289_q11, Fi_289_q15, Fi_289_q2, Fi_33_q37, Fi_361_x, Fi_366_x, Fi_368_x, Fi_369_x, Fi_36_q37, Fi_370_x, Fi_37_q37, Fi_384_q19, Fi_384_q22, Fi_386_q19, Fi_386_q21, Fi_386_q22, Fk_out, Fk_q1, Fk_q10, Fk_q11, Fk_q15, Fk_q19, Fk_q2, Fk_q20, Fk_q21, Fk_q22, Fk_q23, Fk_q29, Fk_q3, Fk_q30, Fk_q37, Fk_x, Fm_out, Fm_q1, Fm_q10, Fm_q11, Fm_q15, Fm_q19, Fm_q2, Fm_q20, Fm_q21, Fm_q22, Fm_q23, Fm_q29, Fm_q3, Fm_q30, Fm_q37, Fm_x, Fn_out, Fn_q3, Fn_q30, Fr_224_q29, Fr_288_q2, Fr_321_q20, Fr_352_x, Fr_353_x, Fr_354_x, Fr_355_x, Fr_356_x, Fr_358_x, Fr_359_x, Fr_360_x, Fr_362_x, Fr_364_x, Fr_365_x, Fr_385_q19, Fr_385_q22, Fr_3_q10, Fr_4_q10, Fr_96_q1⟩ := F
  obtain ⟨Mall_21, Mall_22, Mf_29_0, Mf_29_1, Mf_29_2, Mf_29_3, Mf_29_4, Mf_49_0, Mf_49_1, Mf_8_0, Mf_8_1, Mg_7_0, Mg_7_1, Mg_7_10, Mg_7_11, Mg_7_12, Mg_7_13, Mg_7_14, Mg_7_15, Mg_7_16, Mg_7_17, Mg_7_18, Mg_7_19, Mg_7_2, Mg_7_20, Mg_7_21, Mg_7_22, Mg_7_23, Mg_7_24, Mg_7_25, Mg_7_26, Mg_7_27, Mg_7_28, Mg_7_29, Mg_7_3, Mg_7_30, Mg_7_31, Mg_7_32, Mg_7_33, Mg_7_34, Mg_7_35, Mg_7_36, Mg_7_37, Mg_7_38, Mg_7_39, Mg_7_4, Mg_7_5, Mg_7_6, Mg_7_7, Mg_7_8, Mg_7_9, Mv_13, Mv_14, Mv_2, Mv_20, Mv_29, Mv_34, Mv_35, Mv_40, Mv_48, Mv_49, Mv_72, Mv_88, Mv_89, Mv_90, Mv_96, Mv_97, Mv_98⟩ := M
  obtain ⟨v1, e_v1⟩ : ∃ z : Int32, xs 1 = z := ⟨_, rfl⟩
  obtain ⟨v2, e_v2⟩ : ∃ z : Int32, xs 2 = z := ⟨_, rfl⟩
  obtain ⟨v3, e_v3⟩ : ∃ z : Int32, xs 3 = z := ⟨_, rfl⟩
  obtain ⟨v4, e_v4⟩ : ∃ z : Int32, xs 4 = z := ⟨_, rfl⟩
  obtain ⟨v5, e_v5⟩ : ∃ z : Int32, xs 5 = z := ⟨_, rfl⟩
  refine lq_aload_n C (i := 1) rfl 3 rfl dL_law_1078 ?_
  refine lq_callC C (z110_X11_isDown l hlt S dp x Fi_370_x Fk_x Fm_x) cc_L_252 Fm_x Fk_x (by decide) rfl rfl ⟨by decide, by decide⟩ ⟨Nat.le_of_ble_eq_true rfl, Nat.le_of_ble_eq_true rfl⟩ rfl (Nat.le_of_ble_eq_true rfl) dL_law_1079 (fun r_1079 u_1079 h_1079 => ?_)
  obtain ⟨hr_1079, hu_1079⟩ := h_1079
  have hw_1079 := hu_1079.symm
  subst hw_1079
  have hx_1079 := hr_1079.symm
  subst hx_1079
  refine lq_aload_n C (i := 2) rfl 2 rfl dL_law_1082 ?_
  refine lq_doM C (w68_isDown l v f g Mv_98) lM_256 rfl rfl ⟨by decide, by decide⟩ ⟨Nat.le_of_ble_eq_true rfl, Nat.le_of_ble_eq_true rfl⟩ rfl (Nat.le_of_ble_eq_true rfl) dL_law_1083 ?_
  refine lq_icmp_eq C 3491 (by decide) dL_law_1086 (fun _ => ?_) (fun c_ => absurd (by decide) c_)
  exact lq_sub [0, 4] rfl (law_tail C (Nat.le_of_ble_eq_true rfl) (Nat.le_of_ble_eq_true rfl))
set_option maxHeartbeats 8000000 in
set_option maxRecDepth 100000 in
theorem law_case19 (C : lC p l s m meth c b 6 xs D Y tp dp) {S : cS} {a : Nat → Nat} {v : Nat → Int32} {f : Nat → Nat → Int32} {g : Nat → Nat → Int64} {x out q1 q2 q3 q10 q11 q15 q19 q20 q21 q22 q23 q29 q30 q37 : Nat} (F : cFr S dp x out q1 q2 q3 q10 q11 q15 q19 q20 q21 q22 q23 q29 q30 q37) (M : mFr v f g) : lG p l e s m below meth c b D Y 174 409927 1091 [(4, .int (nI 0)), (3, .ref out), (2, .ref (a 0)), (1, .ref x), (0, .ref b)] [] S a v f g := by
  have hlt := C.2.2.2.2.2.2.2.2.2.2.1
  obtain ⟨FeI_q30_0, FeI_q30_1, Fi_195_q23, Fi_289_q11, Fi_289_q15, Fi_289_q2, Fi_33_q37, Fi_361_x, Fi_366_x, Fi_368_x, Fi_369_x, Fi_36_q37, Fi_370_x, Fi_37_q37, Fi_384_q19, Fi_384_q22, Fi_386_q19, Fi_386_q21, Fi_386_q22, Fk_out, Fk_q1, Fk_q10, Fk_q11, Fk_q15, Fk_q19, Fk_q2, Fk_q20, Fk_q21, Fk_q22, Fk_q23, Fk_q29, Fk_q3, Fk_q30, Fk_q37, Fk_x, Fm_out, Fm_q1, Fm_q10, Fm_q11, Fm_q15, Fm_q19, Fm_q2, Fm_q20, Fm_q21, Fm_q22, Fm_q23, Fm_q29, Fm_q3, Fm_q30, Fm_q37, Fm_x, Fn_out, Fn_q3, Fn_q30, Fr_224_q29, Fr_288_q2, Fr_321_q20, Fr_352_x, Fr_353_x, Fr_354_x, Fr_355_x, Fr_356_x, Fr_358_x, Fr_359_x, Fr_360_x, Fr_362_x, Fr_364_x, Fr_365_x, Fr_385_q19, Fr_385_q22, Fr_3_q10, Fr_4_q10, Fr_96_q1⟩ := F
  obtain ⟨Mall_21, Mall_22, Mf_29_0, Mf_29_1, Mf_29_2, Mf_29_3, Mf_29_4, Mf_49_0, Mf_49_1, Mf_8_0, Mf_8_1, Mg_7_0, Mg_7_1, Mg_7_10, Mg_7_11, Mg_7_12, Mg_7_13, Mg_7_14, Mg_7_15, Mg_7_16, Mg_7_17, Mg_7_18, Mg_7_19, Mg_7_2, Mg_7_20, Mg_7_21, Mg_7_22, Mg_7_23, Mg_7_24, Mg_7_25, Mg_7_26, Mg_7_27, Mg_7_28, Mg_7_29, Mg_7_3, Mg_7_30, Mg_7_31, Mg_7_32, Mg_7_33, Mg_7_34, Mg_7_35, Mg_7_36, Mg_7_37, Mg_7_38, Mg_7_39, Mg_7_4, Mg_7_5, Mg_7_6, Mg_7_7, Mg_7_8, Mg_7_9, Mv_13, Mv_14, Mv_2, Mv_20, Mv_29, Mv_34, Mv_35, Mv_40, Mv_48, Mv_49, Mv_72, Mv_88, Mv_89, Mv_90, Mv_96, Mv_97, Mv_98⟩ := M
  obtain ⟨v1, e_v1⟩ : ∃ z : Int32, xs 1 = z := ⟨_, rfl⟩
  obtain ⟨v2, e_v2⟩ : ∃ z : Int32, xs 2 = z := ⟨_, rfl⟩
  obtain ⟨v3, e_v3⟩ : ∃ z : Int32, xs 3 = z := ⟨_, rfl⟩
  obtain ⟨v4, e_v4⟩ : ∃ z : Int32, xs 4 = z := ⟨_, rfl⟩
  obtain ⟨v5, e_v5⟩ : ∃ z : Int32, xs 5 = z := ⟨_, rfl⟩
  refine lq_aload_n C (i := 1) rfl 3 rfl dL_law_1091 ?_
  refine lq_aload_n C (i := 3) rfl 1 rfl dL_law_1092 ?_
  refine lq_callW C (z114_L_files l hlt S dp x out q20 q21 q22 Fi_370_x Fk_x Fm_x Fi_366_x Fr_355_x Fr_321_q20 Fk_q20 Fm_q20 Fi_386_q21 Fk_q21 Fm_q21 Fr_356_x Fr_360_x Fi_386_q22 Fk_q22 Fm_q22 Fr_358_x Fr_359_x Fk_out Fm_out Fn_out) lH_257 rfl rfl ⟨by decide, by decide⟩ ⟨Nat.le_of_ble_eq_true rfl, Nat.le_of_ble_eq_true rfl⟩ rfl (Nat.le_of_ble_eq_true rfl) dL_law_1093 (fun r_1093 u_1093 h_1093 => ?_)
  obtain ⟨p1, S1, hf_p1, hS1, S2, hS2, hr_1093, hu_1093⟩ := h_1093
  have hw_1093 := hu_1093.symm
  subst hw_1093
  have hx_1093 := hr_1093.symm
  subst hx_1093
  refine lq_istore C (lv' := [(5, .int (nI 0)), (4, .int (nI 0)), (3, .ref out), (2, .ref (a 0)), (1, .ref x), (0, .ref b)]) (by decide) rfl dL_law_1096 ?_
  refine lq_aload_n C (i := 2) rfl 3 rfl dL_law_1098 ?_
  refine lq_doM C (w70_files l v f g Mv_98 Mv_35 Mv_40 Mv_49 Mv_29) lM_259 rfl rfl ⟨by decide, by decide⟩ ⟨Nat.le_of_ble_eq_true rfl, Nat.le_of_ble_eq_true rfl⟩ rfl (Nat.le_of_ble_eq_true rfl) dL_law_1099 ?_
  refine lq_istore C (lv' := [(6, .int (nI 0)), (5, .int (nI 0)), (4, .int (nI 0)), (3, .ref out), (2, .ref (a 0)), (1, .ref x), (0, .ref b)]) (by decide) rfl dL_law_1102 ?_
  refine lq_aload_n C (i := 2) rfl 4 rfl dL_law_1104 ?_
  refine lq_doM C (w8_thrown l (upd v 99 (nI 0)) f g rfl) lM_192 rfl rfl ⟨by decide, by decide⟩ ⟨Nat.le_of_ble_eq_true rfl, Nat.le_of_ble_eq_true rfl⟩ rfl (Nat.le_of_ble_eq_true rfl) dL_law_1105 ?_
  refine lq_iload C 1 rfl dL_law_1108 ?_
  refine lq_icmp_eq C 1115 (by decide) dL_law_1110 (fun _ => ?_) (fun c_ => absurd (by decide) c_)
  refine lq_iload C 1 rfl dL_law_1115 ?_
  refine lq_if_ne C 1132 (by decide) dL_law_1117 (fun c_ => absurd (by decide) c_) (fun _ => ?_)
  refine lq_aload_n C (i := 3) rfl 3 rfl dL_law_1120 ?_
  refine lq_iconst C (x := nI 0) rfl dL_law_1121 ?_
  refine lq_laload C 0 (hm_SJ hS2 (hm_A hS1 Fm_out)) (hk_SJ hS2 (hk_A hS1 (cm_ne Fm_out hf_p1) Fk_out)) (by rw [show cn _ _ = 1 from (hn_SJ hS2 (hn_A hS1 (cm_ne Fm_out hf_p1) Fn_out))]; decide) (by rw [show cn _ _ = 1 from (hn_SJ hS2 (hn_A hS1 (cm_ne Fm_out hf_p1) Fn_out))]; decide) dL_law_1122 ?_
  refine lq_cast (.long (((nI 0)).toInt64)) (congrArg Value.long (heJ_SJ_s hS2)) ?_
  refine lq_iload C 0 rfl dL_law_1123 ?_
  refine lq_i2l C dL_law_1125 ?_
  refine lq_lcmp C dL_law_1126 ?_
  refine lq_if_eqL C 1132 (by decide) dL_law_1127 ?_
  refine lq_goto C 3491 (by decide) dL_law_1132 ?_
  exact lq_sub [2, 6] rfl (law_tail C (Nat.le_of_ble_eq_true rfl) (Nat.le_of_ble_eq_true rfl))
set_option maxHeartbeats 8000000 in
set_option maxRecDepth 100000 in
theorem law_case20 (C : lC p l s m meth c b 6 xs D Y tp dp) {S : cS} {a : Nat → Nat} {v : Nat → Int32} {f : Nat → Nat → Int32} {g : Nat → Nat → Int64} {x out q1 q2 q3 q10 q11 q15 q19 q20 q21 q22 q23 q29 q30 q37 : Nat} (F : cFr S dp x out q1 q2 q3 q10 q11 q15 q19 q20 q21 q22 q23 q29 q30 q37) (M : mFr v f g) : lG p l e s m below meth c b D Y 174 409927 1135 [(4, .int (nI 0)), (3, .ref out), (2, .ref (a 0)), (1, .ref x), (0, .ref b)] [] S a v f g := by
  have hlt := C.2.2.2.2.2.2.2.2.2.2.1
  obtain ⟨FeI_q30_0, FeI_q30_1, Fi_195_q23, Fi_289_q11, Fi_289_q15, Fi_289_q2, Fi_33_q37, Fi_361_x, Fi_366_x, Fi_368_x, Fi_369_x, Fi_36_q37, Fi_370_x, Fi_37_q37, Fi_384_q19, Fi_384_q22, Fi_386_q19, Fi_386_q21, Fi_386_q22, Fk_out, Fk_q1, Fk_q10, Fk_q11, Fk_q15, Fk_q19, Fk_q2, Fk_q20, Fk_q21, Fk_q22, Fk_q23, Fk_q29, Fk_q3, Fk_q30, Fk_q37, Fk_x, Fm_out, Fm_q1, Fm_q10, Fm_q11, Fm_q15, Fm_q19, Fm_q2, Fm_q20, Fm_q21, Fm_q22, Fm_q23, Fm_q29, Fm_q3, Fm_q30, Fm_q37, Fm_x, Fn_out, Fn_q3, Fn_q30, Fr_224_q29, Fr_288_q2, Fr_321_q20, Fr_352_x, Fr_353_x, Fr_354_x, Fr_355_x, Fr_356_x, Fr_358_x, Fr_359_x, Fr_360_x, Fr_362_x, Fr_364_x, Fr_365_x, Fr_385_q19, Fr_385_q22, Fr_3_q10, Fr_4_q10, Fr_96_q1⟩ := F
  obtain ⟨Mall_21, Mall_22, Mf_29_0, Mf_29_1, Mf_29_2, Mf_29_3, Mf_29_4, Mf_49_0, Mf_49_1, Mf_8_0, Mf_8_1, Mg_7_0, Mg_7_1, Mg_7_10, Mg_7_11, Mg_7_12, Mg_7_13, Mg_7_14, Mg_7_15, Mg_7_16, Mg_7_17, Mg_7_18, Mg_7_19, Mg_7_2, Mg_7_20, Mg_7_21, Mg_7_22, Mg_7_23, Mg_7_24, Mg_7_25, Mg_7_26, Mg_7_27, Mg_7_28, Mg_7_29, Mg_7_3, Mg_7_30, Mg_7_31, Mg_7_32, Mg_7_33, Mg_7_34, Mg_7_35, Mg_7_36, Mg_7_37, Mg_7_38, Mg_7_39, Mg_7_4, Mg_7_5, Mg_7_6, Mg_7_7, Mg_7_8, Mg_7_9, Mv_13, Mv_14, Mv_2, Mv_20, Mv_29, Mv_34, Mv_35, Mv_40, Mv_48, Mv_49, Mv_72, Mv_88, Mv_89, Mv_90, Mv_96, Mv_97, Mv_98⟩ := M
  obtain ⟨v1, e_v1⟩ : ∃ z : Int32, xs 1 = z := ⟨_, rfl⟩
  obtain ⟨v2, e_v2⟩ : ∃ z : Int32, xs 2 = z := ⟨_, rfl⟩
  obtain ⟨v3, e_v3⟩ : ∃ z : Int32, xs 3 = z := ⟨_, rfl⟩
  obtain ⟨v4, e_v4⟩ : ∃ z : Int32, xs 4 = z := ⟨_, rfl⟩
  obtain ⟨v5, e_v5⟩ : ∃ z : Int32, xs 5 = z := ⟨_, rfl⟩
  refine lq_aload_n C (i := 1) rfl 3 rfl dL_law_1135 ?_
  refine lq_callC C (z115_X11_writes l hlt S dp x Fi_368_x Fk_x Fm_x) cc_L_260 Fm_x Fk_x (by decide) rfl rfl ⟨by decide, by decide⟩ ⟨Nat.le_of_ble_eq_true rfl, Nat.le_of_ble_eq_true rfl⟩ rfl (Nat.le_of_ble_eq_true rfl) dL_law_1136 (fun r_1136 u_1136 h_1136 => ?_)
  obtain ⟨hr_1136, hu_1136⟩ := h_1136
  have hw_1136 := hu_1136.symm
  subst hw_1136
  have hx_1136 := hr_1136.symm
  subst hx_1136
  refine lq_aload_n C (i := 2) rfl 2 rfl dL_law_1139 ?_
  refine lq_doM C (w71_writes l v f g Mv_96) lM_263 rfl rfl ⟨by decide, by decide⟩ ⟨Nat.le_of_ble_eq_true rfl, Nat.le_of_ble_eq_true rfl⟩ rfl (Nat.le_of_ble_eq_true rfl) dL_law_1140 ?_
  refine lq_icmp_eq C 3491 (by decide) dL_law_1143 (fun _ => ?_) (fun c_ => absurd (by decide) c_)
  exact lq_sub [0, 4] rfl (law_tail C (Nat.le_of_ble_eq_true rfl) (Nat.le_of_ble_eq_true rfl))
set_option maxHeartbeats 8000000 in
set_option maxRecDepth 100000 in
theorem law_case21 (C : lC p l s m meth c b 6 xs D Y tp dp) {S : cS} {a : Nat → Nat} {v : Nat → Int32} {f : Nat → Nat → Int32} {g : Nat → Nat → Int64} {x out q1 q2 q3 q10 q11 q15 q19 q20 q21 q22 q23 q29 q30 q37 : Nat} (F : cFr S dp x out q1 q2 q3 q10 q11 q15 q19 q20 q21 q22 q23 q29 q30 q37) (M : mFr v f g) : lG p l e s m below meth c b D Y 174 409927 1148 [(4, .int (nI 0)), (3, .ref out), (2, .ref (a 0)), (1, .ref x), (0, .ref b)] [] S a v f g := by
  have hlt := C.2.2.2.2.2.2.2.2.2.2.1
  obtain ⟨FeI_q30_0, FeI_q30_1, Fi_195_q23, Fi_289_q11, Fi_289_q15, Fi_289_q2, Fi_33_q37, Fi_361_x, Fi_366_x, Fi_368_x, Fi_369_x, Fi_36_q37, Fi_370_x, Fi_37_q37, Fi_384_q19, Fi_384_q22, Fi_386_q19, Fi_386_q21, Fi_386_q22, Fk_out, Fk_q1, Fk_q10, Fk_q11, Fk_q15, Fk_q19, Fk_q2, Fk_q20, Fk_q21, Fk_q22, Fk_q23, Fk_q29, Fk_q3, Fk_q30, Fk_q37, Fk_x, Fm_out, Fm_q1, Fm_q10, Fm_q11, Fm_q15, Fm_q19, Fm_q2, Fm_q20, Fm_q21, Fm_q22, Fm_q23, Fm_q29, Fm_q3, Fm_q30, Fm_q37, Fm_x, Fn_out, Fn_q3, Fn_q30, Fr_224_q29, Fr_288_q2, Fr_321_q20, Fr_352_x, Fr_353_x, Fr_354_x, Fr_355_x, Fr_356_x, Fr_358_x, Fr_359_x, Fr_360_x, Fr_362_x, Fr_364_x, Fr_365_x, Fr_385_q19, Fr_385_q22, Fr_3_q10, Fr_4_q10, Fr_96_q1⟩ := F
  obtain ⟨Mall_21, Mall_22, Mf_29_0, Mf_29_1, Mf_29_2, Mf_29_3, Mf_29_4, Mf_49_0, Mf_49_1, Mf_8_0, Mf_8_1, Mg_7_0, Mg_7_1, Mg_7_10, Mg_7_11, Mg_7_12, Mg_7_13, Mg_7_14, Mg_7_15, Mg_7_16, Mg_7_17, Mg_7_18, Mg_7_19, Mg_7_2, Mg_7_20, Mg_7_21, Mg_7_22, Mg_7_23, Mg_7_24, Mg_7_25, Mg_7_26, Mg_7_27, Mg_7_28, Mg_7_29, Mg_7_3, Mg_7_30, Mg_7_31, Mg_7_32, Mg_7_33, Mg_7_34, Mg_7_35, Mg_7_36, Mg_7_37, Mg_7_38, Mg_7_39, Mg_7_4, Mg_7_5, Mg_7_6, Mg_7_7, Mg_7_8, Mg_7_9, Mv_13, Mv_14, Mv_2, Mv_20, Mv_29, Mv_34, Mv_35, Mv_40, Mv_48, Mv_49, Mv_72, Mv_88, Mv_89, Mv_90, Mv_96, Mv_97, Mv_98⟩ := M
  obtain ⟨v1, e_v1⟩ : ∃ z : Int32, xs 1 = z := ⟨_, rfl⟩
  obtain ⟨v2, e_v2⟩ : ∃ z : Int32, xs 2 = z := ⟨_, rfl⟩
  obtain ⟨v3, e_v3⟩ : ∃ z : Int32, xs 3 = z := ⟨_, rfl⟩
  obtain ⟨v4, e_v4⟩ : ∃ z : Int32, xs 4 = z := ⟨_, rfl⟩
  obtain ⟨v5, e_v5⟩ : ∃ z : Int32, xs 5 = z := ⟨_, rfl⟩
  refine lq_aload_n C (i := 1) rfl 3 rfl dL_law_1148 ?_
  refine lq_aload_n C (i := 3) rfl 1 rfl dL_law_1149 ?_
  refine lq_callW C (z117_L_segments l hlt S dp x out q20 q21 Fi_370_x Fk_x Fm_x Fr_355_x Fr_321_q20 Fk_q20 Fm_q20 Fi_386_q21 Fk_q21 Fm_q21 Fk_out Fn_out Fm_out) lH_264 rfl rfl ⟨by decide, by decide⟩ ⟨Nat.le_of_ble_eq_true rfl, Nat.le_of_ble_eq_true rfl⟩ rfl (Nat.le_of_ble_eq_true rfl) dL_law_1150 (fun r_1150 u_1150 h_1150 => ?_)
  obtain ⟨S1, hS1, hr_1150, hu_1150⟩ := h_1150
  have hw_1150 := hu_1150.symm
  subst hw_1150
  have hx_1150 := hr_1150.symm
  subst hx_1150
  refine lq_istore C (lv' := [(5, .int (nI 0)), (4, .int (nI 0)), (3, .ref out), (2, .ref (a 0)), (1, .ref x), (0, .ref b)]) (by decide) rfl dL_law_1153 ?_
  refine lq_aload_n C (i := 2) rfl 3 rfl dL_law_1155 ?_
  refine lq_doM C (w72_segments l v f g Mv_98 Mv_34) lM_266 rfl rfl ⟨by decide, by decide⟩ ⟨Nat.le_of_ble_eq_true rfl, Nat.le_of_ble_eq_true rfl⟩ rfl (Nat.le_of_ble_eq_true rfl) dL_law_1156 ?_
  refine lq_istore C (lv' := [(6, .int (nI 0)), (5, .int (nI 0)), (4, .int (nI 0)), (3, .ref out), (2, .ref (a 0)), (1, .ref x), (0, .ref b)]) (by decide) rfl dL_law_1159 ?_
  refine lq_aload_n C (i := 2) rfl 4 rfl dL_law_1161 ?_
  refine lq_doM C (w8_thrown l (upd v 99 (nI 0)) f g rfl) lM_192 rfl rfl ⟨by decide, by decide⟩ ⟨Nat.le_of_ble_eq_true rfl, Nat.le_of_ble_eq_true rfl⟩ rfl (Nat.le_of_ble_eq_true rfl) dL_law_1162 ?_
  refine lq_iload C 1 rfl dL_law_1165 ?_
  refine lq_icmp_eq C 1172 (by decide) dL_law_1167 (fun _ => ?_) (fun c_ => absurd (by decide) c_)
  refine lq_iload C 1 rfl dL_law_1172 ?_
  refine lq_if_ne C 1189 (by decide) dL_law_1174 (fun c_ => absurd (by decide) c_) (fun _ => ?_)
  refine lq_aload_n C (i := 3) rfl 3 rfl dL_law_1177 ?_
  refine lq_iconst C (x := nI 0) rfl dL_law_1178 ?_
  refine lq_laload C 0 (hm_SJ hS1 Fm_out) (hk_SJ hS1 Fk_out) (by rw [show cn _ _ = 1 from (hn_SJ hS1 Fn_out)]; decide) (by rw [show cn _ _ = 1 from (hn_SJ hS1 Fn_out)]; decide) dL_law_1179 ?_
  refine lq_cast (.long (((nI 0)).toInt64)) (congrArg Value.long (heJ_SJ_s hS1)) ?_
  refine lq_iload C 0 rfl dL_law_1180 ?_
  refine lq_i2l C dL_law_1182 ?_
  refine lq_lcmp C dL_law_1183 ?_
  refine lq_if_eqL C 1189 (by decide) dL_law_1184 ?_
  refine lq_goto C 3491 (by decide) dL_law_1189 ?_
  exact lq_sub [2, 6] rfl (law_tail C (Nat.le_of_ble_eq_true rfl) (Nat.le_of_ble_eq_true rfl))
set_option maxHeartbeats 8000000 in
set_option maxRecDepth 100000 in
theorem law_case22 (C : lC p l s m meth c b 6 xs D Y tp dp) {S : cS} {a : Nat → Nat} {v : Nat → Int32} {f : Nat → Nat → Int32} {g : Nat → Nat → Int64} {x out q1 q2 q3 q10 q11 q15 q19 q20 q21 q22 q23 q29 q30 q37 : Nat} (F : cFr S dp x out q1 q2 q3 q10 q11 q15 q19 q20 q21 q22 q23 q29 q30 q37) (M : mFr v f g) : lG p l e s m below meth c b D Y 174 409927 1192 [(4, .int (nI 0)), (3, .ref out), (2, .ref (a 0)), (1, .ref x), (0, .ref b)] [] S a v f g := by
  have hlt := C.2.2.2.2.2.2.2.2.2.2.1
  obtain ⟨FeI_q30_0, FeI_q30_1, Fi_195_q23, Fi_289_q11, Fi_289_q15, Fi_289_q2, Fi_33_q37, Fi_361_x, Fi_366_x, Fi_368_x, Fi_369_x, Fi_36_q37, Fi_370_x, Fi_37_q37, Fi_384_q19, Fi_384_q22, Fi_386_q19, Fi_386_q21, Fi_386_q22, Fk_out, Fk_q1, Fk_q10, Fk_q11, Fk_q15, Fk_q19, Fk_q2, Fk_q20, Fk_q21, Fk_q22, Fk_q23, Fk_q29, Fk_q3, Fk_q30, Fk_q37, Fk_x, Fm_out, Fm_q1, Fm_q10, Fm_q11, Fm_q15, Fm_q19, Fm_q2, Fm_q20, Fm_q21, Fm_q22, Fm_q23, Fm_q29, Fm_q3, Fm_q30, Fm_q37, Fm_x, Fn_out, Fn_q3, Fn_q30, Fr_224_q29, Fr_288_q2, Fr_321_q20, Fr_352_x, Fr_353_x, Fr_354_x, Fr_355_x, Fr_356_x, Fr_358_x, Fr_359_x, Fr_360_x, Fr_362_x, Fr_364_x, Fr_365_x, Fr_385_q19, Fr_385_q22, Fr_3_q10, Fr_4_q10, Fr_96_q1⟩ := F
  obtain ⟨Mall_21, Mall_22, Mf_29_0, Mf_29_1, Mf_29_2, Mf_29_3, Mf_29_4, Mf_49_0, Mf_49_1, Mf_8_0, Mf_8_1, Mg_7_0, Mg_7_1, Mg_7_10, Mg_7_11, Mg_7_12, Mg_7_13, Mg_7_14, Mg_7_15, Mg_7_16, Mg_7_17, Mg_7_18, Mg_7_19, Mg_7_2, Mg_7_20, Mg_7_21, Mg_7_22, Mg_7_23, Mg_7_24, Mg_7_25, Mg_7_26, Mg_7_27, Mg_7_28, Mg_7_29, Mg_7_3, Mg_7_30, Mg_7_31, Mg_7_32, Mg_7_33, Mg_7_34, Mg_7_35, Mg_7_36, Mg_7_37, Mg_7_38, Mg_7_39, Mg_7_4, Mg_7_5, Mg_7_6, Mg_7_7, Mg_7_8, Mg_7_9, Mv_13, Mv_14, Mv_2, Mv_20, Mv_29, Mv_34, Mv_35, Mv_40, Mv_48, Mv_49, Mv_72, Mv_88, Mv_89, Mv_90, Mv_96, Mv_97, Mv_98⟩ := M
  rcases c_sgn (xs 1) with hneg_v1 | ⟨v1, hr_v1, e_v1⟩
  · obtain ⟨v1, e_v1⟩ : ∃ z : Int32, xs 1 = z := ⟨_, rfl⟩
    rw [e_v1] at hneg_v1
    obtain ⟨v2, e_v2⟩ : ∃ z : Int32, xs 2 = z := ⟨_, rfl⟩
    obtain ⟨v3, e_v3⟩ : ∃ z : Int32, xs 3 = z := ⟨_, rfl⟩
    obtain ⟨v4, e_v4⟩ : ∃ z : Int32, xs 4 = z := ⟨_, rfl⟩
    obtain ⟨v5, e_v5⟩ : ∃ z : Int32, xs 5 = z := ⟨_, rfl⟩
    refine lq_aload_n C (i := 1) rfl 3 rfl dL_law_1192 ?_
    refine lq_aload_n C (i := 0) rfl 4 rfl dL_law_1193 ?_
    refine lq_iload C 0 rfl dL_law_1194 ?_
    refine lq_iconst C (x := nI 1) rfl dL_law_1196 ?_
    refine lq_iadd C dL_law_1197 ?_
    refine lq_cast (.int (nI 1)) (congrArg Value.int (by decide)) ?_
    refine lq_sld C 1 (by decide) (by decide) dL_law_1198 ?_
    refine lq_cast (.int v1) (congrArg Value.int e_v1) ?_
    refine lq_aload_n C (i := 3) rfl 1 rfl dL_law_1199 ?_
    refine lq_callW C (z121_L_segmentAt l hlt S dp x out q20 v1 hneg_v1 Fr_355_x Fk_x Fm_x Fm_q20 Fk_q20 Fi_370_x) lH_267 rfl rfl ⟨by decide, by decide⟩ ⟨Nat.le_of_ble_eq_true rfl, Nat.le_of_ble_eq_true rfl⟩ rfl (Nat.le_of_ble_eq_true rfl) dL_law_1200 (fun r_1200 u_1200 h_1200 => ?_)
    obtain ⟨hr_1200, hu_1200⟩ := h_1200
    have hw_1200 := hu_1200.symm
    subst hw_1200
    have hx_1200 := hr_1200.symm
    subst hx_1200
    refine lq_istore C (lv' := [(5, .int (nI 1)), (4, .int (nI 0)), (3, .ref out), (2, .ref (a 0)), (1, .ref x), (0, .ref b)]) (by decide) rfl dL_law_1203 ?_
    refine lq_aload_n C (i := 2) rfl 3 rfl dL_law_1205 ?_
    refine lq_aload_n C (i := 0) rfl 5 rfl dL_law_1206 ?_
    refine lq_iload C 1 rfl dL_law_1207 ?_
    refine lq_iconst C (x := nI 1) rfl dL_law_1209 ?_
    refine lq_iadd C dL_law_1210 ?_
    refine lq_cast (.int (nI 1)) (congrArg Value.int (by decide)) ?_
    refine lq_sld C 1 (by decide) (by decide) dL_law_1211 ?_
    refine lq_cast (.int v1) (congrArg Value.int e_v1) ?_
    refine lq_doM C (w75_segmentAt l v f g v1 hneg_v1 Mv_98 Mv_34) lM_269 rfl rfl ⟨by decide, by decide⟩ ⟨Nat.le_of_ble_eq_true rfl, Nat.le_of_ble_eq_true rfl⟩ rfl (Nat.le_of_ble_eq_true rfl) dL_law_1212 ?_
    refine lq_istore C (lv' := [(6, .int (nI 0)), (5, .int (nI 1)), (4, .int (nI 0)), (3, .ref out), (2, .ref (a 0)), (1, .ref x), (0, .ref b)]) (by decide) rfl dL_law_1215 ?_
    refine lq_aload_n C (i := 2) rfl 4 rfl dL_law_1217 ?_
    refine lq_doM C (w4_thrown l (upd v 99 (nI 1)) f g rfl) lM_192 rfl rfl ⟨by decide, by decide⟩ ⟨Nat.le_of_ble_eq_true rfl, Nat.le_of_ble_eq_true rfl⟩ rfl (Nat.le_of_ble_eq_true rfl) dL_law_1218 ?_
    refine lq_iload C 1 rfl dL_law_1221 ?_
    refine lq_icmp_eq C 1228 (by decide) dL_law_1223 (fun _ => ?_) (fun c_ => absurd (by decide) c_)
    refine lq_iload C 1 rfl dL_law_1228 ?_
    refine lq_if_ne C 1245 (by decide) dL_law_1230 (fun _ => ?_) (fun c_ => absurd c_ (by decide))
    refine lq_goto C 3491 (by decide) dL_law_1245 ?_
    exact lq_sub [2, 6] rfl (law_tail C (Nat.le_of_ble_eq_true rfl) (Nat.le_of_ble_eq_true rfl))
  · obtain ⟨v2, e_v2⟩ : ∃ z : Int32, xs 2 = z := ⟨_, rfl⟩
    obtain ⟨v3, e_v3⟩ : ∃ z : Int32, xs 3 = z := ⟨_, rfl⟩
    obtain ⟨v4, e_v4⟩ : ∃ z : Int32, xs 4 = z := ⟨_, rfl⟩
    obtain ⟨v5, e_v5⟩ : ∃ z : Int32, xs 5 = z := ⟨_, rfl⟩
    refine lq_aload_n C (i := 1) rfl 3 rfl dL_law_1192 ?_
    refine lq_aload_n C (i := 0) rfl 4 rfl dL_law_1193 ?_
    refine lq_iload C 0 rfl dL_law_1194 ?_
    refine lq_iconst C (x := nI 1) rfl dL_law_1196 ?_
    refine lq_iadd C dL_law_1197 ?_
    refine lq_cast (.int (nI 1)) (congrArg Value.int (by decide)) ?_
    refine lq_sld C 1 (by decide) (by decide) dL_law_1198 ?_
    refine lq_cast (.int (nI v1)) (congrArg Value.int e_v1) ?_
    refine lq_aload_n C (i := 3) rfl 1 rfl dL_law_1199 ?_
    refine lq_callW C (z125_L_segmentAt l hlt S dp x out q20 q21 v1 (by omega) Fr_355_x Fk_x Fm_x Fr_321_q20 Fk_q20 Fm_q20 Fi_386_q21 Fk_q21 Fm_q21 Fi_370_x) lH_267 rfl rfl ⟨by decide, by decide⟩ ⟨Nat.le_of_ble_eq_true rfl, Nat.le_of_ble_eq_true rfl⟩ rfl (Nat.le_of_ble_eq_true rfl) dL_law_1200 (fun r_1200 u_1200 h_1200 => ?_)
    obtain ⟨hr_1200, hu_1200⟩ := h_1200
    have hw_1200 := hu_1200.symm
    subst hw_1200
    have hx_1200 := hr_1200.symm
    subst hx_1200
    refine lq_istore C (lv' := [(5, .int (nI 1)), (4, .int (nI 0)), (3, .ref out), (2, .ref (a 0)), (1, .ref x), (0, .ref b)]) (by decide) rfl dL_law_1203 ?_
    refine lq_aload_n C (i := 2) rfl 3 rfl dL_law_1205 ?_
    refine lq_aload_n C (i := 0) rfl 5 rfl dL_law_1206 ?_
    refine lq_iload C 1 rfl dL_law_1207 ?_
    refine lq_iconst C (x := nI 1) rfl dL_law_1209 ?_
    refine lq_iadd C dL_law_1210 ?_
    refine lq_cast (.int (nI 1)) (congrArg Value.int (by decide)) ?_
    refine lq_sld C 1 (by decide) (by decide) dL_law_1211 ?_
    refine lq_cast (.int (nI v1)) (congrArg Value.int e_v1) ?_
    refine lq_doM C (w78_segmentAt l v f g v1 (by omega) Mv_98 Mv_34) lM_269 rfl rfl ⟨by decide, by decide⟩ ⟨Nat.le_of_ble_eq_true rfl, Nat.le_of_ble_eq_true rfl⟩ rfl (Nat.le_of_ble_eq_true rfl) dL_law_1212 ?_
    refine lq_istore C (lv' := [(6, .int (nI 0)), (5, .int (nI 1)), (4, .int (nI 0)), (3, .ref out), (2, .ref (a 0)), (1, .ref x), (0, .ref b)]) (by decide) rfl dL_law_1215 ?_
    refine lq_aload_n C (i := 2) rfl 4 rfl dL_law_1217 ?_
    refine lq_doM C (w4_thrown l (upd v 99 (nI 1)) f g rfl) lM_192 rfl rfl ⟨by decide, by decide⟩ ⟨Nat.le_of_ble_eq_true rfl, Nat.le_of_ble_eq_true rfl⟩ rfl (Nat.le_of_ble_eq_true rfl) dL_law_1218 ?_
    refine lq_iload C 1 rfl dL_law_1221 ?_
    refine lq_icmp_eq C 1228 (by decide) dL_law_1223 (fun _ => ?_) (fun c_ => absurd (by decide) c_)
    refine lq_iload C 1 rfl dL_law_1228 ?_
    refine lq_if_ne C 1245 (by decide) dL_law_1230 (fun _ => ?_) (fun c_ => absurd c_ (by decide))
    refine lq_goto C 3491 (by decide) dL_law_1245 ?_
    exact lq_sub [2, 6] rfl (law_tail C (Nat.le_of_ble_eq_true rfl) (Nat.le_of_ble_eq_true rfl))
set_option maxHeartbeats 8000000 in
set_option maxRecDepth 100000 in
theorem law_case23 (C : lC p l s m meth c b 6 xs D Y tp dp) {S : cS} {a : Nat → Nat} {v : Nat → Int32} {f : Nat → Nat → Int32} {g : Nat → Nat → Int64} {x out q1 q2 q3 q10 q11 q15 q19 q20 q21 q22 q23 q29 q30 q37 : Nat} (F : cFr S dp x out q1 q2 q3 q10 q11 q15 q19 q20 q21 q22 q23 q29 q30 q37) (M : mFr v f g) : lG p l e s m below meth c b D Y 174 409927 1248 [(4, .int (nI 0)), (3, .ref out), (2, .ref (a 0)), (1, .ref x), (0, .ref b)] [] S a v f g := by
  have hlt := C.2.2.2.2.2.2.2.2.2.2.1
  obtain ⟨FeI_q30_0, FeI_q30_1, Fi_195_q23, Fi_289_q11, Fi_289_q15, Fi_289_q2, Fi_33_q37, Fi_361_x, Fi_366_x, Fi_368_x, Fi_369_x, Fi_36_q37, Fi_370_x, Fi_37_q37, Fi_384_q19, Fi_384_q22, Fi_386_q19, Fi_386_q21, Fi_386_q22, Fk_out, Fk_q1, Fk_q10, Fk_q11, Fk_q15, Fk_q19, Fk_q2, Fk_q20, Fk_q21, Fk_q22, Fk_q23, Fk_q29, Fk_q3, Fk_q30, Fk_q37, Fk_x, Fm_out, Fm_q1, Fm_q10, Fm_q11, Fm_q15, Fm_q19, Fm_q2, Fm_q20, Fm_q21, Fm_q22, Fm_q23, Fm_q29, Fm_q3, Fm_q30, Fm_q37, Fm_x, Fn_out, Fn_q3, Fn_q30, Fr_224_q29, Fr_288_q2, Fr_321_q20, Fr_352_x, Fr_353_x, Fr_354_x, Fr_355_x, Fr_356_x, Fr_358_x, Fr_359_x, Fr_360_x, Fr_362_x, Fr_364_x, Fr_365_x, Fr_385_q19, Fr_385_q22, Fr_3_q10, Fr_4_q10, Fr_96_q1⟩ := F
  obtain ⟨Mall_21, Mall_22, Mf_29_0, Mf_29_1, Mf_29_2, Mf_29_3, Mf_29_4, Mf_49_0, Mf_49_1, Mf_8_0, Mf_8_1, Mg_7_0, Mg_7_1, Mg_7_10, Mg_7_11, Mg_7_12, Mg_7_13, Mg_7_14, Mg_7_15, Mg_7_16, Mg_7_17, Mg_7_18, Mg_7_19, Mg_7_2, Mg_7_20, Mg_7_21, Mg_7_22, Mg_7_23, Mg_7_24, Mg_7_25, Mg_7_26, Mg_7_27, Mg_7_28, Mg_7_29, Mg_7_3, Mg_7_30, Mg_7_31, Mg_7_32, Mg_7_33, Mg_7_34, Mg_7_35, Mg_7_36, Mg_7_37, Mg_7_38, Mg_7_39, Mg_7_4, Mg_7_5, Mg_7_6, Mg_7_7, Mg_7_8, Mg_7_9, Mv_13, Mv_14, Mv_2, Mv_20, Mv_29, Mv_34, Mv_35, Mv_40, Mv_48, Mv_49, Mv_72, Mv_88, Mv_89, Mv_90, Mv_96, Mv_97, Mv_98⟩ := M
  rcases c_sgn (xs 1) with hneg_v1 | ⟨v1, hr_v1, e_v1⟩
  · obtain ⟨v1, e_v1⟩ : ∃ z : Int32, xs 1 = z := ⟨_, rfl⟩
    rw [e_v1] at hneg_v1
    obtain ⟨v2, e_v2⟩ : ∃ z : Int32, xs 2 = z := ⟨_, rfl⟩
    obtain ⟨v3, e_v3⟩ : ∃ z : Int32, xs 3 = z := ⟨_, rfl⟩
    obtain ⟨v4, e_v4⟩ : ∃ z : Int32, xs 4 = z := ⟨_, rfl⟩
    obtain ⟨v5, e_v5⟩ : ∃ z : Int32, xs 5 = z := ⟨_, rfl⟩
    refine lq_aload_n C (i := 1) rfl 3 rfl dL_law_1248 ?_
    refine lq_aload_n C (i := 0) rfl 4 rfl dL_law_1249 ?_
    refine lq_iload C 0 rfl dL_law_1250 ?_
    refine lq_iconst C (x := nI 1) rfl dL_law_1252 ?_
    refine lq_iadd C dL_law_1253 ?_
    refine lq_cast (.int (nI 1)) (congrArg Value.int (by decide)) ?_
    refine lq_sld C 1 (by decide) (by decide) dL_law_1254 ?_
    refine lq_cast (.int v1) (congrArg Value.int e_v1) ?_
    refine lq_aload_n C (i := 3) rfl 1 rfl dL_law_1255 ?_
    refine lq_callW C (z127_L_live l hlt S dp x out q20 v1 hneg_v1 Fr_355_x Fk_x Fm_x Fm_q20 Fk_q20 Fi_370_x) lH_270 rfl rfl ⟨by decide, by decide⟩ ⟨Nat.le_of_ble_eq_true rfl, Nat.le_of_ble_eq_true rfl⟩ rfl (Nat.le_of_ble_eq_true rfl) dL_law_1256 (fun r_1256 u_1256 h_1256 => ?_)
    obtain ⟨hr_1256, hu_1256⟩ := h_1256
    have hw_1256 := hu_1256.symm
    subst hw_1256
    have hx_1256 := hr_1256.symm
    subst hx_1256
    refine lq_istore C (lv' := [(5, .int (nI 1)), (4, .int (nI 0)), (3, .ref out), (2, .ref (a 0)), (1, .ref x), (0, .ref b)]) (by decide) rfl dL_law_1259 ?_
    refine lq_aload_n C (i := 2) rfl 3 rfl dL_law_1261 ?_
    refine lq_aload_n C (i := 0) rfl 5 rfl dL_law_1262 ?_
    refine lq_iload C 1 rfl dL_law_1263 ?_
    refine lq_iconst C (x := nI 1) rfl dL_law_1265 ?_
    refine lq_iadd C dL_law_1266 ?_
    refine lq_cast (.int (nI 1)) (congrArg Value.int (by decide)) ?_
    refine lq_sld C 1 (by decide) (by decide) dL_law_1267 ?_
    refine lq_cast (.int v1) (congrArg Value.int e_v1) ?_
    refine lq_doM C (w79_live l v f g v1 hneg_v1 Mv_98 Mv_34) lM_272 rfl rfl ⟨by decide, by decide⟩ ⟨Nat.le_of_ble_eq_true rfl, Nat.le_of_ble_eq_true rfl⟩ rfl (Nat.le_of_ble_eq_true rfl) dL_law_1268 ?_
    refine lq_istore C (lv' := [(6, .int (nI 0)), (5, .int (nI 1)), (4, .int (nI 0)), (3, .ref out), (2, .ref (a 0)), (1, .ref x), (0, .ref b)]) (by decide) rfl dL_law_1271 ?_
    refine lq_aload_n C (i := 2) rfl 4 rfl dL_law_1273 ?_
    refine lq_doM C (w4_thrown l (upd v 99 (nI 1)) f g rfl) lM_192 rfl rfl ⟨by decide, by decide⟩ ⟨Nat.le_of_ble_eq_true rfl, Nat.le_of_ble_eq_true rfl⟩ rfl (Nat.le_of_ble_eq_true rfl) dL_law_1274 ?_
    refine lq_iload C 1 rfl dL_law_1277 ?_
    refine lq_icmp_eq C 1284 (by decide) dL_law_1279 (fun _ => ?_) (fun c_ => absurd (by decide) c_)
    refine lq_iload C 1 rfl dL_law_1284 ?_
    refine lq_if_ne C 1301 (by decide) dL_law_1286 (fun _ => ?_) (fun c_ => absurd c_ (by decide))
    refine lq_goto C 3491 (by decide) dL_law_1301 ?_
    exact lq_sub [2, 6] rfl (law_tail C (Nat.le_of_ble_eq_true rfl) (Nat.le_of_ble_eq_true rfl))
  · obtain ⟨v2, e_v2⟩ : ∃ z : Int32, xs 2 = z := ⟨_, rfl⟩
    obtain ⟨v3, e_v3⟩ : ∃ z : Int32, xs 3 = z := ⟨_, rfl⟩
    obtain ⟨v4, e_v4⟩ : ∃ z : Int32, xs 4 = z := ⟨_, rfl⟩
    obtain ⟨v5, e_v5⟩ : ∃ z : Int32, xs 5 = z := ⟨_, rfl⟩
    refine lq_aload_n C (i := 1) rfl 3 rfl dL_law_1248 ?_
    refine lq_aload_n C (i := 0) rfl 4 rfl dL_law_1249 ?_
    refine lq_iload C 0 rfl dL_law_1250 ?_
    refine lq_iconst C (x := nI 1) rfl dL_law_1252 ?_
    refine lq_iadd C dL_law_1253 ?_
    refine lq_cast (.int (nI 1)) (congrArg Value.int (by decide)) ?_
    refine lq_sld C 1 (by decide) (by decide) dL_law_1254 ?_
    refine lq_cast (.int (nI v1)) (congrArg Value.int e_v1) ?_
    refine lq_aload_n C (i := 3) rfl 1 rfl dL_law_1255 ?_
    refine lq_callW C (z129_L_live l hlt S dp x out q20 q21 v1 (by omega) Fr_355_x Fk_x Fm_x Fr_321_q20 Fk_q20 Fm_q20 Fi_386_q21 Fk_q21 Fm_q21 Fi_370_x) lH_270 rfl rfl ⟨by decide, by decide⟩ ⟨Nat.le_of_ble_eq_true rfl, Nat.le_of_ble_eq_true rfl⟩ rfl (Nat.le_of_ble_eq_true rfl) dL_law_1256 (fun r_1256 u_1256 h_1256 => ?_)
    obtain ⟨hr_1256, hu_1256⟩ := h_1256
    have hw_1256 := hu_1256.symm
    subst hw_1256
    have hx_1256 := hr_1256.symm
    subst hx_1256
    refine lq_istore C (lv' := [(5, .int (nI 1)), (4, .int (nI 0)), (3, .ref out), (2, .ref (a 0)), (1, .ref x), (0, .ref b)]) (by decide) rfl dL_law_1259 ?_
    refine lq_aload_n C (i := 2) rfl 3 rfl dL_law_1261 ?_
    refine lq_aload_n C (i := 0) rfl 5 rfl dL_law_1262 ?_
    refine lq_iload C 1 rfl dL_law_1263 ?_
    refine lq_iconst C (x := nI 1) rfl dL_law_1265 ?_
    refine lq_iadd C dL_law_1266 ?_
    refine lq_cast (.int (nI 1)) (congrArg Value.int (by decide)) ?_
    refine lq_sld C 1 (by decide) (by decide) dL_law_1267 ?_
    refine lq_cast (.int (nI v1)) (congrArg Value.int e_v1) ?_
    refine lq_doM C (w80_live l v f g v1 (by omega) Mv_98 Mv_34) lM_272 rfl rfl ⟨by decide, by decide⟩ ⟨Nat.le_of_ble_eq_true rfl, Nat.le_of_ble_eq_true rfl⟩ rfl (Nat.le_of_ble_eq_true rfl) dL_law_1268 ?_
    refine lq_istore C (lv' := [(6, .int (nI 0)), (5, .int (nI 1)), (4, .int (nI 0)), (3, .ref out), (2, .ref (a 0)), (1, .ref x), (0, .ref b)]) (by decide) rfl dL_law_1271 ?_
    refine lq_aload_n C (i := 2) rfl 4 rfl dL_law_1273 ?_
    refine lq_doM C (w4_thrown l (upd v 99 (nI 1)) f g rfl) lM_192 rfl rfl ⟨by decide, by decide⟩ ⟨Nat.le_of_ble_eq_true rfl, Nat.le_of_ble_eq_true rfl⟩ rfl (Nat.le_of_ble_eq_true rfl) dL_law_1274 ?_
    refine lq_iload C 1 rfl dL_law_1277 ?_
    refine lq_icmp_eq C 1284 (by decide) dL_law_1279 (fun _ => ?_) (fun c_ => absurd (by decide) c_)
    refine lq_iload C 1 rfl dL_law_1284 ?_
    refine lq_if_ne C 1301 (by decide) dL_law_1286 (fun _ => ?_) (fun c_ => absurd c_ (by decide))
    refine lq_goto C 3491 (by decide) dL_law_1301 ?_
    exact lq_sub [2, 6] rfl (law_tail C (Nat.le_of_ble_eq_true rfl) (Nat.le_of_ble_eq_true rfl))
set_option maxHeartbeats 8000000 in
set_option maxRecDepth 100000 in
theorem law_case24 (C : lC p l s m meth c b 6 xs D Y tp dp) {S : cS} {a : Nat → Nat} {v : Nat → Int32} {f : Nat → Nat → Int32} {g : Nat → Nat → Int64} {x out q1 q2 q3 q10 q11 q15 q19 q20 q21 q22 q23 q29 q30 q37 : Nat} (F : cFr S dp x out q1 q2 q3 q10 q11 q15 q19 q20 q21 q22 q23 q29 q30 q37) (M : mFr v f g) : lG p l e s m below meth c b D Y 174 409927 1304 [(4, .int (nI 0)), (3, .ref out), (2, .ref (a 0)), (1, .ref x), (0, .ref b)] [] S a v f g := by
  have hlt := C.2.2.2.2.2.2.2.2.2.2.1
  obtain ⟨FeI_q30_0, FeI_q30_1, Fi_195_q23, Fi_289_q11, Fi_289_q15, Fi_289_q2, Fi_33_q37, Fi_361_x, Fi_366_x, Fi_368_x, Fi_369_x, Fi_36_q37, Fi_370_x, Fi_37_q37, Fi_384_q19, Fi_384_q22, Fi_386_q19, Fi_386_q21, Fi_386_q22, Fk_out, Fk_q1, Fk_q10, Fk_q11, Fk_q15, Fk_q19, Fk_q2, Fk_q20, Fk_q21, Fk_q22, Fk_q23, Fk_q29, Fk_q3, Fk_q30, Fk_q37, Fk_x, Fm_out, Fm_q1, Fm_q10, Fm_q11, Fm_q15, Fm_q19, Fm_q2, Fm_q20, Fm_q21, Fm_q22, Fm_q23, Fm_q29, Fm_q3, Fm_q30, Fm_q37, Fm_x, Fn_out, Fn_q3, Fn_q30, Fr_224_q29, Fr_288_q2, Fr_321_q20, Fr_352_x, Fr_353_x, Fr_354_x, Fr_355_x, Fr_356_x, Fr_358_x, Fr_359_x, Fr_360_x, Fr_362_x, Fr_364_x, Fr_365_x, Fr_385_q19, Fr_385_q22, Fr_3_q10, Fr_4_q10, Fr_96_q1⟩ := F
  obtain ⟨Mall_21, Mall_22, Mf_29_0, Mf_29_1, Mf_29_2, Mf_29_3, Mf_29_4, Mf_49_0, Mf_49_1, Mf_8_0, Mf_8_1, Mg_7_0, Mg_7_1, Mg_7_10, Mg_7_11, Mg_7_12, Mg_7_13, Mg_7_14, Mg_7_15, Mg_7_16, Mg_7_17, Mg_7_18, Mg_7_19, Mg_7_2, Mg_7_20, Mg_7_21, Mg_7_22, Mg_7_23, Mg_7_24, Mg_7_25, Mg_7_26, Mg_7_27, Mg_7_28, Mg_7_29, Mg_7_3, Mg_7_30, Mg_7_31, Mg_7_32, Mg_7_33, Mg_7_34, Mg_7_35, Mg_7_36, Mg_7_37, Mg_7_38, Mg_7_39, Mg_7_4, Mg_7_5, Mg_7_6, Mg_7_7, Mg_7_8, Mg_7_9, Mv_13, Mv_14, Mv_2, Mv_20, Mv_29, Mv_34, Mv_35, Mv_40, Mv_48, Mv_49, Mv_72, Mv_88, Mv_89, Mv_90, Mv_96, Mv_97, Mv_98⟩ := M
  rcases c_sgn (xs 1) with hneg_v1 | ⟨v1, hr_v1, e_v1⟩
  · obtain ⟨v1, e_v1⟩ : ∃ z : Int32, xs 1 = z := ⟨_, rfl⟩
    rw [e_v1] at hneg_v1
    obtain ⟨v2, e_v2⟩ : ∃ z : Int32, xs 2 = z := ⟨_, rfl⟩
    obtain ⟨v3, e_v3⟩ : ∃ z : Int32, xs 3 = z := ⟨_, rfl⟩
    obtain ⟨v4, e_v4⟩ : ∃ z : Int32, xs 4 = z := ⟨_, rfl⟩
    obtain ⟨v5, e_v5⟩ : ∃ z : Int32, xs 5 = z := ⟨_, rfl⟩
    refine lq_aload_n C (i := 1) rfl 3 rfl dL_law_1304 ?_
    refine lq_aload_n C (i := 0) rfl 4 rfl dL_law_1305 ?_
    refine lq_iload C 0 rfl dL_law_1306 ?_
    refine lq_iconst C (x := nI 1) rfl dL_law_1308 ?_
    refine lq_iadd C dL_law_1309 ?_
    refine lq_cast (.int (nI 1)) (congrArg Value.int (by decide)) ?_
    refine lq_sld C 1 (by decide) (by decide) dL_law_1310 ?_
    refine lq_cast (.int v1) (congrArg Value.int e_v1) ?_
    refine lq_aload_n C (i := 0) rfl 4 rfl dL_law_1311 ?_
    refine lq_iload C 0 rfl dL_law_1312 ?_
    refine lq_iconst C (x := nI 2) rfl dL_law_1314 ?_
    refine lq_iadd C dL_law_1315 ?_
    refine lq_cast (.int (nI 2)) (congrArg Value.int (by decide)) ?_
    refine lq_sld C 2 (by decide) (by decide) dL_law_1316 ?_
    refine lq_cast (.int v2) (congrArg Value.int e_v2) ?_
    refine lq_aload_n C (i := 3) rfl 1 rfl dL_law_1317 ?_
    refine lq_callW C (z131_L_keyAt l hlt S dp x out q20 v1 v2 hneg_v1 Fr_355_x Fk_x Fm_x Fm_q20 Fk_q20 Fi_370_x) lH_273 rfl rfl ⟨by decide, by decide⟩ ⟨Nat.le_of_ble_eq_true rfl, Nat.le_of_ble_eq_true rfl⟩ rfl (Nat.le_of_ble_eq_true rfl) dL_law_1318 (fun r_1318 u_1318 h_1318 => ?_)
    obtain ⟨hr_1318, hu_1318⟩ := h_1318
    have hw_1318 := hu_1318.symm
    subst hw_1318
    have hx_1318 := hr_1318.symm
    subst hx_1318
    refine lq_istore C (lv' := [(5, .int (nI 1)), (4, .int (nI 0)), (3, .ref out), (2, .ref (a 0)), (1, .ref x), (0, .ref b)]) (by decide) rfl dL_law_1321 ?_
    refine lq_aload_n C (i := 2) rfl 3 rfl dL_law_1323 ?_
    refine lq_aload_n C (i := 0) rfl 5 rfl dL_law_1324 ?_
    refine lq_iload C 1 rfl dL_law_1325 ?_
    refine lq_iconst C (x := nI 1) rfl dL_law_1327 ?_
    refine lq_iadd C dL_law_1328 ?_
    refine lq_cast (.int (nI 1)) (congrArg Value.int (by decide)) ?_
    refine lq_sld C 1 (by decide) (by decide) dL_law_1329 ?_
    refine lq_cast (.int v1) (congrArg Value.int e_v1) ?_
    refine lq_aload_n C (i := 0) rfl 5 rfl dL_law_1330 ?_
    refine lq_iload C 1 rfl dL_law_1331 ?_
    refine lq_iconst C (x := nI 2) rfl dL_law_1333 ?_
    refine lq_iadd C dL_law_1334 ?_
    refine lq_cast (.int (nI 2)) (congrArg Value.int (by decide)) ?_
    refine lq_sld C 2 (by decide) (by decide) dL_law_1335 ?_
    refine lq_cast (.int v2) (congrArg Value.int e_v2) ?_
    refine lq_doM C (w81_keyAt l v f g v1 v2 hneg_v1 Mv_98 Mv_34) lM_276 rfl rfl ⟨by decide, by decide⟩ ⟨Nat.le_of_ble_eq_true rfl, Nat.le_of_ble_eq_true rfl⟩ rfl (Nat.le_of_ble_eq_true rfl) dL_law_1336 ?_
    refine lq_istore C (lv' := [(6, .int (nI 0)), (5, .int (nI 1)), (4, .int (nI 0)), (3, .ref out), (2, .ref (a 0)), (1, .ref x), (0, .ref b)]) (by decide) rfl dL_law_1339 ?_
    refine lq_aload_n C (i := 2) rfl 4 rfl dL_law_1341 ?_
    refine lq_doM C (w4_thrown l (upd v 99 (nI 1)) f g rfl) lM_192 rfl rfl ⟨by decide, by decide⟩ ⟨Nat.le_of_ble_eq_true rfl, Nat.le_of_ble_eq_true rfl⟩ rfl (Nat.le_of_ble_eq_true rfl) dL_law_1342 ?_
    refine lq_iload C 1 rfl dL_law_1345 ?_
    refine lq_icmp_eq C 1352 (by decide) dL_law_1347 (fun _ => ?_) (fun c_ => absurd (by decide) c_)
    refine lq_iload C 1 rfl dL_law_1352 ?_
    refine lq_if_ne C 1369 (by decide) dL_law_1354 (fun _ => ?_) (fun c_ => absurd c_ (by decide))
    refine lq_goto C 3491 (by decide) dL_law_1369 ?_
    exact lq_sub [2, 6] rfl (law_tail C (Nat.le_of_ble_eq_true rfl) (Nat.le_of_ble_eq_true rfl))
  · obtain ⟨v2, e_v2⟩ : ∃ z : Int32, xs 2 = z := ⟨_, rfl⟩
    obtain ⟨v3, e_v3⟩ : ∃ z : Int32, xs 3 = z := ⟨_, rfl⟩
    obtain ⟨v4, e_v4⟩ : ∃ z : Int32, xs 4 = z := ⟨_, rfl⟩
    obtain ⟨v5, e_v5⟩ : ∃ z : Int32, xs 5 = z := ⟨_, rfl⟩
    refine lq_aload_n C (i := 1) rfl 3 rfl dL_law_1304 ?_
    refine lq_aload_n C (i := 0) rfl 4 rfl dL_law_1305 ?_
    refine lq_iload C 0 rfl dL_law_1306 ?_
    refine lq_iconst C (x := nI 1) rfl dL_law_1308 ?_
    refine lq_iadd C dL_law_1309 ?_
    refine lq_cast (.int (nI 1)) (congrArg Value.int (by decide)) ?_
    refine lq_sld C 1 (by decide) (by decide) dL_law_1310 ?_
    refine lq_cast (.int (nI v1)) (congrArg Value.int e_v1) ?_
    refine lq_aload_n C (i := 0) rfl 4 rfl dL_law_1311 ?_
    refine lq_iload C 0 rfl dL_law_1312 ?_
    refine lq_iconst C (x := nI 2) rfl dL_law_1314 ?_
    refine lq_iadd C dL_law_1315 ?_
    refine lq_cast (.int (nI 2)) (congrArg Value.int (by decide)) ?_
    refine lq_sld C 2 (by decide) (by decide) dL_law_1316 ?_
    refine lq_cast (.int v2) (congrArg Value.int e_v2) ?_
    refine lq_aload_n C (i := 3) rfl 1 rfl dL_law_1317 ?_
    refine lq_callW C (z133_L_keyAt l hlt S dp x out q20 q21 v1 v2 (by omega) Fr_355_x Fk_x Fm_x Fr_321_q20 Fk_q20 Fm_q20 Fi_386_q21 Fk_q21 Fm_q21 Fi_370_x) lH_273 rfl rfl ⟨by decide, by decide⟩ ⟨Nat.le_of_ble_eq_true rfl, Nat.le_of_ble_eq_true rfl⟩ rfl (Nat.le_of_ble_eq_true rfl) dL_law_1318 (fun r_1318 u_1318 h_1318 => ?_)
    obtain ⟨hr_1318, hu_1318⟩ := h_1318
    have hw_1318 := hu_1318.symm
    subst hw_1318
    have hx_1318 := hr_1318.symm
    subst hx_1318
    refine lq_istore C (lv' := [(5, .int (nI 1)), (4, .int (nI 0)), (3, .ref out), (2, .ref (a 0)), (1, .ref x), (0, .ref b)]) (by decide) rfl dL_law_1321 ?_
    refine lq_aload_n C (i := 2) rfl 3 rfl dL_law_1323 ?_
    refine lq_aload_n C (i := 0) rfl 5 rfl dL_law_1324 ?_
    refine lq_iload C 1 rfl dL_law_1325 ?_
    refine lq_iconst C (x := nI 1) rfl dL_law_1327 ?_
    refine lq_iadd C dL_law_1328 ?_
    refine lq_cast (.int (nI 1)) (congrArg Value.int (by decide)) ?_
    refine lq_sld C 1 (by decide) (by decide) dL_law_1329 ?_
    refine lq_cast (.int (nI v1)) (congrArg Value.int e_v1) ?_
    refine lq_aload_n C (i := 0) rfl 5 rfl dL_law_1330 ?_
    refine lq_iload C 1 rfl dL_law_1331 ?_
    refine lq_iconst C (x := nI 2) rfl dL_law_1333 ?_
    refine lq_iadd C dL_law_1334 ?_
    refine lq_cast (.int (nI 2)) (congrArg Value.int (by decide)) ?_
    refine lq_sld C 2 (by decide) (by decide) dL_law_1335 ?_
    refine lq_cast (.int v2) (congrArg Value.int e_v2) ?_
    refine lq_doM C (w82_keyAt l v f g v1 v2 (by omega) Mv_98 Mv_34) lM_276 rfl rfl ⟨by decide, by decide⟩ ⟨Nat.le_of_ble_eq_true rfl, Nat.le_of_ble_eq_true rfl⟩ rfl (Nat.le_of_ble_eq_true rfl) dL_law_1336 ?_
    refine lq_istore C (lv' := [(6, .int (nI 0)), (5, .int (nI 1)), (4, .int (nI 0)), (3, .ref out), (2, .ref (a 0)), (1, .ref x), (0, .ref b)]) (by decide) rfl dL_law_1339 ?_
    refine lq_aload_n C (i := 2) rfl 4 rfl dL_law_1341 ?_
    refine lq_doM C (w4_thrown l (upd v 99 (nI 1)) f g rfl) lM_192 rfl rfl ⟨by decide, by decide⟩ ⟨Nat.le_of_ble_eq_true rfl, Nat.le_of_ble_eq_true rfl⟩ rfl (Nat.le_of_ble_eq_true rfl) dL_law_1342 ?_
    refine lq_iload C 1 rfl dL_law_1345 ?_
    refine lq_icmp_eq C 1352 (by decide) dL_law_1347 (fun _ => ?_) (fun c_ => absurd (by decide) c_)
    refine lq_iload C 1 rfl dL_law_1352 ?_
    refine lq_if_ne C 1369 (by decide) dL_law_1354 (fun _ => ?_) (fun c_ => absurd c_ (by decide))
    refine lq_goto C 3491 (by decide) dL_law_1369 ?_
    exact lq_sub [2, 6] rfl (law_tail C (Nat.le_of_ble_eq_true rfl) (Nat.le_of_ble_eq_true rfl))
set_option maxHeartbeats 8000000 in
set_option maxRecDepth 100000 in
theorem law_case25 (C : lC p l s m meth c b 6 xs D Y tp dp) {S : cS} {a : Nat → Nat} {v : Nat → Int32} {f : Nat → Nat → Int32} {g : Nat → Nat → Int64} {x out q1 q2 q3 q10 q11 q15 q19 q20 q21 q22 q23 q29 q30 q37 : Nat} (F : cFr S dp x out q1 q2 q3 q10 q11 q15 q19 q20 q21 q22 q23 q29 q30 q37) (M : mFr v f g) : lG p l e s m below meth c b D Y 174 409927 1372 [(4, .int (nI 0)), (3, .ref out), (2, .ref (a 0)), (1, .ref x), (0, .ref b)] [] S a v f g := by
  have hlt := C.2.2.2.2.2.2.2.2.2.2.1
  obtain ⟨FeI_q30_0, FeI_q30_1, Fi_195_q23, Fi_289_q11, Fi_289_q15, Fi_289_q2, Fi_33_q37, Fi_361_x, Fi_366_x, Fi_368_x, Fi_369_x, Fi_36_q37, Fi_370_x, Fi_37_q37, Fi_384_q19, Fi_384_q22, Fi_386_q19, Fi_386_q21, Fi_386_q22, Fk_out, Fk_q1, Fk_q10, Fk_q11, Fk_q15, Fk_q19, Fk_q2, Fk_q20, Fk_q21, Fk_q22, Fk_q23, Fk_q29, Fk_q3, Fk_q30, Fk_q37, Fk_x, Fm_out, Fm_q1, Fm_q10, Fm_q11, Fm_q15, Fm_q19, Fm_q2, Fm_q20, Fm_q21, Fm_q22, Fm_q23, Fm_q29, Fm_q3, Fm_q30, Fm_q37, Fm_x, Fn_out, Fn_q3, Fn_q30, Fr_224_q29, Fr_288_q2, Fr_321_q20, Fr_352_x, Fr_353_x, Fr_354_x, Fr_355_x, Fr_356_x, Fr_358_x, Fr_359_x, Fr_360_x, Fr_362_x, Fr_364_x, Fr_365_x, Fr_385_q19, Fr_385_q22, Fr_3_q10, Fr_4_q10, Fr_96_q1⟩ := F
  obtain ⟨Mall_21, Mall_22, Mf_29_0, Mf_29_1, Mf_29_2, Mf_29_3, Mf_29_4, Mf_49_0, Mf_49_1, Mf_8_0, Mf_8_1, Mg_7_0, Mg_7_1, Mg_7_10, Mg_7_11, Mg_7_12, Mg_7_13, Mg_7_14, Mg_7_15, Mg_7_16, Mg_7_17, Mg_7_18, Mg_7_19, Mg_7_2, Mg_7_20, Mg_7_21, Mg_7_22, Mg_7_23, Mg_7_24, Mg_7_25, Mg_7_26, Mg_7_27, Mg_7_28, Mg_7_29, Mg_7_3, Mg_7_30, Mg_7_31, Mg_7_32, Mg_7_33, Mg_7_34, Mg_7_35, Mg_7_36, Mg_7_37, Mg_7_38, Mg_7_39, Mg_7_4, Mg_7_5, Mg_7_6, Mg_7_7, Mg_7_8, Mg_7_9, Mv_13, Mv_14, Mv_2, Mv_20, Mv_29, Mv_34, Mv_35, Mv_40, Mv_48, Mv_49, Mv_72, Mv_88, Mv_89, Mv_90, Mv_96, Mv_97, Mv_98⟩ := M
  rcases c_sgn (xs 1) with hneg_v1 | ⟨v1, hr_v1, e_v1⟩
  · obtain ⟨v1, e_v1⟩ : ∃ z : Int32, xs 1 = z := ⟨_, rfl⟩
    rw [e_v1] at hneg_v1
    obtain ⟨v2, e_v2⟩ : ∃ z : Int32, xs 2 = z := ⟨_, rfl⟩
    obtain ⟨v3, e_v3⟩ : ∃ z : Int32, xs 3 = z := ⟨_, rfl⟩
    obtain ⟨v4, e_v4⟩ : ∃ z : Int32, xs 4 = z := ⟨_, rfl⟩
    obtain ⟨v5, e_v5⟩ : ∃ z : Int32, xs 5 = z := ⟨_, rfl⟩
    refine lq_aload_n C (i := 1) rfl 3 rfl dL_law_1372 ?_
    refine lq_aload_n C (i := 0) rfl 4 rfl dL_law_1373 ?_
    refine lq_iload C 0 rfl dL_law_1374 ?_
    refine lq_iconst C (x := nI 1) rfl dL_law_1376 ?_
    refine lq_iadd C dL_law_1377 ?_
    refine lq_cast (.int (nI 1)) (congrArg Value.int (by decide)) ?_
    refine lq_sld C 1 (by decide) (by decide) dL_law_1378 ?_
    refine lq_cast (.int v1) (congrArg Value.int e_v1) ?_
    refine lq_aload_n C (i := 0) rfl 4 rfl dL_law_1379 ?_
    refine lq_iload C 0 rfl dL_law_1380 ?_
    refine lq_iconst C (x := nI 2) rfl dL_law_1382 ?_
    refine lq_iadd C dL_law_1383 ?_
    refine lq_cast (.int (nI 2)) (congrArg Value.int (by decide)) ?_
    refine lq_sld C 2 (by decide) (by decide) dL_law_1384 ?_
    refine lq_cast (.int v2) (congrArg Value.int e_v2) ?_
    refine lq_aload_n C (i := 3) rfl 1 rfl dL_law_1385 ?_
    refine lq_callW C (z136_L_words l hlt S dp x out q20 v1 v2 hneg_v1 Fr_355_x Fk_x Fm_x Fm_q20 Fk_q20 Fi_370_x) lH_277 rfl rfl ⟨by decide, by decide⟩ ⟨Nat.le_of_ble_eq_true rfl, Nat.le_of_ble_eq_true rfl⟩ rfl (Nat.le_of_ble_eq_true rfl) dL_law_1386 (fun r_1386 u_1386 h_1386 => ?_)
    obtain ⟨hr_1386, hu_1386⟩ := h_1386
    have hw_1386 := hu_1386.symm
    subst hw_1386
    have hx_1386 := hr_1386.symm
    subst hx_1386
    refine lq_istore C (lv' := [(5, .int (nI 1)), (4, .int (nI 0)), (3, .ref out), (2, .ref (a 0)), (1, .ref x), (0, .ref b)]) (by decide) rfl dL_law_1389 ?_
    refine lq_aload_n C (i := 2) rfl 3 rfl dL_law_1391 ?_
    refine lq_aload_n C (i := 0) rfl 5 rfl dL_law_1392 ?_
    refine lq_iload C 1 rfl dL_law_1393 ?_
    refine lq_iconst C (x := nI 1) rfl dL_law_1395 ?_
    refine lq_iadd C dL_law_1396 ?_
    refine lq_cast (.int (nI 1)) (congrArg Value.int (by decide)) ?_
    refine lq_sld C 1 (by decide) (by decide) dL_law_1397 ?_
    refine lq_cast (.int v1) (congrArg Value.int e_v1) ?_
    refine lq_aload_n C (i := 0) rfl 5 rfl dL_law_1398 ?_
    refine lq_iload C 1 rfl dL_law_1399 ?_
    refine lq_iconst C (x := nI 2) rfl dL_law_1401 ?_
    refine lq_iadd C dL_law_1402 ?_
    refine lq_cast (.int (nI 2)) (congrArg Value.int (by decide)) ?_
    refine lq_sld C 2 (by decide) (by decide) dL_law_1403 ?_
    refine lq_cast (.int v2) (congrArg Value.int e_v2) ?_
    refine lq_doM C (w84_words l v f g v1 v2 hneg_v1 Mv_98 Mv_34) lM_279 rfl rfl ⟨by decide, by decide⟩ ⟨Nat.le_of_ble_eq_true rfl, Nat.le_of_ble_eq_true rfl⟩ rfl (Nat.le_of_ble_eq_true rfl) dL_law_1404 ?_
    refine lq_istore C (lv' := [(6, .int (nI 0)), (5, .int (nI 1)), (4, .int (nI 0)), (3, .ref out), (2, .ref (a 0)), (1, .ref x), (0, .ref b)]) (by decide) rfl dL_law_1407 ?_
    refine lq_aload_n C (i := 2) rfl 4 rfl dL_law_1409 ?_
    refine lq_doM C (w4_thrown l (upd v 99 (nI 1)) f g rfl) lM_192 rfl rfl ⟨by decide, by decide⟩ ⟨Nat.le_of_ble_eq_true rfl, Nat.le_of_ble_eq_true rfl⟩ rfl (Nat.le_of_ble_eq_true rfl) dL_law_1410 ?_
    refine lq_iload C 1 rfl dL_law_1413 ?_
    refine lq_icmp_eq C 1420 (by decide) dL_law_1415 (fun _ => ?_) (fun c_ => absurd (by decide) c_)
    refine lq_iload C 1 rfl dL_law_1420 ?_
    refine lq_if_ne C 1437 (by decide) dL_law_1422 (fun _ => ?_) (fun c_ => absurd c_ (by decide))
    refine lq_goto C 3491 (by decide) dL_law_1437 ?_
    exact lq_sub [2, 6] rfl (law_tail C (Nat.le_of_ble_eq_true rfl) (Nat.le_of_ble_eq_true rfl))
  · obtain ⟨v2, e_v2⟩ : ∃ z : Int32, xs 2 = z := ⟨_, rfl⟩
    obtain ⟨v3, e_v3⟩ : ∃ z : Int32, xs 3 = z := ⟨_, rfl⟩
    obtain ⟨v4, e_v4⟩ : ∃ z : Int32, xs 4 = z := ⟨_, rfl⟩
    obtain ⟨v5, e_v5⟩ : ∃ z : Int32, xs 5 = z := ⟨_, rfl⟩
    refine lq_aload_n C (i := 1) rfl 3 rfl dL_law_1372 ?_
    refine lq_aload_n C (i := 0) rfl 4 rfl dL_law_1373 ?_
    refine lq_iload C 0 rfl dL_law_1374 ?_
    refine lq_iconst C (x := nI 1) rfl dL_law_1376 ?_
    refine lq_iadd C dL_law_1377 ?_
    refine lq_cast (.int (nI 1)) (congrArg Value.int (by decide)) ?_
    refine lq_sld C 1 (by decide) (by decide) dL_law_1378 ?_
    refine lq_cast (.int (nI v1)) (congrArg Value.int e_v1) ?_
    refine lq_aload_n C (i := 0) rfl 4 rfl dL_law_1379 ?_
    refine lq_iload C 0 rfl dL_law_1380 ?_
    refine lq_iconst C (x := nI 2) rfl dL_law_1382 ?_
    refine lq_iadd C dL_law_1383 ?_
    refine lq_cast (.int (nI 2)) (congrArg Value.int (by decide)) ?_
    refine lq_sld C 2 (by decide) (by decide) dL_law_1384 ?_
    refine lq_cast (.int v2) (congrArg Value.int e_v2) ?_
    refine lq_aload_n C (i := 3) rfl 1 rfl dL_law_1385 ?_
    refine lq_callW C (z139_L_words l hlt S dp x out q20 q21 v1 v2 (by omega) Fr_355_x Fk_x Fm_x Fr_321_q20 Fk_q20 Fm_q20 Fi_386_q21 Fk_q21 Fm_q21 Fi_370_x) lH_277 rfl rfl ⟨by decide, by decide⟩ ⟨Nat.le_of_ble_eq_true rfl, Nat.le_of_ble_eq_true rfl⟩ rfl (Nat.le_of_ble_eq_true rfl) dL_law_1386 (fun r_1386 u_1386 h_1386 => ?_)
    obtain ⟨hr_1386, hu_1386⟩ := h_1386
    have hw_1386 := hu_1386.symm
    subst hw_1386
    have hx_1386 := hr_1386.symm
    subst hx_1386
    refine lq_istore C (lv' := [(5, .int (nI 1)), (4, .int (nI 0)), (3, .ref out), (2, .ref (a 0)), (1, .ref x), (0, .ref b)]) (by decide) rfl dL_law_1389 ?_
    refine lq_aload_n C (i := 2) rfl 3 rfl dL_law_1391 ?_
    refine lq_aload_n C (i := 0) rfl 5 rfl dL_law_1392 ?_
    refine lq_iload C 1 rfl dL_law_1393 ?_
    refine lq_iconst C (x := nI 1) rfl dL_law_1395 ?_
    refine lq_iadd C dL_law_1396 ?_
    refine lq_cast (.int (nI 1)) (congrArg Value.int (by decide)) ?_
    refine lq_sld C 1 (by decide) (by decide) dL_law_1397 ?_
    refine lq_cast (.int (nI v1)) (congrArg Value.int e_v1) ?_
    refine lq_aload_n C (i := 0) rfl 5 rfl dL_law_1398 ?_
    refine lq_iload C 1 rfl dL_law_1399 ?_
    refine lq_iconst C (x := nI 2) rfl dL_law_1401 ?_
    refine lq_iadd C dL_law_1402 ?_
    refine lq_cast (.int (nI 2)) (congrArg Value.int (by decide)) ?_
    refine lq_sld C 2 (by decide) (by decide) dL_law_1403 ?_
    refine lq_cast (.int v2) (congrArg Value.int e_v2) ?_
    refine lq_doM C (w86_words l v f g v1 v2 (by omega) Mv_98 Mv_34) lM_279 rfl rfl ⟨by decide, by decide⟩ ⟨Nat.le_of_ble_eq_true rfl, Nat.le_of_ble_eq_true rfl⟩ rfl (Nat.le_of_ble_eq_true rfl) dL_law_1404 ?_
    refine lq_istore C (lv' := [(6, .int (nI 0)), (5, .int (nI 1)), (4, .int (nI 0)), (3, .ref out), (2, .ref (a 0)), (1, .ref x), (0, .ref b)]) (by decide) rfl dL_law_1407 ?_
    refine lq_aload_n C (i := 2) rfl 4 rfl dL_law_1409 ?_
    refine lq_doM C (w4_thrown l (upd v 99 (nI 1)) f g rfl) lM_192 rfl rfl ⟨by decide, by decide⟩ ⟨Nat.le_of_ble_eq_true rfl, Nat.le_of_ble_eq_true rfl⟩ rfl (Nat.le_of_ble_eq_true rfl) dL_law_1410 ?_
    refine lq_iload C 1 rfl dL_law_1413 ?_
    refine lq_icmp_eq C 1420 (by decide) dL_law_1415 (fun _ => ?_) (fun c_ => absurd (by decide) c_)
    refine lq_iload C 1 rfl dL_law_1420 ?_
    refine lq_if_ne C 1437 (by decide) dL_law_1422 (fun _ => ?_) (fun c_ => absurd c_ (by decide))
    refine lq_goto C 3491 (by decide) dL_law_1437 ?_
    exact lq_sub [2, 6] rfl (law_tail C (Nat.le_of_ble_eq_true rfl) (Nat.le_of_ble_eq_true rfl))
set_option maxHeartbeats 8000000 in
set_option maxRecDepth 100000 in
theorem law_case26 (C : lC p l s m meth c b 6 xs D Y tp dp) {S : cS} {a : Nat → Nat} {v : Nat → Int32} {f : Nat → Nat → Int32} {g : Nat → Nat → Int64} {x out q1 q2 q3 q10 q11 q15 q19 q20 q21 q22 q23 q29 q30 q37 : Nat} (F : cFr S dp x out q1 q2 q3 q10 q11 q15 q19 q20 q21 q22 q23 q29 q30 q37) (M : mFr v f g) : lG p l e s m below meth c b D Y 174 409927 1440 [(4, .int (nI 0)), (3, .ref out), (2, .ref (a 0)), (1, .ref x), (0, .ref b)] [] S a v f g := by
  have hlt := C.2.2.2.2.2.2.2.2.2.2.1
  obtain ⟨FeI_q30_0, FeI_q30_1, Fi_195_q23, Fi_289_q11, Fi_289_q15, Fi_289_q2, Fi_33_q37, Fi_361_x, Fi_366_x, Fi_368_x, Fi_369_x, Fi_36_q37, Fi_370_x, Fi_37_q37, Fi_384_q19, Fi_384_q22, Fi_386_q19, Fi_386_q21, Fi_386_q22, Fk_out, Fk_q1, Fk_q10, Fk_q11, Fk_q15, Fk_q19, Fk_q2, Fk_q20, Fk_q21, Fk_q22, Fk_q23, Fk_q29, Fk_q3, Fk_q30, Fk_q37, Fk_x, Fm_out, Fm_q1, Fm_q10, Fm_q11, Fm_q15, Fm_q19, Fm_q2, Fm_q20, Fm_q21, Fm_q22, Fm_q23, Fm_q29, Fm_q3, Fm_q30, Fm_q37, Fm_x, Fn_out, Fn_q3, Fn_q30, Fr_224_q29, Fr_288_q2, Fr_321_q20, Fr_352_x, Fr_353_x, Fr_354_x, Fr_355_x, Fr_356_x, Fr_358_x, Fr_359_x, Fr_360_x, Fr_362_x, Fr_364_x, Fr_365_x, Fr_385_q19, Fr_385_q22, Fr_3_q10, Fr_4_q10, Fr_96_q1⟩ := F
  obtain ⟨Mall_21, Mall_22, Mf_29_0, Mf_29_1, Mf_29_2, Mf_29_3, Mf_29_4, Mf_49_0, Mf_49_1, Mf_8_0, Mf_8_1, Mg_7_0, Mg_7_1, Mg_7_10, Mg_7_11, Mg_7_12, Mg_7_13, Mg_7_14, Mg_7_15, Mg_7_16, Mg_7_17, Mg_7_18, Mg_7_19, Mg_7_2, Mg_7_20, Mg_7_21, Mg_7_22, Mg_7_23, Mg_7_24, Mg_7_25, Mg_7_26, Mg_7_27, Mg_7_28, Mg_7_29, Mg_7_3, Mg_7_30, Mg_7_31, Mg_7_32, Mg_7_33, Mg_7_34, Mg_7_35, Mg_7_36, Mg_7_37, Mg_7_38, Mg_7_39, Mg_7_4, Mg_7_5, Mg_7_6, Mg_7_7, Mg_7_8, Mg_7_9, Mv_13, Mv_14, Mv_2, Mv_20, Mv_29, Mv_34, Mv_35, Mv_40, Mv_48, Mv_49, Mv_72, Mv_88, Mv_89, Mv_90, Mv_96, Mv_97, Mv_98⟩ := M
  rcases c_sgn (xs 1) with hneg_v1 | ⟨v1, hr_v1, e_v1⟩
  · obtain ⟨v1, e_v1⟩ : ∃ z : Int32, xs 1 = z := ⟨_, rfl⟩
    rw [e_v1] at hneg_v1
    obtain ⟨v2, e_v2⟩ : ∃ z : Int32, xs 2 = z := ⟨_, rfl⟩
    obtain ⟨v3, e_v3⟩ : ∃ z : Int32, xs 3 = z := ⟨_, rfl⟩
    obtain ⟨v4, e_v4⟩ : ∃ z : Int32, xs 4 = z := ⟨_, rfl⟩
    obtain ⟨v5, e_v5⟩ : ∃ z : Int32, xs 5 = z := ⟨_, rfl⟩
    refine lq_aload_n C (i := 1) rfl 3 rfl dL_law_1440 ?_
    refine lq_aload_n C (i := 0) rfl 4 rfl dL_law_1441 ?_
    refine lq_iload C 0 rfl dL_law_1442 ?_
    refine lq_iconst C (x := nI 1) rfl dL_law_1444 ?_
    refine lq_iadd C dL_law_1445 ?_
    refine lq_cast (.int (nI 1)) (congrArg Value.int (by decide)) ?_
    refine lq_sld C 1 (by decide) (by decide) dL_law_1446 ?_
    refine lq_cast (.int v1) (congrArg Value.int e_v1) ?_
    refine lq_aload_n C (i := 0) rfl 4 rfl dL_law_1447 ?_
    refine lq_iload C 0 rfl dL_law_1448 ?_
    refine lq_iconst C (x := nI 2) rfl dL_law_1450 ?_
    refine lq_iadd C dL_law_1451 ?_
    refine lq_cast (.int (nI 2)) (congrArg Value.int (by decide)) ?_
    refine lq_sld C 2 (by decide) (by decide) dL_law_1452 ?_
    refine lq_cast (.int v2) (congrArg Value.int e_v2) ?_
    refine lq_aload_n C (i := 0) rfl 4 rfl dL_law_1453 ?_
    refine lq_iload C 0 rfl dL_law_1454 ?_
    refine lq_iconst C (x := nI 3) rfl dL_law_1456 ?_
    refine lq_iadd C dL_law_1457 ?_
    refine lq_cast (.int (nI 3)) (congrArg Value.int (by decide)) ?_
    refine lq_sld C 3 (by decide) (by decide) dL_law_1458 ?_
    refine lq_cast (.int v3) (congrArg Value.int e_v3) ?_
    refine lq_aload_n C (i := 3) rfl 1 rfl dL_law_1459 ?_
    refine lq_callW C (z142_L_shared l hlt S dp x out q20 v1 v2 v3 hneg_v1 Fr_355_x Fk_x Fm_x Fm_q20 Fk_q20 Fi_370_x) lH_280 rfl rfl ⟨by decide, by decide⟩ ⟨Nat.le_of_ble_eq_true rfl, Nat.le_of_ble_eq_true rfl⟩ rfl (Nat.le_of_ble_eq_true rfl) dL_law_1460 (fun r_1460 u_1460 h_1460 => ?_)
    obtain ⟨hr_1460, hu_1460⟩ := h_1460
    have hw_1460 := hu_1460.symm
    subst hw_1460
    have hx_1460 := hr_1460.symm
    subst hx_1460
    refine lq_istore C (lv' := [(5, .int (nI 1)), (4, .int (nI 0)), (3, .ref out), (2, .ref (a 0)), (1, .ref x), (0, .ref b)]) (by decide) rfl dL_law_1463 ?_
    refine lq_aload_n C (i := 2) rfl 3 rfl dL_law_1465 ?_
    refine lq_aload_n C (i := 0) rfl 5 rfl dL_law_1466 ?_
    refine lq_iload C 1 rfl dL_law_1467 ?_
    refine lq_iconst C (x := nI 1) rfl dL_law_1469 ?_
    refine lq_iadd C dL_law_1470 ?_
    refine lq_cast (.int (nI 1)) (congrArg Value.int (by decide)) ?_
    refine lq_sld C 1 (by decide) (by decide) dL_law_1471 ?_
    refine lq_cast (.int v1) (congrArg Value.int e_v1) ?_
    refine lq_aload_n C (i := 0) rfl 5 rfl dL_law_1472 ?_
    refine lq_iload C 1 rfl dL_law_1473 ?_
    refine lq_iconst C (x := nI 2) rfl dL_law_1475 ?_
    refine lq_iadd C dL_law_1476 ?_
    refine lq_cast (.int (nI 2)) (congrArg Value.int (by decide)) ?_
    refine lq_sld C 2 (by decide) (by decide) dL_law_1477 ?_
    refine lq_cast (.int v2) (congrArg Value.int e_v2) ?_
    refine lq_aload_n C (i := 0) rfl 5 rfl dL_law_1478 ?_
    refine lq_iload C 1 rfl dL_law_1479 ?_
    refine lq_iconst C (x := nI 3) rfl dL_law_1481 ?_
    refine lq_iadd C dL_law_1482 ?_
    refine lq_cast (.int (nI 3)) (congrArg Value.int (by decide)) ?_
    refine lq_sld C 3 (by decide) (by decide) dL_law_1483 ?_
    refine lq_cast (.int v3) (congrArg Value.int e_v3) ?_
    refine lq_doM C (w88_shared l v f g v1 v2 v3 hneg_v1 Mv_98 Mv_34) lM_283 rfl rfl ⟨by decide, by decide⟩ ⟨Nat.le_of_ble_eq_true rfl, Nat.le_of_ble_eq_true rfl⟩ rfl (Nat.le_of_ble_eq_true rfl) dL_law_1484 ?_
    refine lq_istore C (lv' := [(6, .int (nI 0)), (5, .int (nI 1)), (4, .int (nI 0)), (3, .ref out), (2, .ref (a 0)), (1, .ref x), (0, .ref b)]) (by decide) rfl dL_law_1487 ?_
    refine lq_aload_n C (i := 2) rfl 4 rfl dL_law_1489 ?_
    refine lq_doM C (w4_thrown l (upd v 99 (nI 1)) f g rfl) lM_192 rfl rfl ⟨by decide, by decide⟩ ⟨Nat.le_of_ble_eq_true rfl, Nat.le_of_ble_eq_true rfl⟩ rfl (Nat.le_of_ble_eq_true rfl) dL_law_1490 ?_
    refine lq_iload C 1 rfl dL_law_1493 ?_
    refine lq_icmp_eq C 1500 (by decide) dL_law_1495 (fun _ => ?_) (fun c_ => absurd (by decide) c_)
    refine lq_iload C 1 rfl dL_law_1500 ?_
    refine lq_if_ne C 1517 (by decide) dL_law_1502 (fun _ => ?_) (fun c_ => absurd c_ (by decide))
    refine lq_goto C 3491 (by decide) dL_law_1517 ?_
    exact lq_sub [2, 6] rfl (law_tail C (Nat.le_of_ble_eq_true rfl) (Nat.le_of_ble_eq_true rfl))
  · obtain ⟨v2, e_v2⟩ : ∃ z : Int32, xs 2 = z := ⟨_, rfl⟩
    obtain ⟨v3, e_v3⟩ : ∃ z : Int32, xs 3 = z := ⟨_, rfl⟩
    obtain ⟨v4, e_v4⟩ : ∃ z : Int32, xs 4 = z := ⟨_, rfl⟩
    obtain ⟨v5, e_v5⟩ : ∃ z : Int32, xs 5 = z := ⟨_, rfl⟩
    refine lq_aload_n C (i := 1) rfl 3 rfl dL_law_1440 ?_
    refine lq_aload_n C (i := 0) rfl 4 rfl dL_law_1441 ?_
    refine lq_iload C 0 rfl dL_law_1442 ?_
    refine lq_iconst C (x := nI 1) rfl dL_law_1444 ?_
    refine lq_iadd C dL_law_1445 ?_
    refine lq_cast (.int (nI 1)) (congrArg Value.int (by decide)) ?_
    refine lq_sld C 1 (by decide) (by decide) dL_law_1446 ?_
    refine lq_cast (.int (nI v1)) (congrArg Value.int e_v1) ?_
    refine lq_aload_n C (i := 0) rfl 4 rfl dL_law_1447 ?_
    refine lq_iload C 0 rfl dL_law_1448 ?_
    refine lq_iconst C (x := nI 2) rfl dL_law_1450 ?_
    refine lq_iadd C dL_law_1451 ?_
    refine lq_cast (.int (nI 2)) (congrArg Value.int (by decide)) ?_
    refine lq_sld C 2 (by decide) (by decide) dL_law_1452 ?_
    refine lq_cast (.int v2) (congrArg Value.int e_v2) ?_
    refine lq_aload_n C (i := 0) rfl 4 rfl dL_law_1453 ?_
    refine lq_iload C 0 rfl dL_law_1454 ?_
    refine lq_iconst C (x := nI 3) rfl dL_law_1456 ?_
    refine lq_iadd C dL_law_1457 ?_
    refine lq_cast (.int (nI 3)) (congrArg Value.int (by decide)) ?_
    refine lq_sld C 3 (by decide) (by decide) dL_law_1458 ?_
    refine lq_cast (.int v3) (congrArg Value.int e_v3) ?_
    refine lq_aload_n C (i := 3) rfl 1 rfl dL_law_1459 ?_
    refine lq_callW C (z145_L_shared l hlt S dp x out q20 q21 v1 v2 v3 (by omega) Fr_355_x Fk_x Fm_x Fr_321_q20 Fk_q20 Fm_q20 Fi_386_q21 Fk_q21 Fm_q21 Fi_370_x) lH_280 rfl rfl ⟨by decide, by decide⟩ ⟨Nat.le_of_ble_eq_true rfl, Nat.le_of_ble_eq_true rfl⟩ rfl (Nat.le_of_ble_eq_true rfl) dL_law_1460 (fun r_1460 u_1460 h_1460 => ?_)
    obtain ⟨hr_1460, hu_1460⟩ := h_1460
    have hw_1460 := hu_1460.symm
    subst hw_1460
    have hx_1460 := hr_1460.symm
    subst hx_1460
    refine lq_istore C (lv' := [(5, .int (nI 1)), (4, .int (nI 0)), (3, .ref out), (2, .ref (a 0)), (1, .ref x), (0, .ref b)]) (by decide) rfl dL_law_1463 ?_
    refine lq_aload_n C (i := 2) rfl 3 rfl dL_law_1465 ?_
    refine lq_aload_n C (i := 0) rfl 5 rfl dL_law_1466 ?_
    refine lq_iload C 1 rfl dL_law_1467 ?_
    refine lq_iconst C (x := nI 1) rfl dL_law_1469 ?_
    refine lq_iadd C dL_law_1470 ?_
    refine lq_cast (.int (nI 1)) (congrArg Value.int (by decide)) ?_
    refine lq_sld C 1 (by decide) (by decide) dL_law_1471 ?_
    refine lq_cast (.int (nI v1)) (congrArg Value.int e_v1) ?_
    refine lq_aload_n C (i := 0) rfl 5 rfl dL_law_1472 ?_
    refine lq_iload C 1 rfl dL_law_1473 ?_
    refine lq_iconst C (x := nI 2) rfl dL_law_1475 ?_
    refine lq_iadd C dL_law_1476 ?_
    refine lq_cast (.int (nI 2)) (congrArg Value.int (by decide)) ?_
    refine lq_sld C 2 (by decide) (by decide) dL_law_1477 ?_
    refine lq_cast (.int v2) (congrArg Value.int e_v2) ?_
    refine lq_aload_n C (i := 0) rfl 5 rfl dL_law_1478 ?_
    refine lq_iload C 1 rfl dL_law_1479 ?_
    refine lq_iconst C (x := nI 3) rfl dL_law_1481 ?_
    refine lq_iadd C dL_law_1482 ?_
    refine lq_cast (.int (nI 3)) (congrArg Value.int (by decide)) ?_
    refine lq_sld C 3 (by decide) (by decide) dL_law_1483 ?_
    refine lq_cast (.int v3) (congrArg Value.int e_v3) ?_
    refine lq_doM C (w90_shared l v f g v1 v2 v3 (by omega) Mv_98 Mv_34) lM_283 rfl rfl ⟨by decide, by decide⟩ ⟨Nat.le_of_ble_eq_true rfl, Nat.le_of_ble_eq_true rfl⟩ rfl (Nat.le_of_ble_eq_true rfl) dL_law_1484 ?_
    refine lq_istore C (lv' := [(6, .int (nI 0)), (5, .int (nI 1)), (4, .int (nI 0)), (3, .ref out), (2, .ref (a 0)), (1, .ref x), (0, .ref b)]) (by decide) rfl dL_law_1487 ?_
    refine lq_aload_n C (i := 2) rfl 4 rfl dL_law_1489 ?_
    refine lq_doM C (w4_thrown l (upd v 99 (nI 1)) f g rfl) lM_192 rfl rfl ⟨by decide, by decide⟩ ⟨Nat.le_of_ble_eq_true rfl, Nat.le_of_ble_eq_true rfl⟩ rfl (Nat.le_of_ble_eq_true rfl) dL_law_1490 ?_
    refine lq_iload C 1 rfl dL_law_1493 ?_
    refine lq_icmp_eq C 1500 (by decide) dL_law_1495 (fun _ => ?_) (fun c_ => absurd (by decide) c_)
    refine lq_iload C 1 rfl dL_law_1500 ?_
    refine lq_if_ne C 1517 (by decide) dL_law_1502 (fun _ => ?_) (fun c_ => absurd c_ (by decide))
    refine lq_goto C 3491 (by decide) dL_law_1517 ?_
    exact lq_sub [2, 6] rfl (law_tail C (Nat.le_of_ble_eq_true rfl) (Nat.le_of_ble_eq_true rfl))
set_option maxHeartbeats 8000000 in
set_option maxRecDepth 100000 in
theorem law_case27 (C : lC p l s m meth c b 6 xs D Y tp dp) {S : cS} {a : Nat → Nat} {v : Nat → Int32} {f : Nat → Nat → Int32} {g : Nat → Nat → Int64} {x out q1 q2 q3 q10 q11 q15 q19 q20 q21 q22 q23 q29 q30 q37 : Nat} (F : cFr S dp x out q1 q2 q3 q10 q11 q15 q19 q20 q21 q22 q23 q29 q30 q37) (M : mFr v f g) : lG p l e s m below meth c b D Y 174 409927 1520 [(4, .int (nI 0)), (3, .ref out), (2, .ref (a 0)), (1, .ref x), (0, .ref b)] [] S a v f g := by
  have hlt := C.2.2.2.2.2.2.2.2.2.2.1
  obtain ⟨FeI_q30_0, FeI_q30_1, Fi_195_q23, Fi_289_q11, Fi_289_q15, Fi_289_q2, Fi_33_q37, Fi_361_x, Fi_366_x, Fi_368_x, Fi_369_x, Fi_36_q37, Fi_370_x, Fi_37_q37, Fi_384_q19, Fi_384_q22, Fi_386_q19, Fi_386_q21, Fi_386_q22, Fk_out, Fk_q1, Fk_q10, Fk_q11, Fk_q15, Fk_q19, Fk_q2, Fk_q20, Fk_q21, Fk_q22, Fk_q23, Fk_q29, Fk_q3, Fk_q30, Fk_q37, Fk_x, Fm_out, Fm_q1, Fm_q10, Fm_q11, Fm_q15, Fm_q19, Fm_q2, Fm_q20, Fm_q21, Fm_q22, Fm_q23, Fm_q29, Fm_q3, Fm_q30, Fm_q37, Fm_x, Fn_out, Fn_q3, Fn_q30, Fr_224_q29, Fr_288_q2, Fr_321_q20, Fr_352_x, Fr_353_x, Fr_354_x, Fr_355_x, Fr_356_x, Fr_358_x, Fr_359_x, Fr_360_x, Fr_362_x, Fr_364_x, Fr_365_x, Fr_385_q19, Fr_385_q22, Fr_3_q10, Fr_4_q10, Fr_96_q1⟩ := F
  obtain ⟨Mall_21, Mall_22, Mf_29_0, Mf_29_1, Mf_29_2, Mf_29_3, Mf_29_4, Mf_49_0, Mf_49_1, Mf_8_0, Mf_8_1, Mg_7_0, Mg_7_1, Mg_7_10, Mg_7_11, Mg_7_12, Mg_7_13, Mg_7_14, Mg_7_15, Mg_7_16, Mg_7_17, Mg_7_18, Mg_7_19, Mg_7_2, Mg_7_20, Mg_7_21, Mg_7_22, Mg_7_23, Mg_7_24, Mg_7_25, Mg_7_26, Mg_7_27, Mg_7_28, Mg_7_29, Mg_7_3, Mg_7_30, Mg_7_31, Mg_7_32, Mg_7_33, Mg_7_34, Mg_7_35, Mg_7_36, Mg_7_37, Mg_7_38, Mg_7_39, Mg_7_4, Mg_7_5, Mg_7_6, Mg_7_7, Mg_7_8, Mg_7_9, Mv_13, Mv_14, Mv_2, Mv_20, Mv_29, Mv_34, Mv_35, Mv_40, Mv_48, Mv_49, Mv_72, Mv_88, Mv_89, Mv_90, Mv_96, Mv_97, Mv_98⟩ := M
  rcases c_sgn (xs 1) with hneg_v1 | ⟨v1, hr_v1, e_v1⟩
  · obtain ⟨v1, e_v1⟩ : ∃ z : Int32, xs 1 = z := ⟨_, rfl⟩
    rw [e_v1] at hneg_v1
    obtain ⟨v2, e_v2⟩ : ∃ z : Int32, xs 2 = z := ⟨_, rfl⟩
    obtain ⟨v3, e_v3⟩ : ∃ z : Int32, xs 3 = z := ⟨_, rfl⟩
    obtain ⟨v4, e_v4⟩ : ∃ z : Int32, xs 4 = z := ⟨_, rfl⟩
    obtain ⟨v5, e_v5⟩ : ∃ z : Int32, xs 5 = z := ⟨_, rfl⟩
    refine lq_aload_n C (i := 1) rfl 3 rfl dL_law_1520 ?_
    refine lq_aload_n C (i := 0) rfl 4 rfl dL_law_1521 ?_
    refine lq_iload C 0 rfl dL_law_1522 ?_
    refine lq_iconst C (x := nI 1) rfl dL_law_1524 ?_
    refine lq_iadd C dL_law_1525 ?_
    refine lq_cast (.int (nI 1)) (congrArg Value.int (by decide)) ?_
    refine lq_sld C 1 (by decide) (by decide) dL_law_1526 ?_
    refine lq_cast (.int v1) (congrArg Value.int e_v1) ?_
    refine lq_aload_n C (i := 0) rfl 4 rfl dL_law_1527 ?_
    refine lq_iload C 0 rfl dL_law_1528 ?_
    refine lq_iconst C (x := nI 2) rfl dL_law_1530 ?_
    refine lq_iadd C dL_law_1531 ?_
    refine lq_cast (.int (nI 2)) (congrArg Value.int (by decide)) ?_
    refine lq_sld C 2 (by decide) (by decide) dL_law_1532 ?_
    refine lq_cast (.int v2) (congrArg Value.int e_v2) ?_
    refine lq_aload_n C (i := 3) rfl 1 rfl dL_law_1533 ?_
    refine lq_callW C (z147_L_wordBytes l hlt S dp x out q20 v1 v2 hneg_v1 Fr_355_x Fk_x Fm_x Fm_q20 Fk_q20 Fi_370_x) lH_284 rfl rfl ⟨by decide, by decide⟩ ⟨Nat.le_of_ble_eq_true rfl, Nat.le_of_ble_eq_true rfl⟩ rfl (Nat.le_of_ble_eq_true rfl) dL_law_1534 (fun r_1534 u_1534 h_1534 => ?_)
    obtain ⟨hr_1534, hu_1534⟩ := h_1534
    have hw_1534 := hu_1534.symm
    subst hw_1534
    have hx_1534 := hr_1534.symm
    subst hx_1534
    refine lq_istore C (lv' := [(5, .int (nI 1)), (4, .int (nI 0)), (3, .ref out), (2, .ref (a 0)), (1, .ref x), (0, .ref b)]) (by decide) rfl dL_law_1537 ?_
    refine lq_aload_n C (i := 2) rfl 3 rfl dL_law_1539 ?_
    refine lq_aload_n C (i := 0) rfl 5 rfl dL_law_1540 ?_
    refine lq_iload C 1 rfl dL_law_1541 ?_
    refine lq_iconst C (x := nI 1) rfl dL_law_1543 ?_
    refine lq_iadd C dL_law_1544 ?_
    refine lq_cast (.int (nI 1)) (congrArg Value.int (by decide)) ?_
    refine lq_sld C 1 (by decide) (by decide) dL_law_1545 ?_
    refine lq_cast (.int v1) (congrArg Value.int e_v1) ?_
    refine lq_aload_n C (i := 0) rfl 5 rfl dL_law_1546 ?_
    refine lq_iload C 1 rfl dL_law_1547 ?_
    refine lq_iconst C (x := nI 2) rfl dL_law_1549 ?_
    refine lq_iadd C dL_law_1550 ?_
    refine lq_cast (.int (nI 2)) (congrArg Value.int (by decide)) ?_
    refine lq_sld C 2 (by decide) (by decide) dL_law_1551 ?_
    refine lq_cast (.int v2) (congrArg Value.int e_v2) ?_
    refine lq_doM C (w91_wordBytes l v f g v1 v2 hneg_v1 Mv_98 Mv_34) lM_286 rfl rfl ⟨by decide, by decide⟩ ⟨Nat.le_of_ble_eq_true rfl, Nat.le_of_ble_eq_true rfl⟩ rfl (Nat.le_of_ble_eq_true rfl) dL_law_1552 ?_
    refine lq_istore C (lv' := [(6, .int (nI 0)), (5, .int (nI 1)), (4, .int (nI 0)), (3, .ref out), (2, .ref (a 0)), (1, .ref x), (0, .ref b)]) (by decide) rfl dL_law_1555 ?_
    refine lq_aload_n C (i := 2) rfl 4 rfl dL_law_1557 ?_
    refine lq_doM C (w4_thrown l (upd v 99 (nI 1)) f g rfl) lM_192 rfl rfl ⟨by decide, by decide⟩ ⟨Nat.le_of_ble_eq_true rfl, Nat.le_of_ble_eq_true rfl⟩ rfl (Nat.le_of_ble_eq_true rfl) dL_law_1558 ?_
    refine lq_iload C 1 rfl dL_law_1561 ?_
    refine lq_icmp_eq C 1568 (by decide) dL_law_1563 (fun _ => ?_) (fun c_ => absurd (by decide) c_)
    refine lq_iload C 1 rfl dL_law_1568 ?_
    refine lq_if_ne C 1585 (by decide) dL_law_1570 (fun _ => ?_) (fun c_ => absurd c_ (by decide))
    refine lq_goto C 3491 (by decide) dL_law_1585 ?_
    exact lq_sub [2, 6] rfl (law_tail C (Nat.le_of_ble_eq_true rfl) (Nat.le_of_ble_eq_true rfl))
  · obtain ⟨v2, e_v2⟩ : ∃ z : Int32, xs 2 = z := ⟨_, rfl⟩
    obtain ⟨v3, e_v3⟩ : ∃ z : Int32, xs 3 = z := ⟨_, rfl⟩
    obtain ⟨v4, e_v4⟩ : ∃ z : Int32, xs 4 = z := ⟨_, rfl⟩
    obtain ⟨v5, e_v5⟩ : ∃ z : Int32, xs 5 = z := ⟨_, rfl⟩
    refine lq_aload_n C (i := 1) rfl 3 rfl dL_law_1520 ?_
    refine lq_aload_n C (i := 0) rfl 4 rfl dL_law_1521 ?_
    refine lq_iload C 0 rfl dL_law_1522 ?_
    refine lq_iconst C (x := nI 1) rfl dL_law_1524 ?_
    refine lq_iadd C dL_law_1525 ?_
    refine lq_cast (.int (nI 1)) (congrArg Value.int (by decide)) ?_
    refine lq_sld C 1 (by decide) (by decide) dL_law_1526 ?_
    refine lq_cast (.int (nI v1)) (congrArg Value.int e_v1) ?_
    refine lq_aload_n C (i := 0) rfl 4 rfl dL_law_1527 ?_
    refine lq_iload C 0 rfl dL_law_1528 ?_
    refine lq_iconst C (x := nI 2) rfl dL_law_1530 ?_
    refine lq_iadd C dL_law_1531 ?_
    refine lq_cast (.int (nI 2)) (congrArg Value.int (by decide)) ?_
    refine lq_sld C 2 (by decide) (by decide) dL_law_1532 ?_
    refine lq_cast (.int v2) (congrArg Value.int e_v2) ?_
    refine lq_aload_n C (i := 3) rfl 1 rfl dL_law_1533 ?_
    refine lq_callW C (z149_L_wordBytes l hlt S dp x out q20 q21 v1 v2 (by omega) Fr_355_x Fk_x Fm_x Fr_321_q20 Fk_q20 Fm_q20 Fi_386_q21 Fk_q21 Fm_q21 Fi_370_x) lH_284 rfl rfl ⟨by decide, by decide⟩ ⟨Nat.le_of_ble_eq_true rfl, Nat.le_of_ble_eq_true rfl⟩ rfl (Nat.le_of_ble_eq_true rfl) dL_law_1534 (fun r_1534 u_1534 h_1534 => ?_)
    obtain ⟨hr_1534, hu_1534⟩ := h_1534
    have hw_1534 := hu_1534.symm
    subst hw_1534
    have hx_1534 := hr_1534.symm
    subst hx_1534
    refine lq_istore C (lv' := [(5, .int (nI 1)), (4, .int (nI 0)), (3, .ref out), (2, .ref (a 0)), (1, .ref x), (0, .ref b)]) (by decide) rfl dL_law_1537 ?_
    refine lq_aload_n C (i := 2) rfl 3 rfl dL_law_1539 ?_
    refine lq_aload_n C (i := 0) rfl 5 rfl dL_law_1540 ?_
    refine lq_iload C 1 rfl dL_law_1541 ?_
    refine lq_iconst C (x := nI 1) rfl dL_law_1543 ?_
    refine lq_iadd C dL_law_1544 ?_
    refine lq_cast (.int (nI 1)) (congrArg Value.int (by decide)) ?_
    refine lq_sld C 1 (by decide) (by decide) dL_law_1545 ?_
    refine lq_cast (.int (nI v1)) (congrArg Value.int e_v1) ?_
    refine lq_aload_n C (i := 0) rfl 5 rfl dL_law_1546 ?_
    refine lq_iload C 1 rfl dL_law_1547 ?_
    refine lq_iconst C (x := nI 2) rfl dL_law_1549 ?_
    refine lq_iadd C dL_law_1550 ?_
    refine lq_cast (.int (nI 2)) (congrArg Value.int (by decide)) ?_
    refine lq_sld C 2 (by decide) (by decide) dL_law_1551 ?_
    refine lq_cast (.int v2) (congrArg Value.int e_v2) ?_
    refine lq_doM C (w92_wordBytes l v f g v1 v2 (by omega) Mv_98 Mv_34) lM_286 rfl rfl ⟨by decide, by decide⟩ ⟨Nat.le_of_ble_eq_true rfl, Nat.le_of_ble_eq_true rfl⟩ rfl (Nat.le_of_ble_eq_true rfl) dL_law_1552 ?_
    refine lq_istore C (lv' := [(6, .int (nI 0)), (5, .int (nI 1)), (4, .int (nI 0)), (3, .ref out), (2, .ref (a 0)), (1, .ref x), (0, .ref b)]) (by decide) rfl dL_law_1555 ?_
    refine lq_aload_n C (i := 2) rfl 4 rfl dL_law_1557 ?_
    refine lq_doM C (w4_thrown l (upd v 99 (nI 1)) f g rfl) lM_192 rfl rfl ⟨by decide, by decide⟩ ⟨Nat.le_of_ble_eq_true rfl, Nat.le_of_ble_eq_true rfl⟩ rfl (Nat.le_of_ble_eq_true rfl) dL_law_1558 ?_
    refine lq_iload C 1 rfl dL_law_1561 ?_
    refine lq_icmp_eq C 1568 (by decide) dL_law_1563 (fun _ => ?_) (fun c_ => absurd (by decide) c_)
    refine lq_iload C 1 rfl dL_law_1568 ?_
    refine lq_if_ne C 1585 (by decide) dL_law_1570 (fun _ => ?_) (fun c_ => absurd c_ (by decide))
    refine lq_goto C 3491 (by decide) dL_law_1585 ?_
    exact lq_sub [2, 6] rfl (law_tail C (Nat.le_of_ble_eq_true rfl) (Nat.le_of_ble_eq_true rfl))
set_option maxHeartbeats 8000000 in
set_option maxRecDepth 100000 in
theorem law_case28 (C : lC p l s m meth c b 6 xs D Y tp dp) {S : cS} {a : Nat → Nat} {v : Nat → Int32} {f : Nat → Nat → Int32} {g : Nat → Nat → Int64} {x out q1 q2 q3 q10 q11 q15 q19 q20 q21 q22 q23 q29 q30 q37 : Nat} (F : cFr S dp x out q1 q2 q3 q10 q11 q15 q19 q20 q21 q22 q23 q29 q30 q37) (M : mFr v f g) : lG p l e s m below meth c b D Y 174 409927 1588 [(4, .int (nI 0)), (3, .ref out), (2, .ref (a 0)), (1, .ref x), (0, .ref b)] [] S a v f g := by
  have hlt := C.2.2.2.2.2.2.2.2.2.2.1
  obtain ⟨FeI_q30_0, FeI_q30_1, Fi_195_q23, Fi_289_q11, Fi_289_q15, Fi_289_q2, Fi_33_q37, Fi_361_x, Fi_366_x, Fi_368_x, Fi_369_x, Fi_36_q37, Fi_370_x, Fi_37_q37, Fi_384_q19, Fi_384_q22, Fi_386_q19, Fi_386_q21, Fi_386_q22, Fk_out, Fk_q1, Fk_q10, Fk_q11, Fk_q15, Fk_q19, Fk_q2, Fk_q20, Fk_q21, Fk_q22, Fk_q23, Fk_q29, Fk_q3, Fk_q30, Fk_q37, Fk_x, Fm_out, Fm_q1, Fm_q10, Fm_q11, Fm_q15, Fm_q19, Fm_q2, Fm_q20, Fm_q21, Fm_q22, Fm_q23, Fm_q29, Fm_q3, Fm_q30, Fm_q37, Fm_x, Fn_out, Fn_q3, Fn_q30, Fr_224_q29, Fr_288_q2, Fr_321_q20, Fr_352_x, Fr_353_x, Fr_354_x, Fr_355_x, Fr_356_x, Fr_358_x, Fr_359_x, Fr_360_x, Fr_362_x, Fr_364_x, Fr_365_x, Fr_385_q19, Fr_385_q22, Fr_3_q10, Fr_4_q10, Fr_96_q1⟩ := F
  obtain ⟨Mall_21, Mall_22, Mf_29_0, Mf_29_1, Mf_29_2, Mf_29_3, Mf_29_4, Mf_49_0, Mf_49_1, Mf_8_0, Mf_8_1, Mg_7_0, Mg_7_1, Mg_7_10, Mg_7_11, Mg_7_12, Mg_7_13, Mg_7_14, Mg_7_15, Mg_7_16, Mg_7_17, Mg_7_18, Mg_7_19, Mg_7_2, Mg_7_20, Mg_7_21, Mg_7_22, Mg_7_23, Mg_7_24, Mg_7_25, Mg_7_26, Mg_7_27, Mg_7_28, Mg_7_29, Mg_7_3, Mg_7_30, Mg_7_31, Mg_7_32, Mg_7_33, Mg_7_34, Mg_7_35, Mg_7_36, Mg_7_37, Mg_7_38, Mg_7_39, Mg_7_4, Mg_7_5, Mg_7_6, Mg_7_7, Mg_7_8, Mg_7_9, Mv_13, Mv_14, Mv_2, Mv_20, Mv_29, Mv_34, Mv_35, Mv_40, Mv_48, Mv_49, Mv_72, Mv_88, Mv_89, Mv_90, Mv_96, Mv_97, Mv_98⟩ := M
  rcases c_sgn (xs 1) with hneg_v1 | ⟨v1, hr_v1, e_v1⟩
  · obtain ⟨v1, e_v1⟩ : ∃ z : Int32, xs 1 = z := ⟨_, rfl⟩
    rw [e_v1] at hneg_v1
    obtain ⟨v2, e_v2⟩ : ∃ z : Int32, xs 2 = z := ⟨_, rfl⟩
    obtain ⟨v3, e_v3⟩ : ∃ z : Int32, xs 3 = z := ⟨_, rfl⟩
    obtain ⟨v4, e_v4⟩ : ∃ z : Int32, xs 4 = z := ⟨_, rfl⟩
    obtain ⟨v5, e_v5⟩ : ∃ z : Int32, xs 5 = z := ⟨_, rfl⟩
    refine lq_aload_n C (i := 1) rfl 3 rfl dL_law_1588 ?_
    refine lq_aload_n C (i := 0) rfl 4 rfl dL_law_1589 ?_
    refine lq_iload C 0 rfl dL_law_1590 ?_
    refine lq_iconst C (x := nI 1) rfl dL_law_1592 ?_
    refine lq_iadd C dL_law_1593 ?_
    refine lq_cast (.int (nI 1)) (congrArg Value.int (by decide)) ?_
    refine lq_sld C 1 (by decide) (by decide) dL_law_1594 ?_
    refine lq_cast (.int v1) (congrArg Value.int e_v1) ?_
    refine lq_aload_n C (i := 0) rfl 4 rfl dL_law_1595 ?_
    refine lq_iload C 0 rfl dL_law_1596 ?_
    refine lq_iconst C (x := nI 2) rfl dL_law_1598 ?_
    refine lq_iadd C dL_law_1599 ?_
    refine lq_cast (.int (nI 2)) (congrArg Value.int (by decide)) ?_
    refine lq_sld C 2 (by decide) (by decide) dL_law_1600 ?_
    refine lq_cast (.int v2) (congrArg Value.int e_v2) ?_
    refine lq_aload_n C (i := 0) rfl 4 rfl dL_law_1601 ?_
    refine lq_iload C 0 rfl dL_law_1602 ?_
    refine lq_iconst C (x := nI 3) rfl dL_law_1604 ?_
    refine lq_iadd C dL_law_1605 ?_
    refine lq_cast (.int (nI 3)) (congrArg Value.int (by decide)) ?_
    refine lq_sld C 3 (by decide) (by decide) dL_law_1606 ?_
    refine lq_cast (.int v3) (congrArg Value.int e_v3) ?_
    refine lq_aload_n C (i := 0) rfl 4 rfl dL_law_1607 ?_
    refine lq_iload C 0 rfl dL_law_1608 ?_
    refine lq_iconst C (x := nI 4) rfl dL_law_1610 ?_
    refine lq_iadd C dL_law_1611 ?_
    refine lq_cast (.int (nI 4)) (congrArg Value.int (by decide)) ?_
    refine lq_sld C 4 (by decide) (by decide) dL_law_1612 ?_
    refine lq_cast (.int v4) (congrArg Value.int e_v4) ?_
    refine lq_aload_n C (i := 3) rfl 1 rfl dL_law_1613 ?_
    refine lq_callW C (z151_L_signAt l hlt S dp x out q20 v1 v2 v3 v4 hneg_v1 Fr_355_x Fk_x Fm_x Fm_q20 Fk_q20 Fi_370_x) lH_287 rfl rfl ⟨by decide, by decide⟩ ⟨Nat.le_of_ble_eq_true rfl, Nat.le_of_ble_eq_true rfl⟩ rfl (Nat.le_of_ble_eq_true rfl) dL_law_1614 (fun r_1614 u_1614 h_1614 => ?_)
    obtain ⟨hr_1614, hu_1614⟩ := h_1614
    have hw_1614 := hu_1614.symm
    subst hw_1614
    have hx_1614 := hr_1614.symm
    subst hx_1614
    refine lq_istore C (lv' := [(5, .int (nI 1)), (4, .int (nI 0)), (3, .ref out), (2, .ref (a 0)), (1, .ref x), (0, .ref b)]) (by decide) rfl dL_law_1617 ?_
    refine lq_aload_n C (i := 2) rfl 3 rfl dL_law_1619 ?_
    refine lq_aload_n C (i := 0) rfl 5 rfl dL_law_1620 ?_
    refine lq_iload C 1 rfl dL_law_1621 ?_
    refine lq_iconst C (x := nI 1) rfl dL_law_1623 ?_
    refine lq_iadd C dL_law_1624 ?_
    refine lq_cast (.int (nI 1)) (congrArg Value.int (by decide)) ?_
    refine lq_sld C 1 (by decide) (by decide) dL_law_1625 ?_
    refine lq_cast (.int v1) (congrArg Value.int e_v1) ?_
    refine lq_aload_n C (i := 0) rfl 5 rfl dL_law_1626 ?_
    refine lq_iload C 1 rfl dL_law_1627 ?_
    refine lq_iconst C (x := nI 2) rfl dL_law_1629 ?_
    refine lq_iadd C dL_law_1630 ?_
    refine lq_cast (.int (nI 2)) (congrArg Value.int (by decide)) ?_
    refine lq_sld C 2 (by decide) (by decide) dL_law_1631 ?_
    refine lq_cast (.int v2) (congrArg Value.int e_v2) ?_
    refine lq_aload_n C (i := 0) rfl 5 rfl dL_law_1632 ?_
    refine lq_iload C 1 rfl dL_law_1633 ?_
    refine lq_iconst C (x := nI 3) rfl dL_law_1635 ?_
    refine lq_iadd C dL_law_1636 ?_
    refine lq_cast (.int (nI 3)) (congrArg Value.int (by decide)) ?_
    refine lq_sld C 3 (by decide) (by decide) dL_law_1637 ?_
    refine lq_cast (.int v3) (congrArg Value.int e_v3) ?_
    refine lq_aload_n C (i := 0) rfl 5 rfl dL_law_1638 ?_
    refine lq_iload C 1 rfl dL_law_1639 ?_
    refine lq_iconst C (x := nI 4) rfl dL_law_1641 ?_
    refine lq_iadd C dL_law_1642 ?_
    refine lq_cast (.int (nI 4)) (congrArg Value.int (by decide)) ?_
    refine lq_sld C 4 (by decide) (by decide) dL_law_1643 ?_
    refine lq_cast (.int v4) (congrArg Value.int e_v4) ?_
    refine lq_doM C (w93_signAt l v f g v1 v2 v3 v4 hneg_v1 Mv_98 Mv_34) lM_290 rfl rfl ⟨by decide, by decide⟩ ⟨Nat.le_of_ble_eq_true rfl, Nat.le_of_ble_eq_true rfl⟩ rfl (Nat.le_of_ble_eq_true rfl) dL_law_1644 ?_
    refine lq_istore C (lv' := [(6, .int (nI 32)), (5, .int (nI 1)), (4, .int (nI 0)), (3, .ref out), (2, .ref (a 0)), (1, .ref x), (0, .ref b)]) (by decide) rfl dL_law_1647 ?_
    refine lq_aload_n C (i := 2) rfl 4 rfl dL_law_1649 ?_
    refine lq_doM C (w4_thrown l (upd v 99 (nI 1)) f g rfl) lM_192 rfl rfl ⟨by decide, by decide⟩ ⟨Nat.le_of_ble_eq_true rfl, Nat.le_of_ble_eq_true rfl⟩ rfl (Nat.le_of_ble_eq_true rfl) dL_law_1650 ?_
    refine lq_iload C 1 rfl dL_law_1653 ?_
    refine lq_icmp_eq C 1660 (by decide) dL_law_1655 (fun _ => ?_) (fun c_ => absurd (by decide) c_)
    refine lq_iload C 1 rfl dL_law_1660 ?_
    refine lq_if_ne C 1677 (by decide) dL_law_1662 (fun _ => ?_) (fun c_ => absurd c_ (by decide))
    refine lq_goto C 3491 (by decide) dL_law_1677 ?_
    exact lq_sub [2, 6] rfl (law_tail C (Nat.le_of_ble_eq_true rfl) (Nat.le_of_ble_eq_true rfl))
  · obtain ⟨v2, e_v2⟩ : ∃ z : Int32, xs 2 = z := ⟨_, rfl⟩
    obtain ⟨v3, e_v3⟩ : ∃ z : Int32, xs 3 = z := ⟨_, rfl⟩
    obtain ⟨v4, e_v4⟩ : ∃ z : Int32, xs 4 = z := ⟨_, rfl⟩
    obtain ⟨v5, e_v5⟩ : ∃ z : Int32, xs 5 = z := ⟨_, rfl⟩
    refine lq_aload_n C (i := 1) rfl 3 rfl dL_law_1588 ?_
    refine lq_aload_n C (i := 0) rfl 4 rfl dL_law_1589 ?_
    refine lq_iload C 0 rfl dL_law_1590 ?_
    refine lq_iconst C (x := nI 1) rfl dL_law_1592 ?_
    refine lq_iadd C dL_law_1593 ?_
    refine lq_cast (.int (nI 1)) (congrArg Value.int (by decide)) ?_
    refine lq_sld C 1 (by decide) (by decide) dL_law_1594 ?_
    refine lq_cast (.int (nI v1)) (congrArg Value.int e_v1) ?_
    refine lq_aload_n C (i := 0) rfl 4 rfl dL_law_1595 ?_
    refine lq_iload C 0 rfl dL_law_1596 ?_
    refine lq_iconst C (x := nI 2) rfl dL_law_1598 ?_
    refine lq_iadd C dL_law_1599 ?_
    refine lq_cast (.int (nI 2)) (congrArg Value.int (by decide)) ?_
    refine lq_sld C 2 (by decide) (by decide) dL_law_1600 ?_
    refine lq_cast (.int v2) (congrArg Value.int e_v2) ?_
    refine lq_aload_n C (i := 0) rfl 4 rfl dL_law_1601 ?_
    refine lq_iload C 0 rfl dL_law_1602 ?_
    refine lq_iconst C (x := nI 3) rfl dL_law_1604 ?_
    refine lq_iadd C dL_law_1605 ?_
    refine lq_cast (.int (nI 3)) (congrArg Value.int (by decide)) ?_
    refine lq_sld C 3 (by decide) (by decide) dL_law_1606 ?_
    refine lq_cast (.int v3) (congrArg Value.int e_v3) ?_
    refine lq_aload_n C (i := 0) rfl 4 rfl dL_law_1607 ?_
    refine lq_iload C 0 rfl dL_law_1608 ?_
    refine lq_iconst C (x := nI 4) rfl dL_law_1610 ?_
    refine lq_iadd C dL_law_1611 ?_
    refine lq_cast (.int (nI 4)) (congrArg Value.int (by decide)) ?_
    refine lq_sld C 4 (by decide) (by decide) dL_law_1612 ?_
    refine lq_cast (.int v4) (congrArg Value.int e_v4) ?_
    refine lq_aload_n C (i := 3) rfl 1 rfl dL_law_1613 ?_
    refine lq_callW C (z153_L_signAt l hlt S dp x out q20 q21 v1 v2 v3 v4 (by omega) Fr_355_x Fk_x Fm_x Fr_321_q20 Fk_q20 Fm_q20 Fi_386_q21 Fk_q21 Fm_q21 Fi_370_x) lH_287 rfl rfl ⟨by decide, by decide⟩ ⟨Nat.le_of_ble_eq_true rfl, Nat.le_of_ble_eq_true rfl⟩ rfl (Nat.le_of_ble_eq_true rfl) dL_law_1614 (fun r_1614 u_1614 h_1614 => ?_)
    obtain ⟨hr_1614, hu_1614⟩ := h_1614
    have hw_1614 := hu_1614.symm
    subst hw_1614
    have hx_1614 := hr_1614.symm
    subst hx_1614
    refine lq_istore C (lv' := [(5, .int (nI 1)), (4, .int (nI 0)), (3, .ref out), (2, .ref (a 0)), (1, .ref x), (0, .ref b)]) (by decide) rfl dL_law_1617 ?_
    refine lq_aload_n C (i := 2) rfl 3 rfl dL_law_1619 ?_
    refine lq_aload_n C (i := 0) rfl 5 rfl dL_law_1620 ?_
    refine lq_iload C 1 rfl dL_law_1621 ?_
    refine lq_iconst C (x := nI 1) rfl dL_law_1623 ?_
    refine lq_iadd C dL_law_1624 ?_
    refine lq_cast (.int (nI 1)) (congrArg Value.int (by decide)) ?_
    refine lq_sld C 1 (by decide) (by decide) dL_law_1625 ?_
    refine lq_cast (.int (nI v1)) (congrArg Value.int e_v1) ?_
    refine lq_aload_n C (i := 0) rfl 5 rfl dL_law_1626 ?_
    refine lq_iload C 1 rfl dL_law_1627 ?_
    refine lq_iconst C (x := nI 2) rfl dL_law_1629 ?_
    refine lq_iadd C dL_law_1630 ?_
    refine lq_cast (.int (nI 2)) (congrArg Value.int (by decide)) ?_
    refine lq_sld C 2 (by decide) (by decide) dL_law_1631 ?_
    refine lq_cast (.int v2) (congrArg Value.int e_v2) ?_
    refine lq_aload_n C (i := 0) rfl 5 rfl dL_law_1632 ?_
    refine lq_iload C 1 rfl dL_law_1633 ?_
    refine lq_iconst C (x := nI 3) rfl dL_law_1635 ?_
    refine lq_iadd C dL_law_1636 ?_
    refine lq_cast (.int (nI 3)) (congrArg Value.int (by decide)) ?_
    refine lq_sld C 3 (by decide) (by decide) dL_law_1637 ?_
    refine lq_cast (.int v3) (congrArg Value.int e_v3) ?_
    refine lq_aload_n C (i := 0) rfl 5 rfl dL_law_1638 ?_
    refine lq_iload C 1 rfl dL_law_1639 ?_
    refine lq_iconst C (x := nI 4) rfl dL_law_1641 ?_
    refine lq_iadd C dL_law_1642 ?_
    refine lq_cast (.int (nI 4)) (congrArg Value.int (by decide)) ?_
    refine lq_sld C 4 (by decide) (by decide) dL_law_1643 ?_
    refine lq_cast (.int v4) (congrArg Value.int e_v4) ?_
    refine lq_doM C (w94_signAt l v f g v1 v2 v3 v4 (by omega) Mv_98 Mv_34) lM_290 rfl rfl ⟨by decide, by decide⟩ ⟨Nat.le_of_ble_eq_true rfl, Nat.le_of_ble_eq_true rfl⟩ rfl (Nat.le_of_ble_eq_true rfl) dL_law_1644 ?_
    refine lq_istore C (lv' := [(6, .int (nI 32)), (5, .int (nI 1)), (4, .int (nI 0)), (3, .ref out), (2, .ref (a 0)), (1, .ref x), (0, .ref b)]) (by decide) rfl dL_law_1647 ?_
    refine lq_aload_n C (i := 2) rfl 4 rfl dL_law_1649 ?_
    refine lq_doM C (w4_thrown l (upd v 99 (nI 1)) f g rfl) lM_192 rfl rfl ⟨by decide, by decide⟩ ⟨Nat.le_of_ble_eq_true rfl, Nat.le_of_ble_eq_true rfl⟩ rfl (Nat.le_of_ble_eq_true rfl) dL_law_1650 ?_
    refine lq_iload C 1 rfl dL_law_1653 ?_
    refine lq_icmp_eq C 1660 (by decide) dL_law_1655 (fun _ => ?_) (fun c_ => absurd (by decide) c_)
    refine lq_iload C 1 rfl dL_law_1660 ?_
    refine lq_if_ne C 1677 (by decide) dL_law_1662 (fun _ => ?_) (fun c_ => absurd c_ (by decide))
    refine lq_goto C 3491 (by decide) dL_law_1677 ?_
    exact lq_sub [2, 6] rfl (law_tail C (Nat.le_of_ble_eq_true rfl) (Nat.le_of_ble_eq_true rfl))
set_option maxHeartbeats 8000000 in
set_option maxRecDepth 100000 in
theorem law_case29 (C : lC p l s m meth c b 6 xs D Y tp dp) {S : cS} {a : Nat → Nat} {v : Nat → Int32} {f : Nat → Nat → Int32} {g : Nat → Nat → Int64} {x out q1 q2 q3 q10 q11 q15 q19 q20 q21 q22 q23 q29 q30 q37 : Nat} (F : cFr S dp x out q1 q2 q3 q10 q11 q15 q19 q20 q21 q22 q23 q29 q30 q37) (M : mFr v f g) : lG p l e s m below meth c b D Y 174 409927 1680 [(4, .int (nI 0)), (3, .ref out), (2, .ref (a 0)), (1, .ref x), (0, .ref b)] [] S a v f g := by
  have hlt := C.2.2.2.2.2.2.2.2.2.2.1
  obtain ⟨FeI_q30_0, FeI_q30_1, Fi_195_q23, Fi_289_q11, Fi_289_q15, Fi_289_q2, Fi_33_q37, Fi_361_x, Fi_366_x, Fi_368_x, Fi_369_x, Fi_36_q37, Fi_370_x, Fi_37_q37, Fi_384_q19, Fi_384_q22, Fi_386_q19, Fi_386_q21, Fi_386_q22, Fk_out, Fk_q1, Fk_q10, Fk_q11, Fk_q15, Fk_q19, Fk_q2, Fk_q20, Fk_q21, Fk_q22, Fk_q23, Fk_q29, Fk_q3, Fk_q30, Fk_q37, Fk_x, Fm_out, Fm_q1, Fm_q10, Fm_q11, Fm_q15, Fm_q19, Fm_q2, Fm_q20, Fm_q21, Fm_q22, Fm_q23, Fm_q29, Fm_q3, Fm_q30, Fm_q37, Fm_x, Fn_out, Fn_q3, Fn_q30, Fr_224_q29, Fr_288_q2, Fr_321_q20, Fr_352_x, Fr_353_x, Fr_354_x, Fr_355_x, Fr_356_x, Fr_358_x, Fr_359_x, Fr_360_x, Fr_362_x, Fr_364_x, Fr_365_x, Fr_385_q19, Fr_385_q22, Fr_3_q10, Fr_4_q10, Fr_96_q1⟩ := F
  obtain ⟨Mall_21, Mall_22, Mf_29_0, Mf_29_1, Mf_29_2, Mf_29_3, Mf_29_4, Mf_49_0, Mf_49_1, Mf_8_0, Mf_8_1, Mg_7_0, Mg_7_1, Mg_7_10, Mg_7_11, Mg_7_12, Mg_7_13, Mg_7_14, Mg_7_15, Mg_7_16, Mg_7_17, Mg_7_18, Mg_7_19, Mg_7_2, Mg_7_20, Mg_7_21, Mg_7_22, Mg_7_23, Mg_7_24, Mg_7_25, Mg_7_26, Mg_7_27, Mg_7_28, Mg_7_29, Mg_7_3, Mg_7_30, Mg_7_31, Mg_7_32, Mg_7_33, Mg_7_34, Mg_7_35, Mg_7_36, Mg_7_37, Mg_7_38, Mg_7_39, Mg_7_4, Mg_7_5, Mg_7_6, Mg_7_7, Mg_7_8, Mg_7_9, Mv_13, Mv_14, Mv_2, Mv_20, Mv_29, Mv_34, Mv_35, Mv_40, Mv_48, Mv_49, Mv_72, Mv_88, Mv_89, Mv_90, Mv_96, Mv_97, Mv_98⟩ := M
  rcases c_sgn (xs 1) with hneg_v1 | ⟨v1, hr_v1, e_v1⟩
  · obtain ⟨v1, e_v1⟩ : ∃ z : Int32, xs 1 = z := ⟨_, rfl⟩
    rw [e_v1] at hneg_v1
    obtain ⟨v2, e_v2⟩ : ∃ z : Int32, xs 2 = z := ⟨_, rfl⟩
    obtain ⟨v3, e_v3⟩ : ∃ z : Int32, xs 3 = z := ⟨_, rfl⟩
    obtain ⟨v4, e_v4⟩ : ∃ z : Int32, xs 4 = z := ⟨_, rfl⟩
    obtain ⟨v5, e_v5⟩ : ∃ z : Int32, xs 5 = z := ⟨_, rfl⟩
    refine lq_aload_n C (i := 1) rfl 3 rfl dL_law_1680 ?_
    refine lq_aload_n C (i := 0) rfl 4 rfl dL_law_1681 ?_
    refine lq_iload C 0 rfl dL_law_1682 ?_
    refine lq_iconst C (x := nI 1) rfl dL_law_1684 ?_
    refine lq_iadd C dL_law_1685 ?_
    refine lq_cast (.int (nI 1)) (congrArg Value.int (by decide)) ?_
    refine lq_sld C 1 (by decide) (by decide) dL_law_1686 ?_
    refine lq_cast (.int v1) (congrArg Value.int e_v1) ?_
    refine lq_aload_n C (i := 0) rfl 4 rfl dL_law_1687 ?_
    refine lq_iload C 0 rfl dL_law_1688 ?_
    refine lq_iconst C (x := nI 2) rfl dL_law_1690 ?_
    refine lq_iadd C dL_law_1691 ?_
    refine lq_cast (.int (nI 2)) (congrArg Value.int (by decide)) ?_
    refine lq_sld C 2 (by decide) (by decide) dL_law_1692 ?_
    refine lq_cast (.int v2) (congrArg Value.int e_v2) ?_
    refine lq_aload_n C (i := 0) rfl 4 rfl dL_law_1693 ?_
    refine lq_iload C 0 rfl dL_law_1694 ?_
    refine lq_iconst C (x := nI 3) rfl dL_law_1696 ?_
    refine lq_iadd C dL_law_1697 ?_
    refine lq_cast (.int (nI 3)) (congrArg Value.int (by decide)) ?_
    refine lq_sld C 3 (by decide) (by decide) dL_law_1698 ?_
    refine lq_cast (.int v3) (congrArg Value.int e_v3) ?_
    refine lq_aload_n C (i := 3) rfl 1 rfl dL_law_1699 ?_
    refine lq_callW C (z155_L_bytes l hlt S dp x out q20 v1 v2 v3 hneg_v1 Fr_355_x Fk_x Fm_x Fm_q20 Fk_q20 Fi_370_x) lH_291 rfl rfl ⟨by decide, by decide⟩ ⟨Nat.le_of_ble_eq_true rfl, Nat.le_of_ble_eq_true rfl⟩ rfl (Nat.le_of_ble_eq_true rfl) dL_law_1700 (fun r_1700 u_1700 h_1700 => ?_)
    obtain ⟨hr_1700, hu_1700⟩ := h_1700
    have hw_1700 := hu_1700.symm
    subst hw_1700
    have hx_1700 := hr_1700.symm
    subst hx_1700
    refine lq_istore C (lv' := [(5, .int (nI 1)), (4, .int (nI 0)), (3, .ref out), (2, .ref (a 0)), (1, .ref x), (0, .ref b)]) (by decide) rfl dL_law_1703 ?_
    refine lq_aload_n C (i := 2) rfl 3 rfl dL_law_1705 ?_
    refine lq_aload_n C (i := 0) rfl 5 rfl dL_law_1706 ?_
    refine lq_iload C 1 rfl dL_law_1707 ?_
    refine lq_iconst C (x := nI 1) rfl dL_law_1709 ?_
    refine lq_iadd C dL_law_1710 ?_
    refine lq_cast (.int (nI 1)) (congrArg Value.int (by decide)) ?_
    refine lq_sld C 1 (by decide) (by decide) dL_law_1711 ?_
    refine lq_cast (.int v1) (congrArg Value.int e_v1) ?_
    refine lq_aload_n C (i := 0) rfl 5 rfl dL_law_1712 ?_
    refine lq_iload C 1 rfl dL_law_1713 ?_
    refine lq_iconst C (x := nI 2) rfl dL_law_1715 ?_
    refine lq_iadd C dL_law_1716 ?_
    refine lq_cast (.int (nI 2)) (congrArg Value.int (by decide)) ?_
    refine lq_sld C 2 (by decide) (by decide) dL_law_1717 ?_
    refine lq_cast (.int v2) (congrArg Value.int e_v2) ?_
    refine lq_aload_n C (i := 0) rfl 5 rfl dL_law_1718 ?_
    refine lq_iload C 1 rfl dL_law_1719 ?_
    refine lq_iconst C (x := nI 3) rfl dL_law_1721 ?_
    refine lq_iadd C dL_law_1722 ?_
    refine lq_cast (.int (nI 3)) (congrArg Value.int (by decide)) ?_
    refine lq_sld C 3 (by decide) (by decide) dL_law_1723 ?_
    refine lq_cast (.int v3) (congrArg Value.int e_v3) ?_
    refine lq_doM C (w95_bytes l v f g v1 v2 v3 hneg_v1 Mv_98 Mv_34) lM_293 rfl rfl ⟨by decide, by decide⟩ ⟨Nat.le_of_ble_eq_true rfl, Nat.le_of_ble_eq_true rfl⟩ rfl (Nat.le_of_ble_eq_true rfl) dL_law_1724 ?_
    refine lq_istore C (lv' := [(6, .int (nI 0)), (5, .int (nI 1)), (4, .int (nI 0)), (3, .ref out), (2, .ref (a 0)), (1, .ref x), (0, .ref b)]) (by decide) rfl dL_law_1727 ?_
    refine lq_aload_n C (i := 2) rfl 4 rfl dL_law_1729 ?_
    refine lq_doM C (w4_thrown l (upd v 99 (nI 1)) f g rfl) lM_192 rfl rfl ⟨by decide, by decide⟩ ⟨Nat.le_of_ble_eq_true rfl, Nat.le_of_ble_eq_true rfl⟩ rfl (Nat.le_of_ble_eq_true rfl) dL_law_1730 ?_
    refine lq_iload C 1 rfl dL_law_1733 ?_
    refine lq_icmp_eq C 1740 (by decide) dL_law_1735 (fun _ => ?_) (fun c_ => absurd (by decide) c_)
    refine lq_iload C 1 rfl dL_law_1740 ?_
    refine lq_if_ne C 1757 (by decide) dL_law_1742 (fun _ => ?_) (fun c_ => absurd c_ (by decide))
    refine lq_goto C 3491 (by decide) dL_law_1757 ?_
    exact lq_sub [2, 6] rfl (law_tail C (Nat.le_of_ble_eq_true rfl) (Nat.le_of_ble_eq_true rfl))
  · obtain ⟨v2, e_v2⟩ : ∃ z : Int32, xs 2 = z := ⟨_, rfl⟩
    obtain ⟨v3, e_v3⟩ : ∃ z : Int32, xs 3 = z := ⟨_, rfl⟩
    obtain ⟨v4, e_v4⟩ : ∃ z : Int32, xs 4 = z := ⟨_, rfl⟩
    obtain ⟨v5, e_v5⟩ : ∃ z : Int32, xs 5 = z := ⟨_, rfl⟩
    refine lq_aload_n C (i := 1) rfl 3 rfl dL_law_1680 ?_
    refine lq_aload_n C (i := 0) rfl 4 rfl dL_law_1681 ?_
    refine lq_iload C 0 rfl dL_law_1682 ?_
    refine lq_iconst C (x := nI 1) rfl dL_law_1684 ?_
    refine lq_iadd C dL_law_1685 ?_
    refine lq_cast (.int (nI 1)) (congrArg Value.int (by decide)) ?_
    refine lq_sld C 1 (by decide) (by decide) dL_law_1686 ?_
    refine lq_cast (.int (nI v1)) (congrArg Value.int e_v1) ?_
    refine lq_aload_n C (i := 0) rfl 4 rfl dL_law_1687 ?_
    refine lq_iload C 0 rfl dL_law_1688 ?_
    refine lq_iconst C (x := nI 2) rfl dL_law_1690 ?_
    refine lq_iadd C dL_law_1691 ?_
    refine lq_cast (.int (nI 2)) (congrArg Value.int (by decide)) ?_
    refine lq_sld C 2 (by decide) (by decide) dL_law_1692 ?_
    refine lq_cast (.int v2) (congrArg Value.int e_v2) ?_
    refine lq_aload_n C (i := 0) rfl 4 rfl dL_law_1693 ?_
    refine lq_iload C 0 rfl dL_law_1694 ?_
    refine lq_iconst C (x := nI 3) rfl dL_law_1696 ?_
    refine lq_iadd C dL_law_1697 ?_
    refine lq_cast (.int (nI 3)) (congrArg Value.int (by decide)) ?_
    refine lq_sld C 3 (by decide) (by decide) dL_law_1698 ?_
    refine lq_cast (.int v3) (congrArg Value.int e_v3) ?_
    refine lq_aload_n C (i := 3) rfl 1 rfl dL_law_1699 ?_
    refine lq_callW C (z157_L_bytes l hlt S dp x out q20 q21 v1 v2 v3 (by omega) Fr_355_x Fk_x Fm_x Fr_321_q20 Fk_q20 Fm_q20 Fi_386_q21 Fk_q21 Fm_q21 Fi_370_x) lH_291 rfl rfl ⟨by decide, by decide⟩ ⟨Nat.le_of_ble_eq_true rfl, Nat.le_of_ble_eq_true rfl⟩ rfl (Nat.le_of_ble_eq_true rfl) dL_law_1700 (fun r_1700 u_1700 h_1700 => ?_)
    obtain ⟨hr_1700, hu_1700⟩ := h_1700
    have hw_1700 := hu_1700.symm
    subst hw_1700
    have hx_1700 := hr_1700.symm
    subst hx_1700
    refine lq_istore C (lv' := [(5, .int (nI 1)), (4, .int (nI 0)), (3, .ref out), (2, .ref (a 0)), (1, .ref x), (0, .ref b)]) (by decide) rfl dL_law_1703 ?_
    refine lq_aload_n C (i := 2) rfl 3 rfl dL_law_1705 ?_
    refine lq_aload_n C (i := 0) rfl 5 rfl dL_law_1706 ?_
    refine lq_iload C 1 rfl dL_law_1707 ?_
    refine lq_iconst C (x := nI 1) rfl dL_law_1709 ?_
    refine lq_iadd C dL_law_1710 ?_
    refine lq_cast (.int (nI 1)) (congrArg Value.int (by decide)) ?_
    refine lq_sld C 1 (by decide) (by decide) dL_law_1711 ?_
    refine lq_cast (.int (nI v1)) (congrArg Value.int e_v1) ?_
    refine lq_aload_n C (i := 0) rfl 5 rfl dL_law_1712 ?_
    refine lq_iload C 1 rfl dL_law_1713 ?_
    refine lq_iconst C (x := nI 2) rfl dL_law_1715 ?_
    refine lq_iadd C dL_law_1716 ?_
    refine lq_cast (.int (nI 2)) (congrArg Value.int (by decide)) ?_
    refine lq_sld C 2 (by decide) (by decide) dL_law_1717 ?_
    refine lq_cast (.int v2) (congrArg Value.int e_v2) ?_
    refine lq_aload_n C (i := 0) rfl 5 rfl dL_law_1718 ?_
    refine lq_iload C 1 rfl dL_law_1719 ?_
    refine lq_iconst C (x := nI 3) rfl dL_law_1721 ?_
    refine lq_iadd C dL_law_1722 ?_
    refine lq_cast (.int (nI 3)) (congrArg Value.int (by decide)) ?_
    refine lq_sld C 3 (by decide) (by decide) dL_law_1723 ?_
    refine lq_cast (.int v3) (congrArg Value.int e_v3) ?_
    refine lq_doM C (w96_bytes l v f g v1 v2 v3 (by omega) Mv_98 Mv_34) lM_293 rfl rfl ⟨by decide, by decide⟩ ⟨Nat.le_of_ble_eq_true rfl, Nat.le_of_ble_eq_true rfl⟩ rfl (Nat.le_of_ble_eq_true rfl) dL_law_1724 ?_
    refine lq_istore C (lv' := [(6, .int (nI 0)), (5, .int (nI 1)), (4, .int (nI 0)), (3, .ref out), (2, .ref (a 0)), (1, .ref x), (0, .ref b)]) (by decide) rfl dL_law_1727 ?_
    refine lq_aload_n C (i := 2) rfl 4 rfl dL_law_1729 ?_
    refine lq_doM C (w4_thrown l (upd v 99 (nI 1)) f g rfl) lM_192 rfl rfl ⟨by decide, by decide⟩ ⟨Nat.le_of_ble_eq_true rfl, Nat.le_of_ble_eq_true rfl⟩ rfl (Nat.le_of_ble_eq_true rfl) dL_law_1730 ?_
    refine lq_iload C 1 rfl dL_law_1733 ?_
    refine lq_icmp_eq C 1740 (by decide) dL_law_1735 (fun _ => ?_) (fun c_ => absurd (by decide) c_)
    refine lq_iload C 1 rfl dL_law_1740 ?_
    refine lq_if_ne C 1757 (by decide) dL_law_1742 (fun _ => ?_) (fun c_ => absurd c_ (by decide))
    refine lq_goto C 3491 (by decide) dL_law_1757 ?_
    exact lq_sub [2, 6] rfl (law_tail C (Nat.le_of_ble_eq_true rfl) (Nat.le_of_ble_eq_true rfl))
set_option maxHeartbeats 8000000 in
set_option maxRecDepth 100000 in
theorem law_case30 (C : lC p l s m meth c b 6 xs D Y tp dp) {S : cS} {a : Nat → Nat} {v : Nat → Int32} {f : Nat → Nat → Int32} {g : Nat → Nat → Int64} {x out q1 q2 q3 q10 q11 q15 q19 q20 q21 q22 q23 q29 q30 q37 : Nat} (F : cFr S dp x out q1 q2 q3 q10 q11 q15 q19 q20 q21 q22 q23 q29 q30 q37) (M : mFr v f g) : lG p l e s m below meth c b D Y 174 409927 1760 [(4, .int (nI 0)), (3, .ref out), (2, .ref (a 0)), (1, .ref x), (0, .ref b)] [] S a v f g := by
  have hlt := C.2.2.2.2.2.2.2.2.2.2.1
  obtain ⟨FeI_q30_0, FeI_q30_1, Fi_195_q23, Fi_289_q11, Fi_289_q15, Fi_289_q2, Fi_33_q37, Fi_361_x, Fi_366_x, Fi_368_x, Fi_369_x, Fi_36_q37, Fi_370_x, Fi_37_q37, Fi_384_q19, Fi_384_q22, Fi_386_q19, Fi_386_q21, Fi_386_q22, Fk_out, Fk_q1, Fk_q10, Fk_q11, Fk_q15, Fk_q19, Fk_q2, Fk_q20, Fk_q21, Fk_q22, Fk_q23, Fk_q29, Fk_q3, Fk_q30, Fk_q37, Fk_x, Fm_out, Fm_q1, Fm_q10, Fm_q11, Fm_q15, Fm_q19, Fm_q2, Fm_q20, Fm_q21, Fm_q22, Fm_q23, Fm_q29, Fm_q3, Fm_q30, Fm_q37, Fm_x, Fn_out, Fn_q3, Fn_q30, Fr_224_q29, Fr_288_q2, Fr_321_q20, Fr_352_x, Fr_353_x, Fr_354_x, Fr_355_x, Fr_356_x, Fr_358_x, Fr_359_x, Fr_360_x, Fr_362_x, Fr_364_x, Fr_365_x, Fr_385_q19, Fr_385_q22, Fr_3_q10, Fr_4_q10, Fr_96_q1⟩ := F
  obtain ⟨Mall_21, Mall_22, Mf_29_0, Mf_29_1, Mf_29_2, Mf_29_3, Mf_29_4, Mf_49_0, Mf_49_1, Mf_8_0, Mf_8_1, Mg_7_0, Mg_7_1, Mg_7_10, Mg_7_11, Mg_7_12, Mg_7_13, Mg_7_14, Mg_7_15, Mg_7_16, Mg_7_17, Mg_7_18, Mg_7_19, Mg_7_2, Mg_7_20, Mg_7_21, Mg_7_22, Mg_7_23, Mg_7_24, Mg_7_25, Mg_7_26, Mg_7_27, Mg_7_28, Mg_7_29, Mg_7_3, Mg_7_30, Mg_7_31, Mg_7_32, Mg_7_33, Mg_7_34, Mg_7_35, Mg_7_36, Mg_7_37, Mg_7_38, Mg_7_39, Mg_7_4, Mg_7_5, Mg_7_6, Mg_7_7, Mg_7_8, Mg_7_9, Mv_13, Mv_14, Mv_2, Mv_20, Mv_29, Mv_34, Mv_35, Mv_40, Mv_48, Mv_49, Mv_72, Mv_88, Mv_89, Mv_90, Mv_96, Mv_97, Mv_98⟩ := M
  rcases c_sgn (xs 1) with hneg_v1 | ⟨v1, hr_v1, e_v1⟩
  · obtain ⟨v1, e_v1⟩ : ∃ z : Int32, xs 1 = z := ⟨_, rfl⟩
    rw [e_v1] at hneg_v1
    obtain ⟨v2, e_v2⟩ : ∃ z : Int32, xs 2 = z := ⟨_, rfl⟩
    obtain ⟨v3, e_v3⟩ : ∃ z : Int32, xs 3 = z := ⟨_, rfl⟩
    obtain ⟨v4, e_v4⟩ : ∃ z : Int32, xs 4 = z := ⟨_, rfl⟩
    obtain ⟨v5, e_v5⟩ : ∃ z : Int32, xs 5 = z := ⟨_, rfl⟩
    refine lq_aload_n C (i := 1) rfl 3 rfl dL_law_1760 ?_
    refine lq_aload_n C (i := 0) rfl 4 rfl dL_law_1761 ?_
    refine lq_iload C 0 rfl dL_law_1762 ?_
    refine lq_iconst C (x := nI 1) rfl dL_law_1764 ?_
    refine lq_iadd C dL_law_1765 ?_
    refine lq_cast (.int (nI 1)) (congrArg Value.int (by decide)) ?_
    refine lq_sld C 1 (by decide) (by decide) dL_law_1766 ?_
    refine lq_cast (.int v1) (congrArg Value.int e_v1) ?_
    refine lq_aload_n C (i := 0) rfl 4 rfl dL_law_1767 ?_
    refine lq_iload C 0 rfl dL_law_1768 ?_
    refine lq_iconst C (x := nI 2) rfl dL_law_1770 ?_
    refine lq_iadd C dL_law_1771 ?_
    refine lq_cast (.int (nI 2)) (congrArg Value.int (by decide)) ?_
    refine lq_sld C 2 (by decide) (by decide) dL_law_1772 ?_
    refine lq_cast (.int v2) (congrArg Value.int e_v2) ?_
    refine lq_aload_n C (i := 0) rfl 4 rfl dL_law_1773 ?_
    refine lq_iload C 0 rfl dL_law_1774 ?_
    refine lq_iconst C (x := nI 3) rfl dL_law_1776 ?_
    refine lq_iadd C dL_law_1777 ?_
    refine lq_cast (.int (nI 3)) (congrArg Value.int (by decide)) ?_
    refine lq_sld C 3 (by decide) (by decide) dL_law_1778 ?_
    refine lq_cast (.int v3) (congrArg Value.int e_v3) ?_
    refine lq_aload_n C (i := 0) rfl 4 rfl dL_law_1779 ?_
    refine lq_iload C 0 rfl dL_law_1780 ?_
    refine lq_iconst C (x := nI 4) rfl dL_law_1782 ?_
    refine lq_iadd C dL_law_1783 ?_
    refine lq_cast (.int (nI 4)) (congrArg Value.int (by decide)) ?_
    refine lq_sld C 4 (by decide) (by decide) dL_law_1784 ?_
    refine lq_cast (.int v4) (congrArg Value.int e_v4) ?_
    refine lq_aload_n C (i := 3) rfl 1 rfl dL_law_1785 ?_
    refine lq_callW C (z159_L_byteAt l hlt S dp x out q20 v1 v2 v3 v4 hneg_v1 Fr_355_x Fk_x Fm_x Fm_q20 Fk_q20 Fi_370_x) lH_294 rfl rfl ⟨by decide, by decide⟩ ⟨Nat.le_of_ble_eq_true rfl, Nat.le_of_ble_eq_true rfl⟩ rfl (Nat.le_of_ble_eq_true rfl) dL_law_1786 (fun r_1786 u_1786 h_1786 => ?_)
    obtain ⟨hr_1786, hu_1786⟩ := h_1786
    have hw_1786 := hu_1786.symm
    subst hw_1786
    have hx_1786 := hr_1786.symm
    subst hx_1786
    refine lq_istore C (lv' := [(5, .int (nI 1)), (4, .int (nI 0)), (3, .ref out), (2, .ref (a 0)), (1, .ref x), (0, .ref b)]) (by decide) rfl dL_law_1789 ?_
    refine lq_aload_n C (i := 2) rfl 3 rfl dL_law_1791 ?_
    refine lq_aload_n C (i := 0) rfl 5 rfl dL_law_1792 ?_
    refine lq_iload C 1 rfl dL_law_1793 ?_
    refine lq_iconst C (x := nI 1) rfl dL_law_1795 ?_
    refine lq_iadd C dL_law_1796 ?_
    refine lq_cast (.int (nI 1)) (congrArg Value.int (by decide)) ?_
    refine lq_sld C 1 (by decide) (by decide) dL_law_1797 ?_
    refine lq_cast (.int v1) (congrArg Value.int e_v1) ?_
    refine lq_aload_n C (i := 0) rfl 5 rfl dL_law_1798 ?_
    refine lq_iload C 1 rfl dL_law_1799 ?_
    refine lq_iconst C (x := nI 2) rfl dL_law_1801 ?_
    refine lq_iadd C dL_law_1802 ?_
    refine lq_cast (.int (nI 2)) (congrArg Value.int (by decide)) ?_
    refine lq_sld C 2 (by decide) (by decide) dL_law_1803 ?_
    refine lq_cast (.int v2) (congrArg Value.int e_v2) ?_
    refine lq_aload_n C (i := 0) rfl 5 rfl dL_law_1804 ?_
    refine lq_iload C 1 rfl dL_law_1805 ?_
    refine lq_iconst C (x := nI 3) rfl dL_law_1807 ?_
    refine lq_iadd C dL_law_1808 ?_
    refine lq_cast (.int (nI 3)) (congrArg Value.int (by decide)) ?_
    refine lq_sld C 3 (by decide) (by decide) dL_law_1809 ?_
    refine lq_cast (.int v3) (congrArg Value.int e_v3) ?_
    refine lq_aload_n C (i := 0) rfl 5 rfl dL_law_1810 ?_
    refine lq_iload C 1 rfl dL_law_1811 ?_
    refine lq_iconst C (x := nI 4) rfl dL_law_1813 ?_
    refine lq_iadd C dL_law_1814 ?_
    refine lq_cast (.int (nI 4)) (congrArg Value.int (by decide)) ?_
    refine lq_sld C 4 (by decide) (by decide) dL_law_1815 ?_
    refine lq_cast (.int v4) (congrArg Value.int e_v4) ?_
    refine lq_doM C (w97_byteAt l v f g v1 v2 v3 v4 hneg_v1 Mv_98 Mv_34) lM_296 rfl rfl ⟨by decide, by decide⟩ ⟨Nat.le_of_ble_eq_true rfl, Nat.le_of_ble_eq_true rfl⟩ rfl (Nat.le_of_ble_eq_true rfl) dL_law_1816 ?_
    refine lq_istore C (lv' := [(6, .int (nI 0)), (5, .int (nI 1)), (4, .int (nI 0)), (3, .ref out), (2, .ref (a 0)), (1, .ref x), (0, .ref b)]) (by decide) rfl dL_law_1819 ?_
    refine lq_aload_n C (i := 2) rfl 4 rfl dL_law_1821 ?_
    refine lq_doM C (w4_thrown l (upd v 99 (nI 1)) f g rfl) lM_192 rfl rfl ⟨by decide, by decide⟩ ⟨Nat.le_of_ble_eq_true rfl, Nat.le_of_ble_eq_true rfl⟩ rfl (Nat.le_of_ble_eq_true rfl) dL_law_1822 ?_
    refine lq_iload C 1 rfl dL_law_1825 ?_
    refine lq_icmp_eq C 1832 (by decide) dL_law_1827 (fun _ => ?_) (fun c_ => absurd (by decide) c_)
    refine lq_iload C 1 rfl dL_law_1832 ?_
    refine lq_if_ne C 1849 (by decide) dL_law_1834 (fun _ => ?_) (fun c_ => absurd c_ (by decide))
    refine lq_goto C 3491 (by decide) dL_law_1849 ?_
    exact lq_sub [2, 6] rfl (law_tail C (Nat.le_of_ble_eq_true rfl) (Nat.le_of_ble_eq_true rfl))
  · obtain ⟨v2, e_v2⟩ : ∃ z : Int32, xs 2 = z := ⟨_, rfl⟩
    obtain ⟨v3, e_v3⟩ : ∃ z : Int32, xs 3 = z := ⟨_, rfl⟩
    obtain ⟨v4, e_v4⟩ : ∃ z : Int32, xs 4 = z := ⟨_, rfl⟩
    obtain ⟨v5, e_v5⟩ : ∃ z : Int32, xs 5 = z := ⟨_, rfl⟩
    refine lq_aload_n C (i := 1) rfl 3 rfl dL_law_1760 ?_
    refine lq_aload_n C (i := 0) rfl 4 rfl dL_law_1761 ?_
    refine lq_iload C 0 rfl dL_law_1762 ?_
    refine lq_iconst C (x := nI 1) rfl dL_law_1764 ?_
    refine lq_iadd C dL_law_1765 ?_
    refine lq_cast (.int (nI 1)) (congrArg Value.int (by decide)) ?_
    refine lq_sld C 1 (by decide) (by decide) dL_law_1766 ?_
    refine lq_cast (.int (nI v1)) (congrArg Value.int e_v1) ?_
    refine lq_aload_n C (i := 0) rfl 4 rfl dL_law_1767 ?_
    refine lq_iload C 0 rfl dL_law_1768 ?_
    refine lq_iconst C (x := nI 2) rfl dL_law_1770 ?_
    refine lq_iadd C dL_law_1771 ?_
    refine lq_cast (.int (nI 2)) (congrArg Value.int (by decide)) ?_
    refine lq_sld C 2 (by decide) (by decide) dL_law_1772 ?_
    refine lq_cast (.int v2) (congrArg Value.int e_v2) ?_
    refine lq_aload_n C (i := 0) rfl 4 rfl dL_law_1773 ?_
    refine lq_iload C 0 rfl dL_law_1774 ?_
    refine lq_iconst C (x := nI 3) rfl dL_law_1776 ?_
    refine lq_iadd C dL_law_1777 ?_
    refine lq_cast (.int (nI 3)) (congrArg Value.int (by decide)) ?_
    refine lq_sld C 3 (by decide) (by decide) dL_law_1778 ?_
    refine lq_cast (.int v3) (congrArg Value.int e_v3) ?_
    refine lq_aload_n C (i := 0) rfl 4 rfl dL_law_1779 ?_
    refine lq_iload C 0 rfl dL_law_1780 ?_
    refine lq_iconst C (x := nI 4) rfl dL_law_1782 ?_
    refine lq_iadd C dL_law_1783 ?_
    refine lq_cast (.int (nI 4)) (congrArg Value.int (by decide)) ?_
    refine lq_sld C 4 (by decide) (by decide) dL_law_1784 ?_
    refine lq_cast (.int v4) (congrArg Value.int e_v4) ?_
    refine lq_aload_n C (i := 3) rfl 1 rfl dL_law_1785 ?_
    refine lq_callW C (z161_L_byteAt l hlt S dp x out q20 q21 v1 v2 v3 v4 (by omega) Fr_355_x Fk_x Fm_x Fr_321_q20 Fk_q20 Fm_q20 Fi_386_q21 Fk_q21 Fm_q21 Fi_370_x) lH_294 rfl rfl ⟨by decide, by decide⟩ ⟨Nat.le_of_ble_eq_true rfl, Nat.le_of_ble_eq_true rfl⟩ rfl (Nat.le_of_ble_eq_true rfl) dL_law_1786 (fun r_1786 u_1786 h_1786 => ?_)
    obtain ⟨hr_1786, hu_1786⟩ := h_1786
    have hw_1786 := hu_1786.symm
    subst hw_1786
    have hx_1786 := hr_1786.symm
    subst hx_1786
    refine lq_istore C (lv' := [(5, .int (nI 1)), (4, .int (nI 0)), (3, .ref out), (2, .ref (a 0)), (1, .ref x), (0, .ref b)]) (by decide) rfl dL_law_1789 ?_
    refine lq_aload_n C (i := 2) rfl 3 rfl dL_law_1791 ?_
    refine lq_aload_n C (i := 0) rfl 5 rfl dL_law_1792 ?_
    refine lq_iload C 1 rfl dL_law_1793 ?_
    refine lq_iconst C (x := nI 1) rfl dL_law_1795 ?_
    refine lq_iadd C dL_law_1796 ?_
    refine lq_cast (.int (nI 1)) (congrArg Value.int (by decide)) ?_
    refine lq_sld C 1 (by decide) (by decide) dL_law_1797 ?_
    refine lq_cast (.int (nI v1)) (congrArg Value.int e_v1) ?_
    refine lq_aload_n C (i := 0) rfl 5 rfl dL_law_1798 ?_
    refine lq_iload C 1 rfl dL_law_1799 ?_
    refine lq_iconst C (x := nI 2) rfl dL_law_1801 ?_
    refine lq_iadd C dL_law_1802 ?_
    refine lq_cast (.int (nI 2)) (congrArg Value.int (by decide)) ?_
    refine lq_sld C 2 (by decide) (by decide) dL_law_1803 ?_
    refine lq_cast (.int v2) (congrArg Value.int e_v2) ?_
    refine lq_aload_n C (i := 0) rfl 5 rfl dL_law_1804 ?_
    refine lq_iload C 1 rfl dL_law_1805 ?_
    refine lq_iconst C (x := nI 3) rfl dL_law_1807 ?_
    refine lq_iadd C dL_law_1808 ?_
    refine lq_cast (.int (nI 3)) (congrArg Value.int (by decide)) ?_
    refine lq_sld C 3 (by decide) (by decide) dL_law_1809 ?_
    refine lq_cast (.int v3) (congrArg Value.int e_v3) ?_
    refine lq_aload_n C (i := 0) rfl 5 rfl dL_law_1810 ?_
    refine lq_iload C 1 rfl dL_law_1811 ?_
    refine lq_iconst C (x := nI 4) rfl dL_law_1813 ?_
    refine lq_iadd C dL_law_1814 ?_
    refine lq_cast (.int (nI 4)) (congrArg Value.int (by decide)) ?_
    refine lq_sld C 4 (by decide) (by decide) dL_law_1815 ?_
    refine lq_cast (.int v4) (congrArg Value.int e_v4) ?_
    refine lq_doM C (w98_byteAt l v f g v1 v2 v3 v4 (by omega) Mv_98 Mv_34) lM_296 rfl rfl ⟨by decide, by decide⟩ ⟨Nat.le_of_ble_eq_true rfl, Nat.le_of_ble_eq_true rfl⟩ rfl (Nat.le_of_ble_eq_true rfl) dL_law_1816 ?_
    refine lq_istore C (lv' := [(6, .int (nI 0)), (5, .int (nI 1)), (4, .int (nI 0)), (3, .ref out), (2, .ref (a 0)), (1, .ref x), (0, .ref b)]) (by decide) rfl dL_law_1819 ?_
    refine lq_aload_n C (i := 2) rfl 4 rfl dL_law_1821 ?_
    refine lq_doM C (w4_thrown l (upd v 99 (nI 1)) f g rfl) lM_192 rfl rfl ⟨by decide, by decide⟩ ⟨Nat.le_of_ble_eq_true rfl, Nat.le_of_ble_eq_true rfl⟩ rfl (Nat.le_of_ble_eq_true rfl) dL_law_1822 ?_
    refine lq_iload C 1 rfl dL_law_1825 ?_
    refine lq_icmp_eq C 1832 (by decide) dL_law_1827 (fun _ => ?_) (fun c_ => absurd (by decide) c_)
    refine lq_iload C 1 rfl dL_law_1832 ?_
    refine lq_if_ne C 1849 (by decide) dL_law_1834 (fun _ => ?_) (fun c_ => absurd c_ (by decide))
    refine lq_goto C 3491 (by decide) dL_law_1849 ?_
    exact lq_sub [2, 6] rfl (law_tail C (Nat.le_of_ble_eq_true rfl) (Nat.le_of_ble_eq_true rfl))
set_option maxHeartbeats 8000000 in
set_option maxRecDepth 100000 in
theorem law_case31 (C : lC p l s m meth c b 6 xs D Y tp dp) {S : cS} {a : Nat → Nat} {v : Nat → Int32} {f : Nat → Nat → Int32} {g : Nat → Nat → Int64} {x out q1 q2 q3 q10 q11 q15 q19 q20 q21 q22 q23 q29 q30 q37 : Nat} (F : cFr S dp x out q1 q2 q3 q10 q11 q15 q19 q20 q21 q22 q23 q29 q30 q37) (M : mFr v f g) : lG p l e s m below meth c b D Y 174 409927 1852 [(4, .int (nI 0)), (3, .ref out), (2, .ref (a 0)), (1, .ref x), (0, .ref b)] [] S a v f g := by
  have hlt := C.2.2.2.2.2.2.2.2.2.2.1
  obtain ⟨FeI_q30_0, FeI_q30_1, Fi_195_q23, Fi_289_q11, Fi_289_q15, Fi_289_q2, Fi_33_q37, Fi_361_x, Fi_366_x, Fi_368_x, Fi_369_x, Fi_36_q37, Fi_370_x, Fi_37_q37, Fi_384_q19, Fi_384_q22, Fi_386_q19, Fi_386_q21, Fi_386_q22, Fk_out, Fk_q1, Fk_q10, Fk_q11, Fk_q15, Fk_q19, Fk_q2, Fk_q20, Fk_q21, Fk_q22, Fk_q23, Fk_q29, Fk_q3, Fk_q30, Fk_q37, Fk_x, Fm_out, Fm_q1, Fm_q10, Fm_q11, Fm_q15, Fm_q19, Fm_q2, Fm_q20, Fm_q21, Fm_q22, Fm_q23, Fm_q29, Fm_q3, Fm_q30, Fm_q37, Fm_x, Fn_out, Fn_q3, Fn_q30, Fr_224_q29, Fr_288_q2, Fr_321_q20, Fr_352_x, Fr_353_x, Fr_354_x, Fr_355_x, Fr_356_x, Fr_358_x, Fr_359_x, Fr_360_x, Fr_362_x, Fr_364_x, Fr_365_x, Fr_385_q19, Fr_385_q22, Fr_3_q10, Fr_4_q10, Fr_96_q1⟩ := F
  obtain ⟨Mall_21, Mall_22, Mf_29_0, Mf_29_1, Mf_29_2, Mf_29_3, Mf_29_4, Mf_49_0, Mf_49_1, Mf_8_0, Mf_8_1, Mg_7_0, Mg_7_1, Mg_7_10, Mg_7_11, Mg_7_12, Mg_7_13, Mg_7_14, Mg_7_15, Mg_7_16, Mg_7_17, Mg_7_18, Mg_7_19, Mg_7_2, Mg_7_20, Mg_7_21, Mg_7_22, Mg_7_23, Mg_7_24, Mg_7_25, Mg_7_26, Mg_7_27, Mg_7_28, Mg_7_29, Mg_7_3, Mg_7_30, Mg_7_31, Mg_7_32, Mg_7_33, Mg_7_34, Mg_7_35, Mg_7_36, Mg_7_37, Mg_7_38, Mg_7_39, Mg_7_4, Mg_7_5, Mg_7_6, Mg_7_7, Mg_7_8, Mg_7_9, Mv_13, Mv_14, Mv_2, Mv_20, Mv_29, Mv_34, Mv_35, Mv_40, Mv_48, Mv_49, Mv_72, Mv_88, Mv_89, Mv_90, Mv_96, Mv_97, Mv_98⟩ := M
  rcases c_sgn (xs 1) with hneg_v1 | ⟨v1, hr_v1, e_v1⟩
  · obtain ⟨v1, e_v1⟩ : ∃ z : Int32, xs 1 = z := ⟨_, rfl⟩
    rw [e_v1] at hneg_v1
    obtain ⟨v2, e_v2⟩ : ∃ z : Int32, xs 2 = z := ⟨_, rfl⟩
    obtain ⟨v3, e_v3⟩ : ∃ z : Int32, xs 3 = z := ⟨_, rfl⟩
    obtain ⟨v4, e_v4⟩ : ∃ z : Int32, xs 4 = z := ⟨_, rfl⟩
    obtain ⟨v5, e_v5⟩ : ∃ z : Int32, xs 5 = z := ⟨_, rfl⟩
    refine lq_aload_n C (i := 1) rfl 3 rfl dL_law_1852 ?_
    refine lq_aload_n C (i := 0) rfl 4 rfl dL_law_1853 ?_
    refine lq_iload C 0 rfl dL_law_1854 ?_
    refine lq_iconst C (x := nI 1) rfl dL_law_1856 ?_
    refine lq_iadd C dL_law_1857 ?_
    refine lq_cast (.int (nI 1)) (congrArg Value.int (by decide)) ?_
    refine lq_sld C 1 (by decide) (by decide) dL_law_1858 ?_
    refine lq_cast (.int v1) (congrArg Value.int e_v1) ?_
    refine lq_if_eq C 1866 (by decide) dL_law_1859 (fun c_ => absurd c_ (cneg0_ne hneg_v1)) (fun _ => ?_)
    refine lq_iconst C (x := nI 1) rfl dL_law_1862 ?_
    refine lq_goto C 1867 (by decide) dL_law_1863 ?_
    refine lq_aload_n C (i := 3) rfl 1 rfl dL_law_1867 ?_
    refine lq_callW C (z165_L_look l hlt S dp x out q22 q20 q21 Fi_370_x Fk_x Fm_x Fr_360_x Fi_386_q22 Fk_q22 Fm_q22 Fr_355_x Fr_321_q20 Fk_q20 Fm_q20 Fi_386_q21 Fk_q21 Fm_q21 Fi_361_x Fi_384_q22 Fr_385_q22 Fk_out Fm_out Fn_out) lH_297 rfl rfl ⟨by decide, by decide⟩ ⟨Nat.le_of_ble_eq_true rfl, Nat.le_of_ble_eq_true rfl⟩ rfl (Nat.le_of_ble_eq_true rfl) dL_law_1868 (fun r_1868 u_1868 h_1868 => ?_)
    obtain ⟨p1, S1, hf_p1, hS1, p2, S2, hf_p2, hS2, S3, hS3, S4, hS4, S5, hS5, S6, hS6, S7, hS7, S8, hS8, p3, S9, hf_p3, hS9, S10, hS10, S11, hS11, S12, hS12, S13, hS13, S14, hS14, hr_1868, hu_1868⟩ := h_1868
    have hw_1868 := hu_1868.symm
    subst hw_1868
    have hx_1868 := hr_1868.symm
    subst hx_1868
    refine lq_istore C (lv' := [(5, .int (nI 0)), (4, .int (nI 0)), (3, .ref out), (2, .ref (a 0)), (1, .ref x), (0, .ref b)]) (by decide) rfl dL_law_1871 ?_
    refine lq_aload_n C (i := 2) rfl 3 rfl dL_law_1873 ?_
    refine lq_aload_n C (i := 0) rfl 5 rfl dL_law_1874 ?_
    refine lq_iload C 1 rfl dL_law_1875 ?_
    refine lq_iconst C (x := nI 1) rfl dL_law_1877 ?_
    refine lq_iadd C dL_law_1878 ?_
    refine lq_cast (.int (nI 1)) (congrArg Value.int (by decide)) ?_
    refine lq_sld C 1 (by decide) (by decide) dL_law_1879 ?_
    refine lq_cast (.int v1) (congrArg Value.int e_v1) ?_
    refine lq_if_eq C 1887 (by decide) dL_law_1880 (fun c_ => absurd c_ (cneg0_ne hneg_v1)) (fun _ => ?_)
    refine lq_iconst C (x := nI 1) rfl dL_law_1883 ?_
    refine lq_goto C 1888 (by decide) dL_law_1884 ?_
    refine lq_doM C (w99_look l v f g Mf_29_4 Mf_29_3 Mf_29_2 Mf_29_1 Mf_29_0 Mv_98 Mv_48 Mv_34) lM_300 rfl rfl ⟨by decide, by decide⟩ ⟨Nat.le_of_ble_eq_true rfl, Nat.le_of_ble_eq_true rfl⟩ rfl (Nat.le_of_ble_eq_true rfl) dL_law_1888 ?_
    refine lq_istore C (lv' := [(6, .int (nI 0)), (5, .int (nI 0)), (4, .int (nI 0)), (3, .ref out), (2, .ref (a 0)), (1, .ref x), (0, .ref b)]) (by decide) rfl dL_law_1891 ?_
    refine lq_aload_n C (i := 2) rfl 4 rfl dL_law_1893 ?_
    refine lq_doM C (w8_thrown l (upd (upd v 99 (nI 0)) 48 (nI 1)) (mU (mU f 29 0 (nI 0)) 31 0 (nI 0)) g rfl) lM_192 rfl rfl ⟨by decide, by decide⟩ ⟨Nat.le_of_ble_eq_true rfl, Nat.le_of_ble_eq_true rfl⟩ rfl (Nat.le_of_ble_eq_true rfl) dL_law_1894 ?_
    refine lq_iload C 1 rfl dL_law_1897 ?_
    refine lq_icmp_eq C 1904 (by decide) dL_law_1899 (fun _ => ?_) (fun c_ => absurd (by decide) c_)
    refine lq_iload C 1 rfl dL_law_1904 ?_
    refine lq_if_ne C 1921 (by decide) dL_law_1906 (fun c_ => absurd (by decide) c_) (fun _ => ?_)
    refine lq_aload_n C (i := 3) rfl 3 rfl dL_law_1909 ?_
    refine lq_iconst C (x := nI 0) rfl dL_law_1910 ?_
    have f_1 : cK S2 out = 15 := (hk_N hS2 (cm_ne (hm_N hS1 Fm_out) hf_p2) (hk_N hS1 (cm_ne Fm_out hf_p1) Fk_out))
    have f_2 : cK S8 out = 15 := (hk_Si hS8 (hk_Si hS7 (hk_Si hS6 (hk_Sr hS5 (hk_Sr hS4 (hk_Si hS3 f_1))))))
    have f_3 : out ∈ cL S6 := (hm_Si hS6 (hm_Sr hS5 (hm_Sr hS4 (hm_Si hS3 (hm_N hS2 (hm_N hS1 Fm_out))))))
    have f_4 : cK S11 out = 15 := (hk_SO hS11 (hk_Sr hS10 (hk_A hS9 (cm_ne (hm_Si hS8 (hm_Si hS7 f_3)) hf_p3) f_2)))
    have f_5 : cn S6 out = 1 := (hn_Si hS6 (hn_Sr hS5 (hn_Sr hS4 (hn_Si hS3 (hn_N hS2 (hn_N hS1 Fn_out))))))
    have f_6 : cn S9 out = 1 := (hn_A hS9 (cm_ne (hm_Si hS8 (hm_Si hS7 f_3)) hf_p3) (hn_Si hS8 (hn_Si hS7 f_5)))
    have f_7 : out ∈ cL S12 := (hm_Si hS12 (hm_SO hS11 (hm_Sr hS10 (hm_A hS9 (hm_Si hS8 (hm_Si hS7 f_3))))))
    refine lq_laload C 0 (hm_SJ hS14 (hm_Si hS13 f_7)) (hk_SJ hS14 (hk_Si hS13 (hk_Si hS12 f_4))) (by rw [show cn _ _ = 1 from (hn_SJ hS14 (hn_Si hS13 (hn_Si hS12 (hn_SO hS11 (hn_Sr hS10 f_6)))))]; decide) (by rw [show cn _ _ = 1 from (hn_SJ hS14 (hn_Si hS13 (hn_Si hS12 (hn_SO hS11 (hn_Sr hS10 f_6)))))]; decide) dL_law_1911 ?_
    refine lq_cast (.long (((nI 0)).toInt64)) (congrArg Value.long (heJ_SJ_s hS14)) ?_
    refine lq_iload C 0 rfl dL_law_1912 ?_
    refine lq_i2l C dL_law_1914 ?_
    refine lq_lcmp C dL_law_1915 ?_
    refine lq_if_eqL C 1921 (by decide) dL_law_1916 ?_
    refine lq_goto C 3491 (by decide) dL_law_1921 ?_
    exact lq_sub [2, 6] rfl (law_tail C (Nat.le_of_ble_eq_true rfl) (Nat.le_of_ble_eq_true rfl))
  · rcases Nat.lt_or_ge v1 1 with hlt_v1 | hlt_v1
    · obtain rfl : v1 = 0 := by omega
      obtain ⟨v2, e_v2⟩ : ∃ z : Int32, xs 2 = z := ⟨_, rfl⟩
      obtain ⟨v3, e_v3⟩ : ∃ z : Int32, xs 3 = z := ⟨_, rfl⟩
      obtain ⟨v4, e_v4⟩ : ∃ z : Int32, xs 4 = z := ⟨_, rfl⟩
      obtain ⟨v5, e_v5⟩ : ∃ z : Int32, xs 5 = z := ⟨_, rfl⟩
      refine lq_aload_n C (i := 1) rfl 3 rfl dL_law_1852 ?_
      refine lq_aload_n C (i := 0) rfl 4 rfl dL_law_1853 ?_
      refine lq_iload C 0 rfl dL_law_1854 ?_
      refine lq_iconst C (x := nI 1) rfl dL_law_1856 ?_
      refine lq_iadd C dL_law_1857 ?_
      refine lq_cast (.int (nI 1)) (congrArg Value.int (by decide)) ?_
      refine lq_sld C 1 (by decide) (by decide) dL_law_1858 ?_
      refine lq_cast (.int (nI 0)) (congrArg Value.int e_v1) ?_
      refine lq_if_eq C 1866 (by decide) dL_law_1859 (fun _ => ?_) (fun c_ => absurd (by decide) c_)
      refine lq_iconst C (x := nI 0) rfl dL_law_1866 ?_
      refine lq_aload_n C (i := 3) rfl 1 rfl dL_law_1867 ?_
      refine lq_callW C (z168_L_look l hlt S dp x out q22 Fi_370_x Fk_x Fm_x Fr_360_x Fi_386_q22 Fk_q22 Fm_q22 Fr_358_x Fi_361_x Fi_384_q22 Fr_385_q22 Fk_out Fm_out Fn_out) lH_297 rfl rfl ⟨by decide, by decide⟩ ⟨Nat.le_of_ble_eq_true rfl, Nat.le_of_ble_eq_true rfl⟩ rfl (Nat.le_of_ble_eq_true rfl) dL_law_1868 (fun r_1868 u_1868 h_1868 => ?_)
      obtain ⟨p1, S1, hf_p1, hS1, p2, S2, hf_p2, hS2, S3, hS3, S4, hS4, S5, hS5, S6, hS6, S7, hS7, S8, hS8, p3, S9, hf_p3, hS9, S10, hS10, S11, hS11, S12, hS12, S13, hS13, S14, hS14, hr_1868, hu_1868⟩ := h_1868
      have hw_1868 := hu_1868.symm
      subst hw_1868
      have hx_1868 := hr_1868.symm
      subst hx_1868
      refine lq_istore C (lv' := [(5, .int (nI 0)), (4, .int (nI 0)), (3, .ref out), (2, .ref (a 0)), (1, .ref x), (0, .ref b)]) (by decide) rfl dL_law_1871 ?_
      refine lq_aload_n C (i := 2) rfl 3 rfl dL_law_1873 ?_
      refine lq_aload_n C (i := 0) rfl 5 rfl dL_law_1874 ?_
      refine lq_iload C 1 rfl dL_law_1875 ?_
      refine lq_iconst C (x := nI 1) rfl dL_law_1877 ?_
      refine lq_iadd C dL_law_1878 ?_
      refine lq_cast (.int (nI 1)) (congrArg Value.int (by decide)) ?_
      refine lq_sld C 1 (by decide) (by decide) dL_law_1879 ?_
      refine lq_cast (.int (nI 0)) (congrArg Value.int e_v1) ?_
      refine lq_if_eq C 1887 (by decide) dL_law_1880 (fun _ => ?_) (fun c_ => absurd (by decide) c_)
      refine lq_iconst C (x := nI 0) rfl dL_law_1887 ?_
      refine lq_doM C (w100_look l v f g Mf_29_4 Mf_29_3 Mf_29_2 Mf_29_1 Mf_29_0 Mv_98 Mv_48 Mv_35) lM_300 rfl rfl ⟨by decide, by decide⟩ ⟨Nat.le_of_ble_eq_true rfl, Nat.le_of_ble_eq_true rfl⟩ rfl (Nat.le_of_ble_eq_true rfl) dL_law_1888 ?_
      refine lq_istore C (lv' := [(6, .int (nI 0)), (5, .int (nI 0)), (4, .int (nI 0)), (3, .ref out), (2, .ref (a 0)), (1, .ref x), (0, .ref b)]) (by decide) rfl dL_law_1891 ?_
      refine lq_aload_n C (i := 2) rfl 4 rfl dL_law_1893 ?_
      refine lq_doM C (w8_thrown l (upd (upd v 99 (nI 0)) 48 (nI 1)) (mU (mU f 29 0 (nI 0)) 31 0 (nI 0)) g rfl) lM_192 rfl rfl ⟨by decide, by decide⟩ ⟨Nat.le_of_ble_eq_true rfl, Nat.le_of_ble_eq_true rfl⟩ rfl (Nat.le_of_ble_eq_true rfl) dL_law_1894 ?_
      refine lq_iload C 1 rfl dL_law_1897 ?_
      refine lq_icmp_eq C 1904 (by decide) dL_law_1899 (fun _ => ?_) (fun c_ => absurd (by decide) c_)
      refine lq_iload C 1 rfl dL_law_1904 ?_
      refine lq_if_ne C 1921 (by decide) dL_law_1906 (fun c_ => absurd (by decide) c_) (fun _ => ?_)
      refine lq_aload_n C (i := 3) rfl 3 rfl dL_law_1909 ?_
      refine lq_iconst C (x := nI 0) rfl dL_law_1910 ?_
      have f_1 : cK S2 out = 15 := (hk_N hS2 (cm_ne (hm_N hS1 Fm_out) hf_p2) (hk_N hS1 (cm_ne Fm_out hf_p1) Fk_out))
      have f_2 : cK S8 out = 15 := (hk_Si hS8 (hk_Si hS7 (hk_Si hS6 (hk_Sr hS5 (hk_Sr hS4 (hk_Si hS3 f_1))))))
      have f_3 : out ∈ cL S6 := (hm_Si hS6 (hm_Sr hS5 (hm_Sr hS4 (hm_Si hS3 (hm_N hS2 (hm_N hS1 Fm_out))))))
      have f_4 : cK S11 out = 15 := (hk_SO hS11 (hk_Sr hS10 (hk_A hS9 (cm_ne (hm_Si hS8 (hm_Si hS7 f_3)) hf_p3) f_2)))
      have f_5 : cn S6 out = 1 := (hn_Si hS6 (hn_Sr hS5 (hn_Sr hS4 (hn_Si hS3 (hn_N hS2 (hn_N hS1 Fn_out))))))
      have f_6 : cn S9 out = 1 := (hn_A hS9 (cm_ne (hm_Si hS8 (hm_Si hS7 f_3)) hf_p3) (hn_Si hS8 (hn_Si hS7 f_5)))
      have f_7 : out ∈ cL S12 := (hm_Si hS12 (hm_SO hS11 (hm_Sr hS10 (hm_A hS9 (hm_Si hS8 (hm_Si hS7 f_3))))))
      refine lq_laload C 0 (hm_SJ hS14 (hm_Si hS13 f_7)) (hk_SJ hS14 (hk_Si hS13 (hk_Si hS12 f_4))) (by rw [show cn _ _ = 1 from (hn_SJ hS14 (hn_Si hS13 (hn_Si hS12 (hn_SO hS11 (hn_Sr hS10 f_6)))))]; decide) (by rw [show cn _ _ = 1 from (hn_SJ hS14 (hn_Si hS13 (hn_Si hS12 (hn_SO hS11 (hn_Sr hS10 f_6)))))]; decide) dL_law_1911 ?_
      refine lq_cast (.long (((nI 0)).toInt64)) (congrArg Value.long (heJ_SJ_s hS14)) ?_
      refine lq_iload C 0 rfl dL_law_1912 ?_
      refine lq_i2l C dL_law_1914 ?_
      refine lq_lcmp C dL_law_1915 ?_
      refine lq_if_eqL C 1921 (by decide) dL_law_1916 ?_
      refine lq_goto C 3491 (by decide) dL_law_1921 ?_
      exact lq_sub [2, 6] rfl (law_tail C (Nat.le_of_ble_eq_true rfl) (Nat.le_of_ble_eq_true rfl))
    · obtain ⟨v2, e_v2⟩ : ∃ z : Int32, xs 2 = z := ⟨_, rfl⟩
      obtain ⟨v3, e_v3⟩ : ∃ z : Int32, xs 3 = z := ⟨_, rfl⟩
      obtain ⟨v4, e_v4⟩ : ∃ z : Int32, xs 4 = z := ⟨_, rfl⟩
      obtain ⟨v5, e_v5⟩ : ∃ z : Int32, xs 5 = z := ⟨_, rfl⟩
      refine lq_aload_n C (i := 1) rfl 3 rfl dL_law_1852 ?_
      refine lq_aload_n C (i := 0) rfl 4 rfl dL_law_1853 ?_
      refine lq_iload C 0 rfl dL_law_1854 ?_
      refine lq_iconst C (x := nI 1) rfl dL_law_1856 ?_
      refine lq_iadd C dL_law_1857 ?_
      refine lq_cast (.int (nI 1)) (congrArg Value.int (by decide)) ?_
      refine lq_sld C 1 (by decide) (by decide) dL_law_1858 ?_
      refine lq_cast (.int (nI v1)) (congrArg Value.int e_v1) ?_
      refine lq_if_eq C 1866 (by decide) dL_law_1859 (fun c_ => absurd c_ (nI_ne0 (by omega) (by omega))) (fun _ => ?_)
      refine lq_iconst C (x := nI 1) rfl dL_law_1862 ?_
      refine lq_goto C 1867 (by decide) dL_law_1863 ?_
      refine lq_aload_n C (i := 3) rfl 1 rfl dL_law_1867 ?_
      refine lq_callW C (z165_L_look l hlt S dp x out q22 q20 q21 Fi_370_x Fk_x Fm_x Fr_360_x Fi_386_q22 Fk_q22 Fm_q22 Fr_355_x Fr_321_q20 Fk_q20 Fm_q20 Fi_386_q21 Fk_q21 Fm_q21 Fi_361_x Fi_384_q22 Fr_385_q22 Fk_out Fm_out Fn_out) lH_297 rfl rfl ⟨by decide, by decide⟩ ⟨Nat.le_of_ble_eq_true rfl, Nat.le_of_ble_eq_true rfl⟩ rfl (Nat.le_of_ble_eq_true rfl) dL_law_1868 (fun r_1868 u_1868 h_1868 => ?_)
      obtain ⟨p1, S1, hf_p1, hS1, p2, S2, hf_p2, hS2, S3, hS3, S4, hS4, S5, hS5, S6, hS6, S7, hS7, S8, hS8, p3, S9, hf_p3, hS9, S10, hS10, S11, hS11, S12, hS12, S13, hS13, S14, hS14, hr_1868, hu_1868⟩ := h_1868
      have hw_1868 := hu_1868.symm
      subst hw_1868
      have hx_1868 := hr_1868.symm
      subst hx_1868
      refine lq_istore C (lv' := [(5, .int (nI 0)), (4, .int (nI 0)), (3, .ref out), (2, .ref (a 0)), (1, .ref x), (0, .ref b)]) (by decide) rfl dL_law_1871 ?_
      refine lq_aload_n C (i := 2) rfl 3 rfl dL_law_1873 ?_
      refine lq_aload_n C (i := 0) rfl 5 rfl dL_law_1874 ?_
      refine lq_iload C 1 rfl dL_law_1875 ?_
      refine lq_iconst C (x := nI 1) rfl dL_law_1877 ?_
      refine lq_iadd C dL_law_1878 ?_
      refine lq_cast (.int (nI 1)) (congrArg Value.int (by decide)) ?_
      refine lq_sld C 1 (by decide) (by decide) dL_law_1879 ?_
      refine lq_cast (.int (nI v1)) (congrArg Value.int e_v1) ?_
      refine lq_if_eq C 1887 (by decide) dL_law_1880 (fun c_ => absurd c_ (nI_ne0 (by omega) (by omega))) (fun _ => ?_)
      refine lq_iconst C (x := nI 1) rfl dL_law_1883 ?_
      refine lq_goto C 1888 (by decide) dL_law_1884 ?_
      refine lq_doM C (w99_look l v f g Mf_29_4 Mf_29_3 Mf_29_2 Mf_29_1 Mf_29_0 Mv_98 Mv_48 Mv_34) lM_300 rfl rfl ⟨by decide, by decide⟩ ⟨Nat.le_of_ble_eq_true rfl, Nat.le_of_ble_eq_true rfl⟩ rfl (Nat.le_of_ble_eq_true rfl) dL_law_1888 ?_
      refine lq_istore C (lv' := [(6, .int (nI 0)), (5, .int (nI 0)), (4, .int (nI 0)), (3, .ref out), (2, .ref (a 0)), (1, .ref x), (0, .ref b)]) (by decide) rfl dL_law_1891 ?_
      refine lq_aload_n C (i := 2) rfl 4 rfl dL_law_1893 ?_
      refine lq_doM C (w8_thrown l (upd (upd v 99 (nI 0)) 48 (nI 1)) (mU (mU f 29 0 (nI 0)) 31 0 (nI 0)) g rfl) lM_192 rfl rfl ⟨by decide, by decide⟩ ⟨Nat.le_of_ble_eq_true rfl, Nat.le_of_ble_eq_true rfl⟩ rfl (Nat.le_of_ble_eq_true rfl) dL_law_1894 ?_
      refine lq_iload C 1 rfl dL_law_1897 ?_
      refine lq_icmp_eq C 1904 (by decide) dL_law_1899 (fun _ => ?_) (fun c_ => absurd (by decide) c_)
      refine lq_iload C 1 rfl dL_law_1904 ?_
      refine lq_if_ne C 1921 (by decide) dL_law_1906 (fun c_ => absurd (by decide) c_) (fun _ => ?_)
      refine lq_aload_n C (i := 3) rfl 3 rfl dL_law_1909 ?_
      refine lq_iconst C (x := nI 0) rfl dL_law_1910 ?_
      have f_1 : cK S2 out = 15 := (hk_N hS2 (cm_ne (hm_N hS1 Fm_out) hf_p2) (hk_N hS1 (cm_ne Fm_out hf_p1) Fk_out))
      have f_2 : cK S8 out = 15 := (hk_Si hS8 (hk_Si hS7 (hk_Si hS6 (hk_Sr hS5 (hk_Sr hS4 (hk_Si hS3 f_1))))))
      have f_3 : out ∈ cL S6 := (hm_Si hS6 (hm_Sr hS5 (hm_Sr hS4 (hm_Si hS3 (hm_N hS2 (hm_N hS1 Fm_out))))))
      have f_4 : cK S11 out = 15 := (hk_SO hS11 (hk_Sr hS10 (hk_A hS9 (cm_ne (hm_Si hS8 (hm_Si hS7 f_3)) hf_p3) f_2)))
      have f_5 : cn S6 out = 1 := (hn_Si hS6 (hn_Sr hS5 (hn_Sr hS4 (hn_Si hS3 (hn_N hS2 (hn_N hS1 Fn_out))))))
      have f_6 : cn S9 out = 1 := (hn_A hS9 (cm_ne (hm_Si hS8 (hm_Si hS7 f_3)) hf_p3) (hn_Si hS8 (hn_Si hS7 f_5)))
      have f_7 : out ∈ cL S12 := (hm_Si hS12 (hm_SO hS11 (hm_Sr hS10 (hm_A hS9 (hm_Si hS8 (hm_Si hS7 f_3))))))
      refine lq_laload C 0 (hm_SJ hS14 (hm_Si hS13 f_7)) (hk_SJ hS14 (hk_Si hS13 (hk_Si hS12 f_4))) (by rw [show cn _ _ = 1 from (hn_SJ hS14 (hn_Si hS13 (hn_Si hS12 (hn_SO hS11 (hn_Sr hS10 f_6)))))]; decide) (by rw [show cn _ _ = 1 from (hn_SJ hS14 (hn_Si hS13 (hn_Si hS12 (hn_SO hS11 (hn_Sr hS10 f_6)))))]; decide) dL_law_1911 ?_
      refine lq_cast (.long (((nI 0)).toInt64)) (congrArg Value.long (heJ_SJ_s hS14)) ?_
      refine lq_iload C 0 rfl dL_law_1912 ?_
      refine lq_i2l C dL_law_1914 ?_
      refine lq_lcmp C dL_law_1915 ?_
      refine lq_if_eqL C 1921 (by decide) dL_law_1916 ?_
      refine lq_goto C 3491 (by decide) dL_law_1921 ?_
      exact lq_sub [2, 6] rfl (law_tail C (Nat.le_of_ble_eq_true rfl) (Nat.le_of_ble_eq_true rfl))
end LCS
