/-! the law's cases on a fresh machine -/
section LCS
variable {p : Program} {l : Launch} {e : Env} {s : State} {m : MethodId} {below : List Frame} {meth : Method} {c : Code} {b : Nat} {xs : Nat → Int32} {D : va_G} {Y : cY} {tp dp : Nat}
set_option maxHeartbeats 8000000 in
set_option maxRecDepth 100000 in
theorem law_case37 (C : lC p l s m meth c b 6 xs D Y tp dp) {S : cS} {a : Nat → Nat} {v : Nat → Int32} {f : Nat → Nat → Int32} {g : Nat → Nat → Int64} {x out q1 q2 q3 q10 q11 q15 q19 q20 q21 q22 q23 q29 q30 q37 : Nat} (F : cFr S dp x out q1 q2 q3 q10 q11 q15 q19 q20 q21 q22 q23 q29 q30 q37) (M : mFr v f g) : lG p l e s m below meth c b D Y 174 409927 2256 [(4, .int (nI 0)), (3, .ref out), (2, .ref (a 0)), (1, .ref x), (0, .ref b)] [] S a v f g := by
  have hlt := C.2.2.2.2.2.2.2.2.2.2.1
  obtain ⟨FeI_q30_0, FeI_q30_1, Fi_195_q23, Fi_289_q11, Fi_289_q15, Fi_289_q2, Fi_33_q37, Fi_361_x, Fi_366_x, Fi_368_x, Fi_369_x, Fi_36_q37, Fi_370_x, Fi_37_q37, Fi_384_q19, Fi_384_q22, Fi_386_q19, Fi_386_q21, Fi_386_q22, Fk_out, Fk_q1, Fk_q10, Fk_q11, Fk_q15, Fk_q19, Fk_q2, Fk_q20, Fk_q21, Fk_q22, Fk_q23, Fk_q29, Fk_q3, Fk_q30, Fk_q37, Fk_x, Fm_out, Fm_q1, Fm_q10, Fm_q11, Fm_q15, Fm_q19, Fm_q2, Fm_q20, Fm_q21, Fm_q22, Fm_q23, Fm_q29, Fm_q3, Fm_q30, Fm_q37, Fm_x, Fn_out, Fn_q3, Fn_q30, Fr_224_q29, Fr_288_q2, Fr_321_q20, Fr_352_x, Fr_353_x, Fr_354_x, Fr_355_x, Fr_356_x, Fr_358_x, Fr_359_x, Fr_360_x, Fr_362_x, Fr_364_x, Fr_365_x, Fr_385_q19, Fr_385_q22, Fr_3_q10, Fr_4_q10, Fr_96_q1⟩ := F
  obtain ⟨Mall_21, Mall_22, Mf_29_0, Mf_29_1, Mf_29_2, Mf_29_3, Mf_29_4, Mf_49_0, Mf_49_1, Mf_8_0, Mf_8_1, Mg_7_0, Mg_7_1, Mg_7_10, Mg_7_11, Mg_7_12, Mg_7_13, Mg_7_14, Mg_7_15, Mg_7_16, Mg_7_17, Mg_7_18, Mg_7_19, Mg_7_2, Mg_7_20, Mg_7_21, Mg_7_22, Mg_7_23, Mg_7_24, Mg_7_25, Mg_7_26, Mg_7_27, Mg_7_28, Mg_7_29, Mg_7_3, Mg_7_30, Mg_7_31, Mg_7_32, Mg_7_33, Mg_7_34, Mg_7_35, Mg_7_36, Mg_7_37, Mg_7_38, Mg_7_39, Mg_7_4, Mg_7_5, Mg_7_6, Mg_7_7, Mg_7_8, Mg_7_9, Mv_13, Mv_14, Mv_2, Mv_20, Mv_29, Mv_34, Mv_35, Mv_40, Mv_48, Mv_49, Mv_72, Mv_88, Mv_89, Mv_90, Mv_96, Mv_97, Mv_98⟩ := M
  rcases c_sgn (xs 1) with hneg_v1 | ⟨v1, hr_v1, e_v1⟩
  · obtain ⟨v1, e_v1⟩ : ∃ z : Int32, xs 1 = z := ⟨_, rfl⟩
    rw [e_v1] at hneg_v1
    obtain ⟨v2, e_v2⟩ : ∃ z : Int32, xs 2 = z := ⟨_, rfl⟩
    obtain ⟨v3, e_v3⟩ : ∃ z : Int32, xs 3 = z := ⟨_, rfl⟩
    obtain ⟨v4, e_v4⟩ : ∃ z : Int32, xs 4 = z := ⟨_, rfl⟩
    obtain ⟨v5, e_v5⟩ : ∃ z : Int32, xs 5 = z := ⟨_, rfl⟩
    refine lq_aload_n C (i := 1) rfl 3 rfl dL_law_2256 ?_
    refine lq_aload_n C (i := 0) rfl 4 rfl dL_law_2257 ?_
    refine lq_iload C 0 rfl dL_law_2258 ?_
    refine lq_iconst C (x := nI 1) rfl dL_law_2260 ?_
    refine lq_iadd C dL_law_2261 ?_
    refine lq_cast (.int (nI 1)) (congrArg Value.int (by decide)) ?_
    refine lq_sld C 1 (by decide) (by decide) dL_law_2262 ?_
    refine lq_cast (.int v1) (congrArg Value.int e_v1) ?_
    refine lq_aload_n C (i := 3) rfl 1 rfl dL_law_2263 ?_
    refine lq_callW C (z292_L_prefix l hlt S dp x out v1 hneg_v1 Fm_x Fk_x) lH_317 rfl rfl ⟨by decide, by decide⟩ ⟨Nat.le_of_ble_eq_true rfl, Nat.le_of_ble_eq_true rfl⟩ rfl (Nat.le_of_ble_eq_true rfl) dL_law_2264 (fun r_2264 u_2264 h_2264 => ?_)
    obtain ⟨hr_2264, hu_2264⟩ := h_2264
    have hw_2264 := hu_2264.symm
    subst hw_2264
    have hx_2264 := hr_2264.symm
    subst hx_2264
    refine lq_istore C (lv' := [(5, .int (nI 1)), (4, .int (nI 0)), (3, .ref out), (2, .ref (a 0)), (1, .ref x), (0, .ref b)]) (by decide) rfl dL_law_2267 ?_
    refine lq_aload_n C (i := 2) rfl 3 rfl dL_law_2269 ?_
    refine lq_aload_n C (i := 0) rfl 5 rfl dL_law_2270 ?_
    refine lq_iload C 1 rfl dL_law_2271 ?_
    refine lq_iconst C (x := nI 1) rfl dL_law_2273 ?_
    refine lq_iadd C dL_law_2274 ?_
    refine lq_cast (.int (nI 1)) (congrArg Value.int (by decide)) ?_
    refine lq_sld C 1 (by decide) (by decide) dL_law_2275 ?_
    refine lq_cast (.int v1) (congrArg Value.int e_v1) ?_
    refine lq_doM C (w169_prefix l v f g v1 hneg_v1 Mv_2) lM_319 rfl rfl ⟨by decide, by decide⟩ ⟨Nat.le_of_ble_eq_true rfl, Nat.le_of_ble_eq_true rfl⟩ rfl (Nat.le_of_ble_eq_true rfl) dL_law_2276 ?_
    refine lq_istore C (lv' := [(6, .int (nI 0)), (5, .int (nI 1)), (4, .int (nI 0)), (3, .ref out), (2, .ref (a 0)), (1, .ref x), (0, .ref b)]) (by decide) rfl dL_law_2279 ?_
    refine lq_aload_n C (i := 2) rfl 4 rfl dL_law_2281 ?_
    refine lq_doM C (w4_thrown l (upd (upd v 4 (nI 0)) 99 (nI 1)) f g rfl) lM_192 rfl rfl ⟨by decide, by decide⟩ ⟨Nat.le_of_ble_eq_true rfl, Nat.le_of_ble_eq_true rfl⟩ rfl (Nat.le_of_ble_eq_true rfl) dL_law_2282 ?_
    refine lq_iload C 1 rfl dL_law_2285 ?_
    refine lq_icmp_eq C 2292 (by decide) dL_law_2287 (fun _ => ?_) (fun c_ => absurd (by decide) c_)
    refine lq_iload C 1 rfl dL_law_2292 ?_
    refine lq_if_ne C 2309 (by decide) dL_law_2294 (fun _ => ?_) (fun c_ => absurd c_ (by decide))
    refine lq_goto C 3491 (by decide) dL_law_2309 ?_
    exact lq_sub [2, 6] rfl (law_tail C (Nat.le_of_ble_eq_true rfl) (Nat.le_of_ble_eq_true rfl))
  · rcases Nat.lt_or_ge v1 2 with hlt_v1 | hlt_v1
    · obtain ⟨v2, e_v2⟩ : ∃ z : Int32, xs 2 = z := ⟨_, rfl⟩
      obtain ⟨v3, e_v3⟩ : ∃ z : Int32, xs 3 = z := ⟨_, rfl⟩
      obtain ⟨v4, e_v4⟩ : ∃ z : Int32, xs 4 = z := ⟨_, rfl⟩
      obtain ⟨v5, e_v5⟩ : ∃ z : Int32, xs 5 = z := ⟨_, rfl⟩
      refine lq_aload_n C (i := 1) rfl 3 rfl dL_law_2256 ?_
      refine lq_aload_n C (i := 0) rfl 4 rfl dL_law_2257 ?_
      refine lq_iload C 0 rfl dL_law_2258 ?_
      refine lq_iconst C (x := nI 1) rfl dL_law_2260 ?_
      refine lq_iadd C dL_law_2261 ?_
      refine lq_cast (.int (nI 1)) (congrArg Value.int (by decide)) ?_
      refine lq_sld C 1 (by decide) (by decide) dL_law_2262 ?_
      refine lq_cast (.int (nI v1)) (congrArg Value.int e_v1) ?_
      refine lq_aload_n C (i := 3) rfl 1 rfl dL_law_2263 ?_
      refine lq_callW C (z294_L_prefix l hlt S dp x out q1 q2 v1 (by omega) Fr_352_x Fk_x Fm_x Fr_96_q1 Fk_q1 Fm_q1 Fi_289_q2 Fk_q2 Fm_q2) lH_317 rfl rfl ⟨by decide, by decide⟩ ⟨Nat.le_of_ble_eq_true rfl, Nat.le_of_ble_eq_true rfl⟩ rfl (Nat.le_of_ble_eq_true rfl) dL_law_2264 (fun r_2264 u_2264 h_2264 => ?_)
      obtain ⟨S1, hS1, hr_2264, hu_2264⟩ := h_2264
      have hw_2264 := hu_2264.symm
      subst hw_2264
      have hx_2264 := hr_2264.symm
      subst hx_2264
      refine lq_istore C (lv' := [(5, .int (nI 2)), (4, .int (nI 0)), (3, .ref out), (2, .ref (a 0)), (1, .ref x), (0, .ref b)]) (by decide) rfl dL_law_2267 ?_
      refine lq_aload_n C (i := 2) rfl 3 rfl dL_law_2269 ?_
      refine lq_aload_n C (i := 0) rfl 5 rfl dL_law_2270 ?_
      refine lq_iload C 1 rfl dL_law_2271 ?_
      refine lq_iconst C (x := nI 1) rfl dL_law_2273 ?_
      refine lq_iadd C dL_law_2274 ?_
      refine lq_cast (.int (nI 1)) (congrArg Value.int (by decide)) ?_
      refine lq_sld C 1 (by decide) (by decide) dL_law_2275 ?_
      refine lq_cast (.int (nI v1)) (congrArg Value.int e_v1) ?_
      refine lq_doM C (w170_prefix l v f g v1 (by omega) Mv_2) lM_319 rfl rfl ⟨by decide, by decide⟩ ⟨Nat.le_of_ble_eq_true rfl, Nat.le_of_ble_eq_true rfl⟩ rfl (Nat.le_of_ble_eq_true rfl) dL_law_2276 ?_
      refine lq_istore C (lv' := [(6, .int (nI 0)), (5, .int (nI 2)), (4, .int (nI 0)), (3, .ref out), (2, .ref (a 0)), (1, .ref x), (0, .ref b)]) (by decide) rfl dL_law_2279 ?_
      refine lq_aload_n C (i := 2) rfl 4 rfl dL_law_2281 ?_
      refine lq_doM C (w116_thrown l (upd (upd v 4 (nI 0)) 99 (nI 2)) f g rfl) lM_192 rfl rfl ⟨by decide, by decide⟩ ⟨Nat.le_of_ble_eq_true rfl, Nat.le_of_ble_eq_true rfl⟩ rfl (Nat.le_of_ble_eq_true rfl) dL_law_2282 ?_
      refine lq_iload C 1 rfl dL_law_2285 ?_
      refine lq_icmp_eq C 2292 (by decide) dL_law_2287 (fun _ => ?_) (fun c_ => absurd (by decide) c_)
      refine lq_iload C 1 rfl dL_law_2292 ?_
      refine lq_if_ne C 2309 (by decide) dL_law_2294 (fun _ => ?_) (fun c_ => absurd c_ (by decide))
      refine lq_goto C 3491 (by decide) dL_law_2309 ?_
      exact lq_sub [2, 6] rfl (law_tail C (Nat.le_of_ble_eq_true rfl) (Nat.le_of_ble_eq_true rfl))
    · obtain ⟨v2, e_v2⟩ : ∃ z : Int32, xs 2 = z := ⟨_, rfl⟩
      obtain ⟨v3, e_v3⟩ : ∃ z : Int32, xs 3 = z := ⟨_, rfl⟩
      obtain ⟨v4, e_v4⟩ : ∃ z : Int32, xs 4 = z := ⟨_, rfl⟩
      obtain ⟨v5, e_v5⟩ : ∃ z : Int32, xs 5 = z := ⟨_, rfl⟩
      refine lq_aload_n C (i := 1) rfl 3 rfl dL_law_2256 ?_
      refine lq_aload_n C (i := 0) rfl 4 rfl dL_law_2257 ?_
      refine lq_iload C 0 rfl dL_law_2258 ?_
      refine lq_iconst C (x := nI 1) rfl dL_law_2260 ?_
      refine lq_iadd C dL_law_2261 ?_
      refine lq_cast (.int (nI 1)) (congrArg Value.int (by decide)) ?_
      refine lq_sld C 1 (by decide) (by decide) dL_law_2262 ?_
      refine lq_cast (.int (nI v1)) (congrArg Value.int e_v1) ?_
      refine lq_aload_n C (i := 3) rfl 1 rfl dL_law_2263 ?_
      refine lq_callW C (z296_L_prefix l hlt S dp x out v1 (by omega) (by omega) Fm_x Fk_x) lH_317 rfl rfl ⟨by decide, by decide⟩ ⟨Nat.le_of_ble_eq_true rfl, Nat.le_of_ble_eq_true rfl⟩ rfl (Nat.le_of_ble_eq_true rfl) dL_law_2264 (fun r_2264 u_2264 h_2264 => ?_)
      obtain ⟨hr_2264, hu_2264⟩ := h_2264
      have hw_2264 := hu_2264.symm
      subst hw_2264
      have hx_2264 := hr_2264.symm
      subst hx_2264
      refine lq_istore C (lv' := [(5, .int (nI 1)), (4, .int (nI 0)), (3, .ref out), (2, .ref (a 0)), (1, .ref x), (0, .ref b)]) (by decide) rfl dL_law_2267 ?_
      refine lq_aload_n C (i := 2) rfl 3 rfl dL_law_2269 ?_
      refine lq_aload_n C (i := 0) rfl 5 rfl dL_law_2270 ?_
      refine lq_iload C 1 rfl dL_law_2271 ?_
      refine lq_iconst C (x := nI 1) rfl dL_law_2273 ?_
      refine lq_iadd C dL_law_2274 ?_
      refine lq_cast (.int (nI 1)) (congrArg Value.int (by decide)) ?_
      refine lq_sld C 1 (by decide) (by decide) dL_law_2275 ?_
      refine lq_cast (.int (nI v1)) (congrArg Value.int e_v1) ?_
      refine lq_doM C (w171_prefix l v f g v1 (by omega) (by omega) Mv_2) lM_319 rfl rfl ⟨by decide, by decide⟩ ⟨Nat.le_of_ble_eq_true rfl, Nat.le_of_ble_eq_true rfl⟩ rfl (Nat.le_of_ble_eq_true rfl) dL_law_2276 ?_
      refine lq_istore C (lv' := [(6, .int (nI 0)), (5, .int (nI 1)), (4, .int (nI 0)), (3, .ref out), (2, .ref (a 0)), (1, .ref x), (0, .ref b)]) (by decide) rfl dL_law_2279 ?_
      refine lq_aload_n C (i := 2) rfl 4 rfl dL_law_2281 ?_
      refine lq_doM C (w4_thrown l (upd (upd v 4 (nI 0)) 99 (nI 1)) f g rfl) lM_192 rfl rfl ⟨by decide, by decide⟩ ⟨Nat.le_of_ble_eq_true rfl, Nat.le_of_ble_eq_true rfl⟩ rfl (Nat.le_of_ble_eq_true rfl) dL_law_2282 ?_
      refine lq_iload C 1 rfl dL_law_2285 ?_
      refine lq_icmp_eq C 2292 (by decide) dL_law_2287 (fun _ => ?_) (fun c_ => absurd (by decide) c_)
      refine lq_iload C 1 rfl dL_law_2292 ?_
      refine lq_if_ne C 2309 (by decide) dL_law_2294 (fun _ => ?_) (fun c_ => absurd c_ (by decide))
      refine lq_goto C 3491 (by decide) dL_law_2309 ?_
      exact lq_sub [2, 6] rfl (law_tail C (Nat.le_of_ble_eq_true rfl) (Nat.le_of_ble_eq_true rfl))
set_option maxHeartbeats 8000000 in
set_option maxRecDepth 100000 in
theorem law_case38 (C : lC p l s m meth c b 6 xs D Y tp dp) {S : cS} {a : Nat → Nat} {v : Nat → Int32} {f : Nat → Nat → Int32} {g : Nat → Nat → Int64} {x out q1 q2 q3 q10 q11 q15 q19 q20 q21 q22 q23 q29 q30 q37 : Nat} (F : cFr S dp x out q1 q2 q3 q10 q11 q15 q19 q20 q21 q22 q23 q29 q30 q37) (M : mFr v f g) : lG p l e s m below meth c b D Y 174 409927 2312 [(4, .int (nI 0)), (3, .ref out), (2, .ref (a 0)), (1, .ref x), (0, .ref b)] [] S a v f g := by
  have hlt := C.2.2.2.2.2.2.2.2.2.2.1
  obtain ⟨FeI_q30_0, FeI_q30_1, Fi_195_q23, Fi_289_q11, Fi_289_q15, Fi_289_q2, Fi_33_q37, Fi_361_x, Fi_366_x, Fi_368_x, Fi_369_x, Fi_36_q37, Fi_370_x, Fi_37_q37, Fi_384_q19, Fi_384_q22, Fi_386_q19, Fi_386_q21, Fi_386_q22, Fk_out, Fk_q1, Fk_q10, Fk_q11, Fk_q15, Fk_q19, Fk_q2, Fk_q20, Fk_q21, Fk_q22, Fk_q23, Fk_q29, Fk_q3, Fk_q30, Fk_q37, Fk_x, Fm_out, Fm_q1, Fm_q10, Fm_q11, Fm_q15, Fm_q19, Fm_q2, Fm_q20, Fm_q21, Fm_q22, Fm_q23, Fm_q29, Fm_q3, Fm_q30, Fm_q37, Fm_x, Fn_out, Fn_q3, Fn_q30, Fr_224_q29, Fr_288_q2, Fr_321_q20, Fr_352_x, Fr_353_x, Fr_354_x, Fr_355_x, Fr_356_x, Fr_358_x, Fr_359_x, Fr_360_x, Fr_362_x, Fr_364_x, Fr_365_x, Fr_385_q19, Fr_385_q22, Fr_3_q10, Fr_4_q10, Fr_96_q1⟩ := F
  obtain ⟨Mall_21, Mall_22, Mf_29_0, Mf_29_1, Mf_29_2, Mf_29_3, Mf_29_4, Mf_49_0, Mf_49_1, Mf_8_0, Mf_8_1, Mg_7_0, Mg_7_1, Mg_7_10, Mg_7_11, Mg_7_12, Mg_7_13, Mg_7_14, Mg_7_15, Mg_7_16, Mg_7_17, Mg_7_18, Mg_7_19, Mg_7_2, Mg_7_20, Mg_7_21, Mg_7_22, Mg_7_23, Mg_7_24, Mg_7_25, Mg_7_26, Mg_7_27, Mg_7_28, Mg_7_29, Mg_7_3, Mg_7_30, Mg_7_31, Mg_7_32, Mg_7_33, Mg_7_34, Mg_7_35, Mg_7_36, Mg_7_37, Mg_7_38, Mg_7_39, Mg_7_4, Mg_7_5, Mg_7_6, Mg_7_7, Mg_7_8, Mg_7_9, Mv_13, Mv_14, Mv_2, Mv_20, Mv_29, Mv_34, Mv_35, Mv_40, Mv_48, Mv_49, Mv_72, Mv_88, Mv_89, Mv_90, Mv_96, Mv_97, Mv_98⟩ := M
  rcases c_sgn (xs 1) with hneg_v1 | ⟨v1, hr_v1, e_v1⟩
  · obtain ⟨v1, e_v1⟩ : ∃ z : Int32, xs 1 = z := ⟨_, rfl⟩
    rw [e_v1] at hneg_v1
    obtain ⟨v2, e_v2⟩ : ∃ z : Int32, xs 2 = z := ⟨_, rfl⟩
    obtain ⟨v3, e_v3⟩ : ∃ z : Int32, xs 3 = z := ⟨_, rfl⟩
    obtain ⟨v4, e_v4⟩ : ∃ z : Int32, xs 4 = z := ⟨_, rfl⟩
    obtain ⟨v5, e_v5⟩ : ∃ z : Int32, xs 5 = z := ⟨_, rfl⟩
    refine lq_aload_n C (i := 1) rfl 3 rfl dL_law_2312 ?_
    refine lq_aload_n C (i := 0) rfl 4 rfl dL_law_2313 ?_
    refine lq_iload C 0 rfl dL_law_2314 ?_
    refine lq_iconst C (x := nI 1) rfl dL_law_2316 ?_
    refine lq_iadd C dL_law_2317 ?_
    refine lq_cast (.int (nI 1)) (congrArg Value.int (by decide)) ?_
    refine lq_sld C 1 (by decide) (by decide) dL_law_2318 ?_
    refine lq_cast (.int v1) (congrArg Value.int e_v1) ?_
    refine lq_aload_n C (i := 3) rfl 1 rfl dL_law_2319 ?_
    refine lq_callW C (z298_L_wild l hlt S dp x out v1 hneg_v1 Fm_x Fk_x) lH_320 rfl rfl ⟨by decide, by decide⟩ ⟨Nat.le_of_ble_eq_true rfl, Nat.le_of_ble_eq_true rfl⟩ rfl (Nat.le_of_ble_eq_true rfl) dL_law_2320 (fun r_2320 u_2320 h_2320 => ?_)
    obtain ⟨hr_2320, hu_2320⟩ := h_2320
    have hw_2320 := hu_2320.symm
    subst hw_2320
    have hx_2320 := hr_2320.symm
    subst hx_2320
    refine lq_istore C (lv' := [(5, .int (nI 1)), (4, .int (nI 0)), (3, .ref out), (2, .ref (a 0)), (1, .ref x), (0, .ref b)]) (by decide) rfl dL_law_2323 ?_
    refine lq_aload_n C (i := 2) rfl 3 rfl dL_law_2325 ?_
    refine lq_aload_n C (i := 0) rfl 5 rfl dL_law_2326 ?_
    refine lq_iload C 1 rfl dL_law_2327 ?_
    refine lq_iconst C (x := nI 1) rfl dL_law_2329 ?_
    refine lq_iadd C dL_law_2330 ?_
    refine lq_cast (.int (nI 1)) (congrArg Value.int (by decide)) ?_
    refine lq_sld C 1 (by decide) (by decide) dL_law_2331 ?_
    refine lq_cast (.int v1) (congrArg Value.int e_v1) ?_
    refine lq_doM C (w173_wild l v f g v1 hneg_v1 Mv_2) lM_322 rfl rfl ⟨by decide, by decide⟩ ⟨Nat.le_of_ble_eq_true rfl, Nat.le_of_ble_eq_true rfl⟩ rfl (Nat.le_of_ble_eq_true rfl) dL_law_2332 ?_
    refine lq_istore C (lv' := [(6, .int (nI 0)), (5, .int (nI 1)), (4, .int (nI 0)), (3, .ref out), (2, .ref (a 0)), (1, .ref x), (0, .ref b)]) (by decide) rfl dL_law_2335 ?_
    refine lq_aload_n C (i := 2) rfl 4 rfl dL_law_2337 ?_
    refine lq_doM C (w4_thrown l (upd v 99 (nI 1)) f g rfl) lM_192 rfl rfl ⟨by decide, by decide⟩ ⟨Nat.le_of_ble_eq_true rfl, Nat.le_of_ble_eq_true rfl⟩ rfl (Nat.le_of_ble_eq_true rfl) dL_law_2338 ?_
    refine lq_iload C 1 rfl dL_law_2341 ?_
    refine lq_icmp_eq C 2348 (by decide) dL_law_2343 (fun _ => ?_) (fun c_ => absurd (by decide) c_)
    refine lq_iload C 1 rfl dL_law_2348 ?_
    refine lq_if_ne C 2365 (by decide) dL_law_2350 (fun _ => ?_) (fun c_ => absurd c_ (by decide))
    refine lq_goto C 3491 (by decide) dL_law_2365 ?_
    exact lq_sub [2, 6] rfl (law_tail C (Nat.le_of_ble_eq_true rfl) (Nat.le_of_ble_eq_true rfl))
  · rcases Nat.lt_or_ge v1 2 with hlt_v1 | hlt_v1
    · obtain ⟨v2, e_v2⟩ : ∃ z : Int32, xs 2 = z := ⟨_, rfl⟩
      obtain ⟨v3, e_v3⟩ : ∃ z : Int32, xs 3 = z := ⟨_, rfl⟩
      obtain ⟨v4, e_v4⟩ : ∃ z : Int32, xs 4 = z := ⟨_, rfl⟩
      obtain ⟨v5, e_v5⟩ : ∃ z : Int32, xs 5 = z := ⟨_, rfl⟩
      refine lq_aload_n C (i := 1) rfl 3 rfl dL_law_2312 ?_
      refine lq_aload_n C (i := 0) rfl 4 rfl dL_law_2313 ?_
      refine lq_iload C 0 rfl dL_law_2314 ?_
      refine lq_iconst C (x := nI 1) rfl dL_law_2316 ?_
      refine lq_iadd C dL_law_2317 ?_
      refine lq_cast (.int (nI 1)) (congrArg Value.int (by decide)) ?_
      refine lq_sld C 1 (by decide) (by decide) dL_law_2318 ?_
      refine lq_cast (.int (nI v1)) (congrArg Value.int e_v1) ?_
      refine lq_aload_n C (i := 3) rfl 1 rfl dL_law_2319 ?_
      refine lq_callW C (z302_L_wild l hlt S dp x out q1 q2 v1 (by omega) Fr_352_x Fk_x Fm_x Fr_96_q1 Fk_q1 Fm_q1 Fi_289_q2 Fk_q2 Fm_q2) lH_320 rfl rfl ⟨by decide, by decide⟩ ⟨Nat.le_of_ble_eq_true rfl, Nat.le_of_ble_eq_true rfl⟩ rfl (Nat.le_of_ble_eq_true rfl) dL_law_2320 (fun r_2320 u_2320 h_2320 => ?_)
      obtain ⟨hr_2320, hu_2320⟩ := h_2320
      have hw_2320 := hu_2320.symm
      subst hw_2320
      have hx_2320 := hr_2320.symm
      subst hx_2320
      refine lq_istore C (lv' := [(5, .int (nI 2)), (4, .int (nI 0)), (3, .ref out), (2, .ref (a 0)), (1, .ref x), (0, .ref b)]) (by decide) rfl dL_law_2323 ?_
      refine lq_aload_n C (i := 2) rfl 3 rfl dL_law_2325 ?_
      refine lq_aload_n C (i := 0) rfl 5 rfl dL_law_2326 ?_
      refine lq_iload C 1 rfl dL_law_2327 ?_
      refine lq_iconst C (x := nI 1) rfl dL_law_2329 ?_
      refine lq_iadd C dL_law_2330 ?_
      refine lq_cast (.int (nI 1)) (congrArg Value.int (by decide)) ?_
      refine lq_sld C 1 (by decide) (by decide) dL_law_2331 ?_
      refine lq_cast (.int (nI v1)) (congrArg Value.int e_v1) ?_
      refine lq_doM C (w174_wild l v f g v1 (by omega) Mv_2) lM_322 rfl rfl ⟨by decide, by decide⟩ ⟨Nat.le_of_ble_eq_true rfl, Nat.le_of_ble_eq_true rfl⟩ rfl (Nat.le_of_ble_eq_true rfl) dL_law_2332 ?_
      refine lq_istore C (lv' := [(6, .int (nI 0)), (5, .int (nI 2)), (4, .int (nI 0)), (3, .ref out), (2, .ref (a 0)), (1, .ref x), (0, .ref b)]) (by decide) rfl dL_law_2335 ?_
      refine lq_aload_n C (i := 2) rfl 4 rfl dL_law_2337 ?_
      refine lq_doM C (w116_thrown l (upd v 99 (nI 2)) f g rfl) lM_192 rfl rfl ⟨by decide, by decide⟩ ⟨Nat.le_of_ble_eq_true rfl, Nat.le_of_ble_eq_true rfl⟩ rfl (Nat.le_of_ble_eq_true rfl) dL_law_2338 ?_
      refine lq_iload C 1 rfl dL_law_2341 ?_
      refine lq_icmp_eq C 2348 (by decide) dL_law_2343 (fun _ => ?_) (fun c_ => absurd (by decide) c_)
      refine lq_iload C 1 rfl dL_law_2348 ?_
      refine lq_if_ne C 2365 (by decide) dL_law_2350 (fun _ => ?_) (fun c_ => absurd c_ (by decide))
      refine lq_goto C 3491 (by decide) dL_law_2365 ?_
      exact lq_sub [2, 6] rfl (law_tail C (Nat.le_of_ble_eq_true rfl) (Nat.le_of_ble_eq_true rfl))
    · obtain ⟨v2, e_v2⟩ : ∃ z : Int32, xs 2 = z := ⟨_, rfl⟩
      obtain ⟨v3, e_v3⟩ : ∃ z : Int32, xs 3 = z := ⟨_, rfl⟩
      obtain ⟨v4, e_v4⟩ : ∃ z : Int32, xs 4 = z := ⟨_, rfl⟩
      obtain ⟨v5, e_v5⟩ : ∃ z : Int32, xs 5 = z := ⟨_, rfl⟩
      refine lq_aload_n C (i := 1) rfl 3 rfl dL_law_2312 ?_
      refine lq_aload_n C (i := 0) rfl 4 rfl dL_law_2313 ?_
      refine lq_iload C 0 rfl dL_law_2314 ?_
      refine lq_iconst C (x := nI 1) rfl dL_law_2316 ?_
      refine lq_iadd C dL_law_2317 ?_
      refine lq_cast (.int (nI 1)) (congrArg Value.int (by decide)) ?_
      refine lq_sld C 1 (by decide) (by decide) dL_law_2318 ?_
      refine lq_cast (.int (nI v1)) (congrArg Value.int e_v1) ?_
      refine lq_aload_n C (i := 3) rfl 1 rfl dL_law_2319 ?_
      refine lq_callW C (z304_L_wild l hlt S dp x out v1 (by omega) (by omega) Fm_x Fk_x) lH_320 rfl rfl ⟨by decide, by decide⟩ ⟨Nat.le_of_ble_eq_true rfl, Nat.le_of_ble_eq_true rfl⟩ rfl (Nat.le_of_ble_eq_true rfl) dL_law_2320 (fun r_2320 u_2320 h_2320 => ?_)
      obtain ⟨hr_2320, hu_2320⟩ := h_2320
      have hw_2320 := hu_2320.symm
      subst hw_2320
      have hx_2320 := hr_2320.symm
      subst hx_2320
      refine lq_istore C (lv' := [(5, .int (nI 1)), (4, .int (nI 0)), (3, .ref out), (2, .ref (a 0)), (1, .ref x), (0, .ref b)]) (by decide) rfl dL_law_2323 ?_
      refine lq_aload_n C (i := 2) rfl 3 rfl dL_law_2325 ?_
      refine lq_aload_n C (i := 0) rfl 5 rfl dL_law_2326 ?_
      refine lq_iload C 1 rfl dL_law_2327 ?_
      refine lq_iconst C (x := nI 1) rfl dL_law_2329 ?_
      refine lq_iadd C dL_law_2330 ?_
      refine lq_cast (.int (nI 1)) (congrArg Value.int (by decide)) ?_
      refine lq_sld C 1 (by decide) (by decide) dL_law_2331 ?_
      refine lq_cast (.int (nI v1)) (congrArg Value.int e_v1) ?_
      refine lq_doM C (w175_wild l v f g v1 (by omega) (by omega) Mv_2) lM_322 rfl rfl ⟨by decide, by decide⟩ ⟨Nat.le_of_ble_eq_true rfl, Nat.le_of_ble_eq_true rfl⟩ rfl (Nat.le_of_ble_eq_true rfl) dL_law_2332 ?_
      refine lq_istore C (lv' := [(6, .int (nI 0)), (5, .int (nI 1)), (4, .int (nI 0)), (3, .ref out), (2, .ref (a 0)), (1, .ref x), (0, .ref b)]) (by decide) rfl dL_law_2335 ?_
      refine lq_aload_n C (i := 2) rfl 4 rfl dL_law_2337 ?_
      refine lq_doM C (w4_thrown l (upd v 99 (nI 1)) f g rfl) lM_192 rfl rfl ⟨by decide, by decide⟩ ⟨Nat.le_of_ble_eq_true rfl, Nat.le_of_ble_eq_true rfl⟩ rfl (Nat.le_of_ble_eq_true rfl) dL_law_2338 ?_
      refine lq_iload C 1 rfl dL_law_2341 ?_
      refine lq_icmp_eq C 2348 (by decide) dL_law_2343 (fun _ => ?_) (fun c_ => absurd (by decide) c_)
      refine lq_iload C 1 rfl dL_law_2348 ?_
      refine lq_if_ne C 2365 (by decide) dL_law_2350 (fun _ => ?_) (fun c_ => absurd c_ (by decide))
      refine lq_goto C 3491 (by decide) dL_law_2365 ?_
      exact lq_sub [2, 6] rfl (law_tail C (Nat.le_of_ble_eq_true rfl) (Nat.le_of_ble_eq_true rfl))
set_option maxHeartbeats 8000000 in
set_option maxRecDepth 100000 in
theorem law_case39 (C : lC p l s m meth c b 6 xs D Y tp dp) {S : cS} {a : Nat → Nat} {v : Nat → Int32} {f : Nat → Nat → Int32} {g : Nat → Nat → Int64} {x out q1 q2 q3 q10 q11 q15 q19 q20 q21 q22 q23 q29 q30 q37 : Nat} (F : cFr S dp x out q1 q2 q3 q10 q11 q15 q19 q20 q21 q22 q23 q29 q30 q37) (M : mFr v f g) : lG p l e s m below meth c b D Y 174 409927 2368 [(4, .int (nI 0)), (3, .ref out), (2, .ref (a 0)), (1, .ref x), (0, .ref b)] [] S a v f g := by
  have hlt := C.2.2.2.2.2.2.2.2.2.2.1
  obtain ⟨FeI_q30_0, FeI_q30_1, Fi_195_q23, Fi_289_q11, Fi_289_q15, Fi_289_q2, Fi_33_q37, Fi_361_x, Fi_366_x, Fi_368_x, Fi_369_x, Fi_36_q37, Fi_370_x, Fi_37_q37, Fi_384_q19, Fi_384_q22, Fi_386_q19, Fi_386_q21, Fi_386_q22, Fk_out, Fk_q1, Fk_q10, Fk_q11, Fk_q15, Fk_q19, Fk_q2, Fk_q20, Fk_q21, Fk_q22, Fk_q23, Fk_q29, Fk_q3, Fk_q30, Fk_q37, Fk_x, Fm_out, Fm_q1, Fm_q10, Fm_q11, Fm_q15, Fm_q19, Fm_q2, Fm_q20, Fm_q21, Fm_q22, Fm_q23, Fm_q29, Fm_q3, Fm_q30, Fm_q37, Fm_x, Fn_out, Fn_q3, Fn_q30, Fr_224_q29, Fr_288_q2, Fr_321_q20, Fr_352_x, Fr_353_x, Fr_354_x, Fr_355_x, Fr_356_x, Fr_358_x, Fr_359_x, Fr_360_x, Fr_362_x, Fr_364_x, Fr_365_x, Fr_385_q19, Fr_385_q22, Fr_3_q10, Fr_4_q10, Fr_96_q1⟩ := F
  obtain ⟨Mall_21, Mall_22, Mf_29_0, Mf_29_1, Mf_29_2, Mf_29_3, Mf_29_4, Mf_49_0, Mf_49_1, Mf_8_0, Mf_8_1, Mg_7_0, Mg_7_1, Mg_7_10, Mg_7_11, Mg_7_12, Mg_7_13, Mg_7_14, Mg_7_15, Mg_7_16, Mg_7_17, Mg_7_18, Mg_7_19, Mg_7_2, Mg_7_20, Mg_7_21, Mg_7_22, Mg_7_23, Mg_7_24, Mg_7_25, Mg_7_26, Mg_7_27, Mg_7_28, Mg_7_29, Mg_7_3, Mg_7_30, Mg_7_31, Mg_7_32, Mg_7_33, Mg_7_34, Mg_7_35, Mg_7_36, Mg_7_37, Mg_7_38, Mg_7_39, Mg_7_4, Mg_7_5, Mg_7_6, Mg_7_7, Mg_7_8, Mg_7_9, Mv_13, Mv_14, Mv_2, Mv_20, Mv_29, Mv_34, Mv_35, Mv_40, Mv_48, Mv_49, Mv_72, Mv_88, Mv_89, Mv_90, Mv_96, Mv_97, Mv_98⟩ := M
  rcases c_sgn (xs 1) with hneg_v1 | ⟨v1, hr_v1, e_v1⟩
  · obtain ⟨v1, e_v1⟩ : ∃ z : Int32, xs 1 = z := ⟨_, rfl⟩
    rw [e_v1] at hneg_v1
    rcases c_sgn (xs 2) with hneg_v2 | ⟨v2, hr_v2, e_v2⟩
    · obtain ⟨v2, e_v2⟩ : ∃ z : Int32, xs 2 = z := ⟨_, rfl⟩
      rw [e_v2] at hneg_v2
      obtain ⟨v3, e_v3⟩ : ∃ z : Int32, xs 3 = z := ⟨_, rfl⟩
      obtain ⟨v4, e_v4⟩ : ∃ z : Int32, xs 4 = z := ⟨_, rfl⟩
      obtain ⟨v5, e_v5⟩ : ∃ z : Int32, xs 5 = z := ⟨_, rfl⟩
      refine lq_aload_n C (i := 1) rfl 3 rfl dL_law_2368 ?_
      refine lq_aload_n C (i := 0) rfl 4 rfl dL_law_2369 ?_
      refine lq_iload C 0 rfl dL_law_2370 ?_
      refine lq_iconst C (x := nI 1) rfl dL_law_2372 ?_
      refine lq_iadd C dL_law_2373 ?_
      refine lq_cast (.int (nI 1)) (congrArg Value.int (by decide)) ?_
      refine lq_sld C 1 (by decide) (by decide) dL_law_2374 ?_
      refine lq_cast (.int v1) (congrArg Value.int e_v1) ?_
      refine lq_aload_n C (i := 0) rfl 4 rfl dL_law_2375 ?_
      refine lq_iload C 0 rfl dL_law_2376 ?_
      refine lq_iconst C (x := nI 2) rfl dL_law_2378 ?_
      refine lq_iadd C dL_law_2379 ?_
      refine lq_cast (.int (nI 2)) (congrArg Value.int (by decide)) ?_
      refine lq_sld C 2 (by decide) (by decide) dL_law_2380 ?_
      refine lq_cast (.int v2) (congrArg Value.int e_v2) ?_
      refine lq_aload_n C (i := 3) rfl 1 rfl dL_law_2381 ?_
      refine lq_callW C (z308_L_fuzzy l hlt S dp x out v1 v2 hneg_v1 hneg_v2 Fm_x Fk_x) lH_323 rfl rfl ⟨by decide, by decide⟩ ⟨Nat.le_of_ble_eq_true rfl, Nat.le_of_ble_eq_true rfl⟩ rfl (Nat.le_of_ble_eq_true rfl) dL_law_2382 (fun r_2382 u_2382 h_2382 => ?_)
      obtain ⟨hr_2382, hu_2382⟩ := h_2382
      have hw_2382 := hu_2382.symm
      subst hw_2382
      have hx_2382 := hr_2382.symm
      subst hx_2382
      refine lq_istore C (lv' := [(5, .int (nI 1)), (4, .int (nI 0)), (3, .ref out), (2, .ref (a 0)), (1, .ref x), (0, .ref b)]) (by decide) rfl dL_law_2385 ?_
      refine lq_aload_n C (i := 2) rfl 3 rfl dL_law_2387 ?_
      refine lq_aload_n C (i := 0) rfl 5 rfl dL_law_2388 ?_
      refine lq_iload C 1 rfl dL_law_2389 ?_
      refine lq_iconst C (x := nI 1) rfl dL_law_2391 ?_
      refine lq_iadd C dL_law_2392 ?_
      refine lq_cast (.int (nI 1)) (congrArg Value.int (by decide)) ?_
      refine lq_sld C 1 (by decide) (by decide) dL_law_2393 ?_
      refine lq_cast (.int v1) (congrArg Value.int e_v1) ?_
      refine lq_aload_n C (i := 0) rfl 5 rfl dL_law_2394 ?_
      refine lq_iload C 1 rfl dL_law_2395 ?_
      refine lq_iconst C (x := nI 2) rfl dL_law_2397 ?_
      refine lq_iadd C dL_law_2398 ?_
      refine lq_cast (.int (nI 2)) (congrArg Value.int (by decide)) ?_
      refine lq_sld C 2 (by decide) (by decide) dL_law_2399 ?_
      refine lq_cast (.int v2) (congrArg Value.int e_v2) ?_
      refine lq_doM C (w177_fuzzy l v f g v1 v2 hneg_v1 hneg_v2 Mv_2) lM_325 rfl rfl ⟨by decide, by decide⟩ ⟨Nat.le_of_ble_eq_true rfl, Nat.le_of_ble_eq_true rfl⟩ rfl (Nat.le_of_ble_eq_true rfl) dL_law_2400 ?_
      refine lq_istore C (lv' := [(6, .int (nI 0)), (5, .int (nI 1)), (4, .int (nI 0)), (3, .ref out), (2, .ref (a 0)), (1, .ref x), (0, .ref b)]) (by decide) rfl dL_law_2403 ?_
      refine lq_aload_n C (i := 2) rfl 4 rfl dL_law_2405 ?_
      refine lq_doM C (w4_thrown l (upd (upd v 4 (nI 0)) 99 (nI 1)) f g rfl) lM_192 rfl rfl ⟨by decide, by decide⟩ ⟨Nat.le_of_ble_eq_true rfl, Nat.le_of_ble_eq_true rfl⟩ rfl (Nat.le_of_ble_eq_true rfl) dL_law_2406 ?_
      refine lq_iload C 1 rfl dL_law_2409 ?_
      refine lq_icmp_eq C 2416 (by decide) dL_law_2411 (fun _ => ?_) (fun c_ => absurd (by decide) c_)
      refine lq_iload C 1 rfl dL_law_2416 ?_
      refine lq_if_ne C 2433 (by decide) dL_law_2418 (fun _ => ?_) (fun c_ => absurd c_ (by decide))
      refine lq_goto C 3491 (by decide) dL_law_2433 ?_
      exact lq_sub [2, 6] rfl (law_tail C (Nat.le_of_ble_eq_true rfl) (Nat.le_of_ble_eq_true rfl))
    · rcases Nat.lt_or_ge v2 3 with hlt_v2 | hlt_v2
      · obtain ⟨v3, e_v3⟩ : ∃ z : Int32, xs 3 = z := ⟨_, rfl⟩
        obtain ⟨v4, e_v4⟩ : ∃ z : Int32, xs 4 = z := ⟨_, rfl⟩
        obtain ⟨v5, e_v5⟩ : ∃ z : Int32, xs 5 = z := ⟨_, rfl⟩
        refine lq_aload_n C (i := 1) rfl 3 rfl dL_law_2368 ?_
        refine lq_aload_n C (i := 0) rfl 4 rfl dL_law_2369 ?_
        refine lq_iload C 0 rfl dL_law_2370 ?_
        refine lq_iconst C (x := nI 1) rfl dL_law_2372 ?_
        refine lq_iadd C dL_law_2373 ?_
        refine lq_cast (.int (nI 1)) (congrArg Value.int (by decide)) ?_
        refine lq_sld C 1 (by decide) (by decide) dL_law_2374 ?_
        refine lq_cast (.int v1) (congrArg Value.int e_v1) ?_
        refine lq_aload_n C (i := 0) rfl 4 rfl dL_law_2375 ?_
        refine lq_iload C 0 rfl dL_law_2376 ?_
        refine lq_iconst C (x := nI 2) rfl dL_law_2378 ?_
        refine lq_iadd C dL_law_2379 ?_
        refine lq_cast (.int (nI 2)) (congrArg Value.int (by decide)) ?_
        refine lq_sld C 2 (by decide) (by decide) dL_law_2380 ?_
        refine lq_cast (.int (nI v2)) (congrArg Value.int e_v2) ?_
        refine lq_aload_n C (i := 3) rfl 1 rfl dL_law_2381 ?_
        refine lq_callW C (z312_L_fuzzy l hlt S dp x out v2 v1 hneg_v1 (by omega) Fm_x Fk_x) lH_323 rfl rfl ⟨by decide, by decide⟩ ⟨Nat.le_of_ble_eq_true rfl, Nat.le_of_ble_eq_true rfl⟩ rfl (Nat.le_of_ble_eq_true rfl) dL_law_2382 (fun r_2382 u_2382 h_2382 => ?_)
        obtain ⟨hr_2382, hu_2382⟩ := h_2382
        have hw_2382 := hu_2382.symm
        subst hw_2382
        have hx_2382 := hr_2382.symm
        subst hx_2382
        refine lq_istore C (lv' := [(5, .int (nI 1)), (4, .int (nI 0)), (3, .ref out), (2, .ref (a 0)), (1, .ref x), (0, .ref b)]) (by decide) rfl dL_law_2385 ?_
        refine lq_aload_n C (i := 2) rfl 3 rfl dL_law_2387 ?_
        refine lq_aload_n C (i := 0) rfl 5 rfl dL_law_2388 ?_
        refine lq_iload C 1 rfl dL_law_2389 ?_
        refine lq_iconst C (x := nI 1) rfl dL_law_2391 ?_
        refine lq_iadd C dL_law_2392 ?_
        refine lq_cast (.int (nI 1)) (congrArg Value.int (by decide)) ?_
        refine lq_sld C 1 (by decide) (by decide) dL_law_2393 ?_
        refine lq_cast (.int v1) (congrArg Value.int e_v1) ?_
        refine lq_aload_n C (i := 0) rfl 5 rfl dL_law_2394 ?_
        refine lq_iload C 1 rfl dL_law_2395 ?_
        refine lq_iconst C (x := nI 2) rfl dL_law_2397 ?_
        refine lq_iadd C dL_law_2398 ?_
        refine lq_cast (.int (nI 2)) (congrArg Value.int (by decide)) ?_
        refine lq_sld C 2 (by decide) (by decide) dL_law_2399 ?_
        refine lq_cast (.int (nI v2)) (congrArg Value.int e_v2) ?_
        refine lq_doM C (w179_fuzzy l v f g v2 v1 hneg_v1 (by omega) Mv_2) lM_325 rfl rfl ⟨by decide, by decide⟩ ⟨Nat.le_of_ble_eq_true rfl, Nat.le_of_ble_eq_true rfl⟩ rfl (Nat.le_of_ble_eq_true rfl) dL_law_2400 ?_
        refine lq_istore C (lv' := [(6, .int (nI 0)), (5, .int (nI 1)), (4, .int (nI 0)), (3, .ref out), (2, .ref (a 0)), (1, .ref x), (0, .ref b)]) (by decide) rfl dL_law_2403 ?_
        refine lq_aload_n C (i := 2) rfl 4 rfl dL_law_2405 ?_
        refine lq_doM C (w4_thrown l (upd (upd v 4 (nI 0)) 99 (nI 1)) f g rfl) lM_192 rfl rfl ⟨by decide, by decide⟩ ⟨Nat.le_of_ble_eq_true rfl, Nat.le_of_ble_eq_true rfl⟩ rfl (Nat.le_of_ble_eq_true rfl) dL_law_2406 ?_
        refine lq_iload C 1 rfl dL_law_2409 ?_
        refine lq_icmp_eq C 2416 (by decide) dL_law_2411 (fun _ => ?_) (fun c_ => absurd (by decide) c_)
        refine lq_iload C 1 rfl dL_law_2416 ?_
        refine lq_if_ne C 2433 (by decide) dL_law_2418 (fun _ => ?_) (fun c_ => absurd c_ (by decide))
        refine lq_goto C 3491 (by decide) dL_law_2433 ?_
        exact lq_sub [2, 6] rfl (law_tail C (Nat.le_of_ble_eq_true rfl) (Nat.le_of_ble_eq_true rfl))
      · obtain ⟨v3, e_v3⟩ : ∃ z : Int32, xs 3 = z := ⟨_, rfl⟩
        obtain ⟨v4, e_v4⟩ : ∃ z : Int32, xs 4 = z := ⟨_, rfl⟩
        obtain ⟨v5, e_v5⟩ : ∃ z : Int32, xs 5 = z := ⟨_, rfl⟩
        refine lq_aload_n C (i := 1) rfl 3 rfl dL_law_2368 ?_
        refine lq_aload_n C (i := 0) rfl 4 rfl dL_law_2369 ?_
        refine lq_iload C 0 rfl dL_law_2370 ?_
        refine lq_iconst C (x := nI 1) rfl dL_law_2372 ?_
        refine lq_iadd C dL_law_2373 ?_
        refine lq_cast (.int (nI 1)) (congrArg Value.int (by decide)) ?_
        refine lq_sld C 1 (by decide) (by decide) dL_law_2374 ?_
        refine lq_cast (.int v1) (congrArg Value.int e_v1) ?_
        refine lq_aload_n C (i := 0) rfl 4 rfl dL_law_2375 ?_
        refine lq_iload C 0 rfl dL_law_2376 ?_
        refine lq_iconst C (x := nI 2) rfl dL_law_2378 ?_
        refine lq_iadd C dL_law_2379 ?_
        refine lq_cast (.int (nI 2)) (congrArg Value.int (by decide)) ?_
        refine lq_sld C 2 (by decide) (by decide) dL_law_2380 ?_
        refine lq_cast (.int (nI v2)) (congrArg Value.int e_v2) ?_
        refine lq_aload_n C (i := 3) rfl 1 rfl dL_law_2381 ?_
        refine lq_callW C (z314_L_fuzzy l hlt S dp x out v2 v1 hneg_v1 (by omega) (by omega) Fm_x Fk_x) lH_323 rfl rfl ⟨by decide, by decide⟩ ⟨Nat.le_of_ble_eq_true rfl, Nat.le_of_ble_eq_true rfl⟩ rfl (Nat.le_of_ble_eq_true rfl) dL_law_2382 (fun r_2382 u_2382 h_2382 => ?_)
        obtain ⟨hr_2382, hu_2382⟩ := h_2382
        have hw_2382 := hu_2382.symm
        subst hw_2382
        have hx_2382 := hr_2382.symm
        subst hx_2382
        refine lq_istore C (lv' := [(5, .int (nI 1)), (4, .int (nI 0)), (3, .ref out), (2, .ref (a 0)), (1, .ref x), (0, .ref b)]) (by decide) rfl dL_law_2385 ?_
        refine lq_aload_n C (i := 2) rfl 3 rfl dL_law_2387 ?_
        refine lq_aload_n C (i := 0) rfl 5 rfl dL_law_2388 ?_
        refine lq_iload C 1 rfl dL_law_2389 ?_
        refine lq_iconst C (x := nI 1) rfl dL_law_2391 ?_
        refine lq_iadd C dL_law_2392 ?_
        refine lq_cast (.int (nI 1)) (congrArg Value.int (by decide)) ?_
        refine lq_sld C 1 (by decide) (by decide) dL_law_2393 ?_
        refine lq_cast (.int v1) (congrArg Value.int e_v1) ?_
        refine lq_aload_n C (i := 0) rfl 5 rfl dL_law_2394 ?_
        refine lq_iload C 1 rfl dL_law_2395 ?_
        refine lq_iconst C (x := nI 2) rfl dL_law_2397 ?_
        refine lq_iadd C dL_law_2398 ?_
        refine lq_cast (.int (nI 2)) (congrArg Value.int (by decide)) ?_
        refine lq_sld C 2 (by decide) (by decide) dL_law_2399 ?_
        refine lq_cast (.int (nI v2)) (congrArg Value.int e_v2) ?_
        refine lq_doM C (w181_fuzzy l v f g v2 v1 hneg_v1 (by omega) (by omega) Mv_2) lM_325 rfl rfl ⟨by decide, by decide⟩ ⟨Nat.le_of_ble_eq_true rfl, Nat.le_of_ble_eq_true rfl⟩ rfl (Nat.le_of_ble_eq_true rfl) dL_law_2400 ?_
        refine lq_istore C (lv' := [(6, .int (nI 0)), (5, .int (nI 1)), (4, .int (nI 0)), (3, .ref out), (2, .ref (a 0)), (1, .ref x), (0, .ref b)]) (by decide) rfl dL_law_2403 ?_
        refine lq_aload_n C (i := 2) rfl 4 rfl dL_law_2405 ?_
        refine lq_doM C (w4_thrown l (upd (upd v 4 (nI 0)) 99 (nI 1)) f g rfl) lM_192 rfl rfl ⟨by decide, by decide⟩ ⟨Nat.le_of_ble_eq_true rfl, Nat.le_of_ble_eq_true rfl⟩ rfl (Nat.le_of_ble_eq_true rfl) dL_law_2406 ?_
        refine lq_iload C 1 rfl dL_law_2409 ?_
        refine lq_icmp_eq C 2416 (by decide) dL_law_2411 (fun _ => ?_) (fun c_ => absurd (by decide) c_)
        refine lq_iload C 1 rfl dL_law_2416 ?_
        refine lq_if_ne C 2433 (by decide) dL_law_2418 (fun _ => ?_) (fun c_ => absurd c_ (by decide))
        refine lq_goto C 3491 (by decide) dL_law_2433 ?_
        exact lq_sub [2, 6] rfl (law_tail C (Nat.le_of_ble_eq_true rfl) (Nat.le_of_ble_eq_true rfl))
  · rcases Nat.lt_or_ge v1 2 with hlt_v1 | hlt_v1
    · rcases c_sgn (xs 2) with hneg_v2 | ⟨v2, hr_v2, e_v2⟩
      · obtain ⟨v2, e_v2⟩ : ∃ z : Int32, xs 2 = z := ⟨_, rfl⟩
        rw [e_v2] at hneg_v2
        obtain ⟨v3, e_v3⟩ : ∃ z : Int32, xs 3 = z := ⟨_, rfl⟩
        obtain ⟨v4, e_v4⟩ : ∃ z : Int32, xs 4 = z := ⟨_, rfl⟩
        obtain ⟨v5, e_v5⟩ : ∃ z : Int32, xs 5 = z := ⟨_, rfl⟩
        refine lq_aload_n C (i := 1) rfl 3 rfl dL_law_2368 ?_
        refine lq_aload_n C (i := 0) rfl 4 rfl dL_law_2369 ?_
        refine lq_iload C 0 rfl dL_law_2370 ?_
        refine lq_iconst C (x := nI 1) rfl dL_law_2372 ?_
        refine lq_iadd C dL_law_2373 ?_
        refine lq_cast (.int (nI 1)) (congrArg Value.int (by decide)) ?_
        refine lq_sld C 1 (by decide) (by decide) dL_law_2374 ?_
        refine lq_cast (.int (nI v1)) (congrArg Value.int e_v1) ?_
        refine lq_aload_n C (i := 0) rfl 4 rfl dL_law_2375 ?_
        refine lq_iload C 0 rfl dL_law_2376 ?_
        refine lq_iconst C (x := nI 2) rfl dL_law_2378 ?_
        refine lq_iadd C dL_law_2379 ?_
        refine lq_cast (.int (nI 2)) (congrArg Value.int (by decide)) ?_
        refine lq_sld C 2 (by decide) (by decide) dL_law_2380 ?_
        refine lq_cast (.int v2) (congrArg Value.int e_v2) ?_
        refine lq_aload_n C (i := 3) rfl 1 rfl dL_law_2381 ?_
        refine lq_callW C (z316_L_fuzzy l hlt S dp x out v1 v2 (by omega) hneg_v2 Fm_x Fk_x) lH_323 rfl rfl ⟨by decide, by decide⟩ ⟨Nat.le_of_ble_eq_true rfl, Nat.le_of_ble_eq_true rfl⟩ rfl (Nat.le_of_ble_eq_true rfl) dL_law_2382 (fun r_2382 u_2382 h_2382 => ?_)
        obtain ⟨hr_2382, hu_2382⟩ := h_2382
        have hw_2382 := hu_2382.symm
        subst hw_2382
        have hx_2382 := hr_2382.symm
        subst hx_2382
        refine lq_istore C (lv' := [(5, .int (nI 2)), (4, .int (nI 0)), (3, .ref out), (2, .ref (a 0)), (1, .ref x), (0, .ref b)]) (by decide) rfl dL_law_2385 ?_
        refine lq_aload_n C (i := 2) rfl 3 rfl dL_law_2387 ?_
        refine lq_aload_n C (i := 0) rfl 5 rfl dL_law_2388 ?_
        refine lq_iload C 1 rfl dL_law_2389 ?_
        refine lq_iconst C (x := nI 1) rfl dL_law_2391 ?_
        refine lq_iadd C dL_law_2392 ?_
        refine lq_cast (.int (nI 1)) (congrArg Value.int (by decide)) ?_
        refine lq_sld C 1 (by decide) (by decide) dL_law_2393 ?_
        refine lq_cast (.int (nI v1)) (congrArg Value.int e_v1) ?_
        refine lq_aload_n C (i := 0) rfl 5 rfl dL_law_2394 ?_
        refine lq_iload C 1 rfl dL_law_2395 ?_
        refine lq_iconst C (x := nI 2) rfl dL_law_2397 ?_
        refine lq_iadd C dL_law_2398 ?_
        refine lq_cast (.int (nI 2)) (congrArg Value.int (by decide)) ?_
        refine lq_sld C 2 (by decide) (by decide) dL_law_2399 ?_
        refine lq_cast (.int v2) (congrArg Value.int e_v2) ?_
        refine lq_doM C (w182_fuzzy l v f g v1 v2 (by omega) hneg_v2 Mv_2) lM_325 rfl rfl ⟨by decide, by decide⟩ ⟨Nat.le_of_ble_eq_true rfl, Nat.le_of_ble_eq_true rfl⟩ rfl (Nat.le_of_ble_eq_true rfl) dL_law_2400 ?_
        refine lq_istore C (lv' := [(6, .int (nI 0)), (5, .int (nI 2)), (4, .int (nI 0)), (3, .ref out), (2, .ref (a 0)), (1, .ref x), (0, .ref b)]) (by decide) rfl dL_law_2403 ?_
        refine lq_aload_n C (i := 2) rfl 4 rfl dL_law_2405 ?_
        refine lq_doM C (w116_thrown l (upd (upd v 4 (nI 0)) 99 (nI 2)) f g rfl) lM_192 rfl rfl ⟨by decide, by decide⟩ ⟨Nat.le_of_ble_eq_true rfl, Nat.le_of_ble_eq_true rfl⟩ rfl (Nat.le_of_ble_eq_true rfl) dL_law_2406 ?_
        refine lq_iload C 1 rfl dL_law_2409 ?_
        refine lq_icmp_eq C 2416 (by decide) dL_law_2411 (fun _ => ?_) (fun c_ => absurd (by decide) c_)
        refine lq_iload C 1 rfl dL_law_2416 ?_
        refine lq_if_ne C 2433 (by decide) dL_law_2418 (fun _ => ?_) (fun c_ => absurd c_ (by decide))
        refine lq_goto C 3491 (by decide) dL_law_2433 ?_
        exact lq_sub [2, 6] rfl (law_tail C (Nat.le_of_ble_eq_true rfl) (Nat.le_of_ble_eq_true rfl))
      · rcases Nat.lt_or_ge v2 3 with hlt_v2 | hlt_v2
        · obtain ⟨v3, e_v3⟩ : ∃ z : Int32, xs 3 = z := ⟨_, rfl⟩
          obtain ⟨v4, e_v4⟩ : ∃ z : Int32, xs 4 = z := ⟨_, rfl⟩
          obtain ⟨v5, e_v5⟩ : ∃ z : Int32, xs 5 = z := ⟨_, rfl⟩
          refine lq_aload_n C (i := 1) rfl 3 rfl dL_law_2368 ?_
          refine lq_aload_n C (i := 0) rfl 4 rfl dL_law_2369 ?_
          refine lq_iload C 0 rfl dL_law_2370 ?_
          refine lq_iconst C (x := nI 1) rfl dL_law_2372 ?_
          refine lq_iadd C dL_law_2373 ?_
          refine lq_cast (.int (nI 1)) (congrArg Value.int (by decide)) ?_
          refine lq_sld C 1 (by decide) (by decide) dL_law_2374 ?_
          refine lq_cast (.int (nI v1)) (congrArg Value.int e_v1) ?_
          refine lq_aload_n C (i := 0) rfl 4 rfl dL_law_2375 ?_
          refine lq_iload C 0 rfl dL_law_2376 ?_
          refine lq_iconst C (x := nI 2) rfl dL_law_2378 ?_
          refine lq_iadd C dL_law_2379 ?_
          refine lq_cast (.int (nI 2)) (congrArg Value.int (by decide)) ?_
          refine lq_sld C 2 (by decide) (by decide) dL_law_2380 ?_
          refine lq_cast (.int (nI v2)) (congrArg Value.int e_v2) ?_
          refine lq_aload_n C (i := 3) rfl 1 rfl dL_law_2381 ?_
          refine lq_callW C (z318_L_fuzzy l hlt S dp x out q1 q2 v1 v2 (by omega) (by omega) Fr_352_x Fk_x Fm_x Fr_96_q1 Fk_q1 Fm_q1 Fi_289_q2 Fk_q2 Fm_q2) lH_323 rfl rfl ⟨by decide, by decide⟩ ⟨Nat.le_of_ble_eq_true rfl, Nat.le_of_ble_eq_true rfl⟩ rfl (Nat.le_of_ble_eq_true rfl) dL_law_2382 (fun r_2382 u_2382 h_2382 => ?_)
          obtain ⟨S1, hS1, hr_2382, hu_2382⟩ := h_2382
          have hw_2382 := hu_2382.symm
          subst hw_2382
          have hx_2382 := hr_2382.symm
          subst hx_2382
          refine lq_istore C (lv' := [(5, .int (nI 3)), (4, .int (nI 0)), (3, .ref out), (2, .ref (a 0)), (1, .ref x), (0, .ref b)]) (by decide) rfl dL_law_2385 ?_
          refine lq_aload_n C (i := 2) rfl 3 rfl dL_law_2387 ?_
          refine lq_aload_n C (i := 0) rfl 5 rfl dL_law_2388 ?_
          refine lq_iload C 1 rfl dL_law_2389 ?_
          refine lq_iconst C (x := nI 1) rfl dL_law_2391 ?_
          refine lq_iadd C dL_law_2392 ?_
          refine lq_cast (.int (nI 1)) (congrArg Value.int (by decide)) ?_
          refine lq_sld C 1 (by decide) (by decide) dL_law_2393 ?_
          refine lq_cast (.int (nI v1)) (congrArg Value.int e_v1) ?_
          refine lq_aload_n C (i := 0) rfl 5 rfl dL_law_2394 ?_
          refine lq_iload C 1 rfl dL_law_2395 ?_
          refine lq_iconst C (x := nI 2) rfl dL_law_2397 ?_
          refine lq_iadd C dL_law_2398 ?_
          refine lq_cast (.int (nI 2)) (congrArg Value.int (by decide)) ?_
          refine lq_sld C 2 (by decide) (by decide) dL_law_2399 ?_
          refine lq_cast (.int (nI v2)) (congrArg Value.int e_v2) ?_
          refine lq_doM C (w183_fuzzy l v f g v1 v2 (by omega) (by omega) Mv_2) lM_325 rfl rfl ⟨by decide, by decide⟩ ⟨Nat.le_of_ble_eq_true rfl, Nat.le_of_ble_eq_true rfl⟩ rfl (Nat.le_of_ble_eq_true rfl) dL_law_2400 ?_
          refine lq_istore C (lv' := [(6, .int (nI 0)), (5, .int (nI 3)), (4, .int (nI 0)), (3, .ref out), (2, .ref (a 0)), (1, .ref x), (0, .ref b)]) (by decide) rfl dL_law_2403 ?_
          refine lq_aload_n C (i := 2) rfl 4 rfl dL_law_2405 ?_
          refine lq_doM C (w133_thrown l (upd (upd v 4 (nI 0)) 99 (nI 3)) f g rfl) lM_192 rfl rfl ⟨by decide, by decide⟩ ⟨Nat.le_of_ble_eq_true rfl, Nat.le_of_ble_eq_true rfl⟩ rfl (Nat.le_of_ble_eq_true rfl) dL_law_2406 ?_
          refine lq_iload C 1 rfl dL_law_2409 ?_
          refine lq_icmp_eq C 2416 (by decide) dL_law_2411 (fun _ => ?_) (fun c_ => absurd (by decide) c_)
          refine lq_iload C 1 rfl dL_law_2416 ?_
          refine lq_if_ne C 2433 (by decide) dL_law_2418 (fun _ => ?_) (fun c_ => absurd c_ (by decide))
          refine lq_goto C 3491 (by decide) dL_law_2433 ?_
          exact lq_sub [2, 6] rfl (law_tail C (Nat.le_of_ble_eq_true rfl) (Nat.le_of_ble_eq_true rfl))
        · obtain ⟨v3, e_v3⟩ : ∃ z : Int32, xs 3 = z := ⟨_, rfl⟩
          obtain ⟨v4, e_v4⟩ : ∃ z : Int32, xs 4 = z := ⟨_, rfl⟩
          obtain ⟨v5, e_v5⟩ : ∃ z : Int32, xs 5 = z := ⟨_, rfl⟩
          refine lq_aload_n C (i := 1) rfl 3 rfl dL_law_2368 ?_
          refine lq_aload_n C (i := 0) rfl 4 rfl dL_law_2369 ?_
          refine lq_iload C 0 rfl dL_law_2370 ?_
          refine lq_iconst C (x := nI 1) rfl dL_law_2372 ?_
          refine lq_iadd C dL_law_2373 ?_
          refine lq_cast (.int (nI 1)) (congrArg Value.int (by decide)) ?_
          refine lq_sld C 1 (by decide) (by decide) dL_law_2374 ?_
          refine lq_cast (.int (nI v1)) (congrArg Value.int e_v1) ?_
          refine lq_aload_n C (i := 0) rfl 4 rfl dL_law_2375 ?_
          refine lq_iload C 0 rfl dL_law_2376 ?_
          refine lq_iconst C (x := nI 2) rfl dL_law_2378 ?_
          refine lq_iadd C dL_law_2379 ?_
          refine lq_cast (.int (nI 2)) (congrArg Value.int (by decide)) ?_
          refine lq_sld C 2 (by decide) (by decide) dL_law_2380 ?_
          refine lq_cast (.int (nI v2)) (congrArg Value.int e_v2) ?_
          refine lq_aload_n C (i := 3) rfl 1 rfl dL_law_2381 ?_
          refine lq_callW C (z320_L_fuzzy l hlt S dp x out v1 v2 (by omega) (by omega) (by omega) Fm_x Fk_x) lH_323 rfl rfl ⟨by decide, by decide⟩ ⟨Nat.le_of_ble_eq_true rfl, Nat.le_of_ble_eq_true rfl⟩ rfl (Nat.le_of_ble_eq_true rfl) dL_law_2382 (fun r_2382 u_2382 h_2382 => ?_)
          obtain ⟨hr_2382, hu_2382⟩ := h_2382
          have hw_2382 := hu_2382.symm
          subst hw_2382
          have hx_2382 := hr_2382.symm
          subst hx_2382
          refine lq_istore C (lv' := [(5, .int (nI 2)), (4, .int (nI 0)), (3, .ref out), (2, .ref (a 0)), (1, .ref x), (0, .ref b)]) (by decide) rfl dL_law_2385 ?_
          refine lq_aload_n C (i := 2) rfl 3 rfl dL_law_2387 ?_
          refine lq_aload_n C (i := 0) rfl 5 rfl dL_law_2388 ?_
          refine lq_iload C 1 rfl dL_law_2389 ?_
          refine lq_iconst C (x := nI 1) rfl dL_law_2391 ?_
          refine lq_iadd C dL_law_2392 ?_
          refine lq_cast (.int (nI 1)) (congrArg Value.int (by decide)) ?_
          refine lq_sld C 1 (by decide) (by decide) dL_law_2393 ?_
          refine lq_cast (.int (nI v1)) (congrArg Value.int e_v1) ?_
          refine lq_aload_n C (i := 0) rfl 5 rfl dL_law_2394 ?_
          refine lq_iload C 1 rfl dL_law_2395 ?_
          refine lq_iconst C (x := nI 2) rfl dL_law_2397 ?_
          refine lq_iadd C dL_law_2398 ?_
          refine lq_cast (.int (nI 2)) (congrArg Value.int (by decide)) ?_
          refine lq_sld C 2 (by decide) (by decide) dL_law_2399 ?_
          refine lq_cast (.int (nI v2)) (congrArg Value.int e_v2) ?_
          refine lq_doM C (w184_fuzzy l v f g v1 v2 (by omega) (by omega) (by omega) Mv_2) lM_325 rfl rfl ⟨by decide, by decide⟩ ⟨Nat.le_of_ble_eq_true rfl, Nat.le_of_ble_eq_true rfl⟩ rfl (Nat.le_of_ble_eq_true rfl) dL_law_2400 ?_
          refine lq_istore C (lv' := [(6, .int (nI 0)), (5, .int (nI 2)), (4, .int (nI 0)), (3, .ref out), (2, .ref (a 0)), (1, .ref x), (0, .ref b)]) (by decide) rfl dL_law_2403 ?_
          refine lq_aload_n C (i := 2) rfl 4 rfl dL_law_2405 ?_
          refine lq_doM C (w116_thrown l (upd (upd v 4 (nI 0)) 99 (nI 2)) f g rfl) lM_192 rfl rfl ⟨by decide, by decide⟩ ⟨Nat.le_of_ble_eq_true rfl, Nat.le_of_ble_eq_true rfl⟩ rfl (Nat.le_of_ble_eq_true rfl) dL_law_2406 ?_
          refine lq_iload C 1 rfl dL_law_2409 ?_
          refine lq_icmp_eq C 2416 (by decide) dL_law_2411 (fun _ => ?_) (fun c_ => absurd (by decide) c_)
          refine lq_iload C 1 rfl dL_law_2416 ?_
          refine lq_if_ne C 2433 (by decide) dL_law_2418 (fun _ => ?_) (fun c_ => absurd c_ (by decide))
          refine lq_goto C 3491 (by decide) dL_law_2433 ?_
          exact lq_sub [2, 6] rfl (law_tail C (Nat.le_of_ble_eq_true rfl) (Nat.le_of_ble_eq_true rfl))
    · rcases c_sgn (xs 2) with hneg_v2 | ⟨v2, hr_v2, e_v2⟩
      · obtain ⟨v2, e_v2⟩ : ∃ z : Int32, xs 2 = z := ⟨_, rfl⟩
        rw [e_v2] at hneg_v2
        obtain ⟨v3, e_v3⟩ : ∃ z : Int32, xs 3 = z := ⟨_, rfl⟩
        obtain ⟨v4, e_v4⟩ : ∃ z : Int32, xs 4 = z := ⟨_, rfl⟩
        obtain ⟨v5, e_v5⟩ : ∃ z : Int32, xs 5 = z := ⟨_, rfl⟩
        refine lq_aload_n C (i := 1) rfl 3 rfl dL_law_2368 ?_
        refine lq_aload_n C (i := 0) rfl 4 rfl dL_law_2369 ?_
        refine lq_iload C 0 rfl dL_law_2370 ?_
        refine lq_iconst C (x := nI 1) rfl dL_law_2372 ?_
        refine lq_iadd C dL_law_2373 ?_
        refine lq_cast (.int (nI 1)) (congrArg Value.int (by decide)) ?_
        refine lq_sld C 1 (by decide) (by decide) dL_law_2374 ?_
        refine lq_cast (.int (nI v1)) (congrArg Value.int e_v1) ?_
        refine lq_aload_n C (i := 0) rfl 4 rfl dL_law_2375 ?_
        refine lq_iload C 0 rfl dL_law_2376 ?_
        refine lq_iconst C (x := nI 2) rfl dL_law_2378 ?_
        refine lq_iadd C dL_law_2379 ?_
        refine lq_cast (.int (nI 2)) (congrArg Value.int (by decide)) ?_
        refine lq_sld C 2 (by decide) (by decide) dL_law_2380 ?_
        refine lq_cast (.int v2) (congrArg Value.int e_v2) ?_
        refine lq_aload_n C (i := 3) rfl 1 rfl dL_law_2381 ?_
        refine lq_callW C (z324_L_fuzzy l hlt S dp x out v1 v2 (by omega) (by omega) hneg_v2 Fm_x Fk_x) lH_323 rfl rfl ⟨by decide, by decide⟩ ⟨Nat.le_of_ble_eq_true rfl, Nat.le_of_ble_eq_true rfl⟩ rfl (Nat.le_of_ble_eq_true rfl) dL_law_2382 (fun r_2382 u_2382 h_2382 => ?_)
        obtain ⟨hr_2382, hu_2382⟩ := h_2382
        have hw_2382 := hu_2382.symm
        subst hw_2382
        have hx_2382 := hr_2382.symm
        subst hx_2382
        refine lq_istore C (lv' := [(5, .int (nI 1)), (4, .int (nI 0)), (3, .ref out), (2, .ref (a 0)), (1, .ref x), (0, .ref b)]) (by decide) rfl dL_law_2385 ?_
        refine lq_aload_n C (i := 2) rfl 3 rfl dL_law_2387 ?_
        refine lq_aload_n C (i := 0) rfl 5 rfl dL_law_2388 ?_
        refine lq_iload C 1 rfl dL_law_2389 ?_
        refine lq_iconst C (x := nI 1) rfl dL_law_2391 ?_
        refine lq_iadd C dL_law_2392 ?_
        refine lq_cast (.int (nI 1)) (congrArg Value.int (by decide)) ?_
        refine lq_sld C 1 (by decide) (by decide) dL_law_2393 ?_
        refine lq_cast (.int (nI v1)) (congrArg Value.int e_v1) ?_
        refine lq_aload_n C (i := 0) rfl 5 rfl dL_law_2394 ?_
        refine lq_iload C 1 rfl dL_law_2395 ?_
        refine lq_iconst C (x := nI 2) rfl dL_law_2397 ?_
        refine lq_iadd C dL_law_2398 ?_
        refine lq_cast (.int (nI 2)) (congrArg Value.int (by decide)) ?_
        refine lq_sld C 2 (by decide) (by decide) dL_law_2399 ?_
        refine lq_cast (.int v2) (congrArg Value.int e_v2) ?_
        refine lq_doM C (w185_fuzzy l v f g v1 v2 (by omega) (by omega) hneg_v2 Mv_2) lM_325 rfl rfl ⟨by decide, by decide⟩ ⟨Nat.le_of_ble_eq_true rfl, Nat.le_of_ble_eq_true rfl⟩ rfl (Nat.le_of_ble_eq_true rfl) dL_law_2400 ?_
        refine lq_istore C (lv' := [(6, .int (nI 0)), (5, .int (nI 1)), (4, .int (nI 0)), (3, .ref out), (2, .ref (a 0)), (1, .ref x), (0, .ref b)]) (by decide) rfl dL_law_2403 ?_
        refine lq_aload_n C (i := 2) rfl 4 rfl dL_law_2405 ?_
        refine lq_doM C (w4_thrown l (upd (upd v 4 (nI 0)) 99 (nI 1)) f g rfl) lM_192 rfl rfl ⟨by decide, by decide⟩ ⟨Nat.le_of_ble_eq_true rfl, Nat.le_of_ble_eq_true rfl⟩ rfl (Nat.le_of_ble_eq_true rfl) dL_law_2406 ?_
        refine lq_iload C 1 rfl dL_law_2409 ?_
        refine lq_icmp_eq C 2416 (by decide) dL_law_2411 (fun _ => ?_) (fun c_ => absurd (by decide) c_)
        refine lq_iload C 1 rfl dL_law_2416 ?_
        refine lq_if_ne C 2433 (by decide) dL_law_2418 (fun _ => ?_) (fun c_ => absurd c_ (by decide))
        refine lq_goto C 3491 (by decide) dL_law_2433 ?_
        exact lq_sub [2, 6] rfl (law_tail C (Nat.le_of_ble_eq_true rfl) (Nat.le_of_ble_eq_true rfl))
      · rcases Nat.lt_or_ge v2 3 with hlt_v2 | hlt_v2
        · obtain ⟨v3, e_v3⟩ : ∃ z : Int32, xs 3 = z := ⟨_, rfl⟩
          obtain ⟨v4, e_v4⟩ : ∃ z : Int32, xs 4 = z := ⟨_, rfl⟩
          obtain ⟨v5, e_v5⟩ : ∃ z : Int32, xs 5 = z := ⟨_, rfl⟩
          refine lq_aload_n C (i := 1) rfl 3 rfl dL_law_2368 ?_
          refine lq_aload_n C (i := 0) rfl 4 rfl dL_law_2369 ?_
          refine lq_iload C 0 rfl dL_law_2370 ?_
          refine lq_iconst C (x := nI 1) rfl dL_law_2372 ?_
          refine lq_iadd C dL_law_2373 ?_
          refine lq_cast (.int (nI 1)) (congrArg Value.int (by decide)) ?_
          refine lq_sld C 1 (by decide) (by decide) dL_law_2374 ?_
          refine lq_cast (.int (nI v1)) (congrArg Value.int e_v1) ?_
          refine lq_aload_n C (i := 0) rfl 4 rfl dL_law_2375 ?_
          refine lq_iload C 0 rfl dL_law_2376 ?_
          refine lq_iconst C (x := nI 2) rfl dL_law_2378 ?_
          refine lq_iadd C dL_law_2379 ?_
          refine lq_cast (.int (nI 2)) (congrArg Value.int (by decide)) ?_
          refine lq_sld C 2 (by decide) (by decide) dL_law_2380 ?_
          refine lq_cast (.int (nI v2)) (congrArg Value.int e_v2) ?_
          refine lq_aload_n C (i := 3) rfl 1 rfl dL_law_2381 ?_
          refine lq_callW C (z328_L_fuzzy l hlt S dp x out v1 v2 (by omega) (by omega) (by omega) Fm_x Fk_x) lH_323 rfl rfl ⟨by decide, by decide⟩ ⟨Nat.le_of_ble_eq_true rfl, Nat.le_of_ble_eq_true rfl⟩ rfl (Nat.le_of_ble_eq_true rfl) dL_law_2382 (fun r_2382 u_2382 h_2382 => ?_)
          obtain ⟨hr_2382, hu_2382⟩ := h_2382
          have hw_2382 := hu_2382.symm
          subst hw_2382
          have hx_2382 := hr_2382.symm
          subst hx_2382
          refine lq_istore C (lv' := [(5, .int (nI 1)), (4, .int (nI 0)), (3, .ref out), (2, .ref (a 0)), (1, .ref x), (0, .ref b)]) (by decide) rfl dL_law_2385 ?_
          refine lq_aload_n C (i := 2) rfl 3 rfl dL_law_2387 ?_
          refine lq_aload_n C (i := 0) rfl 5 rfl dL_law_2388 ?_
          refine lq_iload C 1 rfl dL_law_2389 ?_
          refine lq_iconst C (x := nI 1) rfl dL_law_2391 ?_
          refine lq_iadd C dL_law_2392 ?_
          refine lq_cast (.int (nI 1)) (congrArg Value.int (by decide)) ?_
          refine lq_sld C 1 (by decide) (by decide) dL_law_2393 ?_
          refine lq_cast (.int (nI v1)) (congrArg Value.int e_v1) ?_
          refine lq_aload_n C (i := 0) rfl 5 rfl dL_law_2394 ?_
          refine lq_iload C 1 rfl dL_law_2395 ?_
          refine lq_iconst C (x := nI 2) rfl dL_law_2397 ?_
          refine lq_iadd C dL_law_2398 ?_
          refine lq_cast (.int (nI 2)) (congrArg Value.int (by decide)) ?_
          refine lq_sld C 2 (by decide) (by decide) dL_law_2399 ?_
          refine lq_cast (.int (nI v2)) (congrArg Value.int e_v2) ?_
          refine lq_doM C (w186_fuzzy l v f g v1 v2 (by omega) (by omega) (by omega) Mv_2) lM_325 rfl rfl ⟨by decide, by decide⟩ ⟨Nat.le_of_ble_eq_true rfl, Nat.le_of_ble_eq_true rfl⟩ rfl (Nat.le_of_ble_eq_true rfl) dL_law_2400 ?_
          refine lq_istore C (lv' := [(6, .int (nI 0)), (5, .int (nI 1)), (4, .int (nI 0)), (3, .ref out), (2, .ref (a 0)), (1, .ref x), (0, .ref b)]) (by decide) rfl dL_law_2403 ?_
          refine lq_aload_n C (i := 2) rfl 4 rfl dL_law_2405 ?_
          refine lq_doM C (w4_thrown l (upd (upd v 4 (nI 0)) 99 (nI 1)) f g rfl) lM_192 rfl rfl ⟨by decide, by decide⟩ ⟨Nat.le_of_ble_eq_true rfl, Nat.le_of_ble_eq_true rfl⟩ rfl (Nat.le_of_ble_eq_true rfl) dL_law_2406 ?_
          refine lq_iload C 1 rfl dL_law_2409 ?_
          refine lq_icmp_eq C 2416 (by decide) dL_law_2411 (fun _ => ?_) (fun c_ => absurd (by decide) c_)
          refine lq_iload C 1 rfl dL_law_2416 ?_
          refine lq_if_ne C 2433 (by decide) dL_law_2418 (fun _ => ?_) (fun c_ => absurd c_ (by decide))
          refine lq_goto C 3491 (by decide) dL_law_2433 ?_
          exact lq_sub [2, 6] rfl (law_tail C (Nat.le_of_ble_eq_true rfl) (Nat.le_of_ble_eq_true rfl))
        · obtain ⟨v3, e_v3⟩ : ∃ z : Int32, xs 3 = z := ⟨_, rfl⟩
          obtain ⟨v4, e_v4⟩ : ∃ z : Int32, xs 4 = z := ⟨_, rfl⟩
          obtain ⟨v5, e_v5⟩ : ∃ z : Int32, xs 5 = z := ⟨_, rfl⟩
          refine lq_aload_n C (i := 1) rfl 3 rfl dL_law_2368 ?_
          refine lq_aload_n C (i := 0) rfl 4 rfl dL_law_2369 ?_
          refine lq_iload C 0 rfl dL_law_2370 ?_
          refine lq_iconst C (x := nI 1) rfl dL_law_2372 ?_
          refine lq_iadd C dL_law_2373 ?_
          refine lq_cast (.int (nI 1)) (congrArg Value.int (by decide)) ?_
          refine lq_sld C 1 (by decide) (by decide) dL_law_2374 ?_
          refine lq_cast (.int (nI v1)) (congrArg Value.int e_v1) ?_
          refine lq_aload_n C (i := 0) rfl 4 rfl dL_law_2375 ?_
          refine lq_iload C 0 rfl dL_law_2376 ?_
          refine lq_iconst C (x := nI 2) rfl dL_law_2378 ?_
          refine lq_iadd C dL_law_2379 ?_
          refine lq_cast (.int (nI 2)) (congrArg Value.int (by decide)) ?_
          refine lq_sld C 2 (by decide) (by decide) dL_law_2380 ?_
          refine lq_cast (.int (nI v2)) (congrArg Value.int e_v2) ?_
          refine lq_aload_n C (i := 3) rfl 1 rfl dL_law_2381 ?_
          refine lq_callW C (z330_L_fuzzy l hlt S dp x out v1 v2 (by omega) (by omega) (by omega) (by omega) Fm_x Fk_x) lH_323 rfl rfl ⟨by decide, by decide⟩ ⟨Nat.le_of_ble_eq_true rfl, Nat.le_of_ble_eq_true rfl⟩ rfl (Nat.le_of_ble_eq_true rfl) dL_law_2382 (fun r_2382 u_2382 h_2382 => ?_)
          obtain ⟨hr_2382, hu_2382⟩ := h_2382
          have hw_2382 := hu_2382.symm
          subst hw_2382
          have hx_2382 := hr_2382.symm
          subst hx_2382
          refine lq_istore C (lv' := [(5, .int (nI 1)), (4, .int (nI 0)), (3, .ref out), (2, .ref (a 0)), (1, .ref x), (0, .ref b)]) (by decide) rfl dL_law_2385 ?_
          refine lq_aload_n C (i := 2) rfl 3 rfl dL_law_2387 ?_
          refine lq_aload_n C (i := 0) rfl 5 rfl dL_law_2388 ?_
          refine lq_iload C 1 rfl dL_law_2389 ?_
          refine lq_iconst C (x := nI 1) rfl dL_law_2391 ?_
          refine lq_iadd C dL_law_2392 ?_
          refine lq_cast (.int (nI 1)) (congrArg Value.int (by decide)) ?_
          refine lq_sld C 1 (by decide) (by decide) dL_law_2393 ?_
          refine lq_cast (.int (nI v1)) (congrArg Value.int e_v1) ?_
          refine lq_aload_n C (i := 0) rfl 5 rfl dL_law_2394 ?_
          refine lq_iload C 1 rfl dL_law_2395 ?_
          refine lq_iconst C (x := nI 2) rfl dL_law_2397 ?_
          refine lq_iadd C dL_law_2398 ?_
          refine lq_cast (.int (nI 2)) (congrArg Value.int (by decide)) ?_
          refine lq_sld C 2 (by decide) (by decide) dL_law_2399 ?_
          refine lq_cast (.int (nI v2)) (congrArg Value.int e_v2) ?_
          refine lq_doM C (w187_fuzzy l v f g v1 v2 (by omega) (by omega) (by omega) (by omega) Mv_2) lM_325 rfl rfl ⟨by decide, by decide⟩ ⟨Nat.le_of_ble_eq_true rfl, Nat.le_of_ble_eq_true rfl⟩ rfl (Nat.le_of_ble_eq_true rfl) dL_law_2400 ?_
          refine lq_istore C (lv' := [(6, .int (nI 0)), (5, .int (nI 1)), (4, .int (nI 0)), (3, .ref out), (2, .ref (a 0)), (1, .ref x), (0, .ref b)]) (by decide) rfl dL_law_2403 ?_
          refine lq_aload_n C (i := 2) rfl 4 rfl dL_law_2405 ?_
          refine lq_doM C (w4_thrown l (upd (upd v 4 (nI 0)) 99 (nI 1)) f g rfl) lM_192 rfl rfl ⟨by decide, by decide⟩ ⟨Nat.le_of_ble_eq_true rfl, Nat.le_of_ble_eq_true rfl⟩ rfl (Nat.le_of_ble_eq_true rfl) dL_law_2406 ?_
          refine lq_iload C 1 rfl dL_law_2409 ?_
          refine lq_icmp_eq C 2416 (by decide) dL_law_2411 (fun _ => ?_) (fun c_ => absurd (by decide) c_)
          refine lq_iload C 1 rfl dL_law_2416 ?_
          refine lq_if_ne C 2433 (by decide) dL_law_2418 (fun _ => ?_) (fun c_ => absurd c_ (by decide))
          refine lq_goto C 3491 (by decide) dL_law_2433 ?_
          exact lq_sub [2, 6] rfl (law_tail C (Nat.le_of_ble_eq_true rfl) (Nat.le_of_ble_eq_true rfl))
set_option maxHeartbeats 8000000 in
set_option maxRecDepth 100000 in
theorem law_case40 (C : lC p l s m meth c b 6 xs D Y tp dp) {S : cS} {a : Nat → Nat} {v : Nat → Int32} {f : Nat → Nat → Int32} {g : Nat → Nat → Int64} {x out q1 q2 q3 q10 q11 q15 q19 q20 q21 q22 q23 q29 q30 q37 : Nat} (F : cFr S dp x out q1 q2 q3 q10 q11 q15 q19 q20 q21 q22 q23 q29 q30 q37) (M : mFr v f g) : lG p l e s m below meth c b D Y 174 409927 2436 [(4, .int (nI 0)), (3, .ref out), (2, .ref (a 0)), (1, .ref x), (0, .ref b)] [] S a v f g := by
  have hlt := C.2.2.2.2.2.2.2.2.2.2.1
  obtain ⟨FeI_q30_0, FeI_q30_1, Fi_195_q23, Fi_289_q11, Fi_289_q15, Fi_289_q2, Fi_33_q37, Fi_361_x, Fi_366_x, Fi_368_x, Fi_369_x, Fi_36_q37, Fi_370_x, Fi_37_q37, Fi_384_q19, Fi_384_q22, Fi_386_q19, Fi_386_q21, Fi_386_q22, Fk_out, Fk_q1, Fk_q10, Fk_q11, Fk_q15, Fk_q19, Fk_q2, Fk_q20, Fk_q21, Fk_q22, Fk_q23, Fk_q29, Fk_q3, Fk_q30, Fk_q37, Fk_x, Fm_out, Fm_q1, Fm_q10, Fm_q11, Fm_q15, Fm_q19, Fm_q2, Fm_q20, Fm_q21, Fm_q22, Fm_q23, Fm_q29, Fm_q3, Fm_q30, Fm_q37, Fm_x, Fn_out, Fn_q3, Fn_q30, Fr_224_q29, Fr_288_q2, Fr_321_q20, Fr_352_x, Fr_353_x, Fr_354_x, Fr_355_x, Fr_356_x, Fr_358_x, Fr_359_x, Fr_360_x, Fr_362_x, Fr_364_x, Fr_365_x, Fr_385_q19, Fr_385_q22, Fr_3_q10, Fr_4_q10, Fr_96_q1⟩ := F
  obtain ⟨Mall_21, Mall_22, Mf_29_0, Mf_29_1, Mf_29_2, Mf_29_3, Mf_29_4, Mf_49_0, Mf_49_1, Mf_8_0, Mf_8_1, Mg_7_0, Mg_7_1, Mg_7_10, Mg_7_11, Mg_7_12, Mg_7_13, Mg_7_14, Mg_7_15, Mg_7_16, Mg_7_17, Mg_7_18, Mg_7_19, Mg_7_2, Mg_7_20, Mg_7_21, Mg_7_22, Mg_7_23, Mg_7_24, Mg_7_25, Mg_7_26, Mg_7_27, Mg_7_28, Mg_7_29, Mg_7_3, Mg_7_30, Mg_7_31, Mg_7_32, Mg_7_33, Mg_7_34, Mg_7_35, Mg_7_36, Mg_7_37, Mg_7_38, Mg_7_39, Mg_7_4, Mg_7_5, Mg_7_6, Mg_7_7, Mg_7_8, Mg_7_9, Mv_13, Mv_14, Mv_2, Mv_20, Mv_29, Mv_34, Mv_35, Mv_40, Mv_48, Mv_49, Mv_72, Mv_88, Mv_89, Mv_90, Mv_96, Mv_97, Mv_98⟩ := M
  rcases c_sgn (xs 1) with hneg_v1 | ⟨v1, hr_v1, e_v1⟩
  · obtain ⟨v1, e_v1⟩ : ∃ z : Int32, xs 1 = z := ⟨_, rfl⟩
    rw [e_v1] at hneg_v1
    obtain ⟨v2, e_v2⟩ : ∃ z : Int32, xs 2 = z := ⟨_, rfl⟩
    obtain ⟨v3, e_v3⟩ : ∃ z : Int32, xs 3 = z := ⟨_, rfl⟩
    obtain ⟨v4, e_v4⟩ : ∃ z : Int32, xs 4 = z := ⟨_, rfl⟩
    obtain ⟨v5, e_v5⟩ : ∃ z : Int32, xs 5 = z := ⟨_, rfl⟩
    refine lq_aload_n C (i := 1) rfl 3 rfl dL_law_2436 ?_
    refine lq_aload_n C (i := 0) rfl 4 rfl dL_law_2437 ?_
    refine lq_iload C 0 rfl dL_law_2438 ?_
    refine lq_iconst C (x := nI 1) rfl dL_law_2440 ?_
    refine lq_iadd C dL_law_2441 ?_
    refine lq_cast (.int (nI 1)) (congrArg Value.int (by decide)) ?_
    refine lq_sld C 1 (by decide) (by decide) dL_law_2442 ?_
    refine lq_cast (.int v1) (congrArg Value.int e_v1) ?_
    refine lq_aload_n C (i := 0) rfl 4 rfl dL_law_2443 ?_
    refine lq_iload C 0 rfl dL_law_2444 ?_
    refine lq_iconst C (x := nI 2) rfl dL_law_2446 ?_
    refine lq_iadd C dL_law_2447 ?_
    refine lq_cast (.int (nI 2)) (congrArg Value.int (by decide)) ?_
    refine lq_sld C 2 (by decide) (by decide) dL_law_2448 ?_
    refine lq_cast (.int v2) (congrArg Value.int e_v2) ?_
    refine lq_aload_n C (i := 3) rfl 1 rfl dL_law_2449 ?_
    refine lq_callW C (z332_L_least l hlt S dp x out v1 v2 hneg_v1 Fm_x Fk_x) lH_326 rfl rfl ⟨by decide, by decide⟩ ⟨Nat.le_of_ble_eq_true rfl, Nat.le_of_ble_eq_true rfl⟩ rfl (Nat.le_of_ble_eq_true rfl) dL_law_2450 (fun r_2450 u_2450 h_2450 => ?_)
    obtain ⟨hr_2450, hu_2450⟩ := h_2450
    have hw_2450 := hu_2450.symm
    subst hw_2450
    have hx_2450 := hr_2450.symm
    subst hx_2450
    refine lq_istore C (lv' := [(5, .int (nI 1)), (4, .int (nI 0)), (3, .ref out), (2, .ref (a 0)), (1, .ref x), (0, .ref b)]) (by decide) rfl dL_law_2453 ?_
    refine lq_aload_n C (i := 2) rfl 3 rfl dL_law_2455 ?_
    refine lq_aload_n C (i := 0) rfl 5 rfl dL_law_2456 ?_
    refine lq_iload C 1 rfl dL_law_2457 ?_
    refine lq_iconst C (x := nI 1) rfl dL_law_2459 ?_
    refine lq_iadd C dL_law_2460 ?_
    refine lq_cast (.int (nI 1)) (congrArg Value.int (by decide)) ?_
    refine lq_sld C 1 (by decide) (by decide) dL_law_2461 ?_
    refine lq_cast (.int v1) (congrArg Value.int e_v1) ?_
    refine lq_aload_n C (i := 0) rfl 5 rfl dL_law_2462 ?_
    refine lq_iload C 1 rfl dL_law_2463 ?_
    refine lq_iconst C (x := nI 2) rfl dL_law_2465 ?_
    refine lq_iadd C dL_law_2466 ?_
    refine lq_cast (.int (nI 2)) (congrArg Value.int (by decide)) ?_
    refine lq_sld C 2 (by decide) (by decide) dL_law_2467 ?_
    refine lq_cast (.int v2) (congrArg Value.int e_v2) ?_
    refine lq_doM C (w189_least l v f g v1 v2 hneg_v1 Mv_72) lM_328 rfl rfl ⟨by decide, by decide⟩ ⟨Nat.le_of_ble_eq_true rfl, Nat.le_of_ble_eq_true rfl⟩ rfl (Nat.le_of_ble_eq_true rfl) dL_law_2468 ?_
    refine lq_istore C (lv' := [(6, .int (nI 0)), (5, .int (nI 1)), (4, .int (nI 0)), (3, .ref out), (2, .ref (a 0)), (1, .ref x), (0, .ref b)]) (by decide) rfl dL_law_2471 ?_
    refine lq_aload_n C (i := 2) rfl 4 rfl dL_law_2473 ?_
    refine lq_doM C (w4_thrown l (upd v 99 (nI 1)) f g rfl) lM_192 rfl rfl ⟨by decide, by decide⟩ ⟨Nat.le_of_ble_eq_true rfl, Nat.le_of_ble_eq_true rfl⟩ rfl (Nat.le_of_ble_eq_true rfl) dL_law_2474 ?_
    refine lq_iload C 1 rfl dL_law_2477 ?_
    refine lq_icmp_eq C 2484 (by decide) dL_law_2479 (fun _ => ?_) (fun c_ => absurd (by decide) c_)
    refine lq_iload C 1 rfl dL_law_2484 ?_
    refine lq_if_ne C 2501 (by decide) dL_law_2486 (fun _ => ?_) (fun c_ => absurd c_ (by decide))
    refine lq_goto C 3491 (by decide) dL_law_2501 ?_
    exact lq_sub [2, 6] rfl (law_tail C (Nat.le_of_ble_eq_true rfl) (Nat.le_of_ble_eq_true rfl))
  · rcases Nat.lt_or_ge v1 2 with hlt_v1 | hlt_v1
    · rcases Nat.lt_or_ge v1 1 with hlt_v1 | hlt_v1
      · obtain rfl : v1 = 0 := by omega
        obtain ⟨v2, e_v2⟩ : ∃ z : Int32, xs 2 = z := ⟨_, rfl⟩
        obtain ⟨v3, e_v3⟩ : ∃ z : Int32, xs 3 = z := ⟨_, rfl⟩
        obtain ⟨v4, e_v4⟩ : ∃ z : Int32, xs 4 = z := ⟨_, rfl⟩
        obtain ⟨v5, e_v5⟩ : ∃ z : Int32, xs 5 = z := ⟨_, rfl⟩
        refine lq_aload_n C (i := 1) rfl 3 rfl dL_law_2436 ?_
        refine lq_aload_n C (i := 0) rfl 4 rfl dL_law_2437 ?_
        refine lq_iload C 0 rfl dL_law_2438 ?_
        refine lq_iconst C (x := nI 1) rfl dL_law_2440 ?_
        refine lq_iadd C dL_law_2441 ?_
        refine lq_cast (.int (nI 1)) (congrArg Value.int (by decide)) ?_
        refine lq_sld C 1 (by decide) (by decide) dL_law_2442 ?_
        refine lq_cast (.int (nI 0)) (congrArg Value.int e_v1) ?_
        refine lq_aload_n C (i := 0) rfl 4 rfl dL_law_2443 ?_
        refine lq_iload C 0 rfl dL_law_2444 ?_
        refine lq_iconst C (x := nI 2) rfl dL_law_2446 ?_
        refine lq_iadd C dL_law_2447 ?_
        refine lq_cast (.int (nI 2)) (congrArg Value.int (by decide)) ?_
        refine lq_sld C 2 (by decide) (by decide) dL_law_2448 ?_
        refine lq_cast (.int v2) (congrArg Value.int e_v2) ?_
        refine lq_aload_n C (i := 3) rfl 1 rfl dL_law_2449 ?_
        refine lq_callW C (z336_L_least l hlt S dp x out v2 Fm_x Fk_x) lH_326 rfl rfl ⟨by decide, by decide⟩ ⟨Nat.le_of_ble_eq_true rfl, Nat.le_of_ble_eq_true rfl⟩ rfl (Nat.le_of_ble_eq_true rfl) dL_law_2450 (fun r_2450 u_2450 h_2450 => ?_)
        obtain ⟨hr_2450, hu_2450⟩ := h_2450
        have hw_2450 := hu_2450.symm
        subst hw_2450
        have hx_2450 := hr_2450.symm
        subst hx_2450
        refine lq_istore C (lv' := [(5, .int (nI 1)), (4, .int (nI 0)), (3, .ref out), (2, .ref (a 0)), (1, .ref x), (0, .ref b)]) (by decide) rfl dL_law_2453 ?_
        refine lq_aload_n C (i := 2) rfl 3 rfl dL_law_2455 ?_
        refine lq_aload_n C (i := 0) rfl 5 rfl dL_law_2456 ?_
        refine lq_iload C 1 rfl dL_law_2457 ?_
        refine lq_iconst C (x := nI 1) rfl dL_law_2459 ?_
        refine lq_iadd C dL_law_2460 ?_
        refine lq_cast (.int (nI 1)) (congrArg Value.int (by decide)) ?_
        refine lq_sld C 1 (by decide) (by decide) dL_law_2461 ?_
        refine lq_cast (.int (nI 0)) (congrArg Value.int e_v1) ?_
        refine lq_aload_n C (i := 0) rfl 5 rfl dL_law_2462 ?_
        refine lq_iload C 1 rfl dL_law_2463 ?_
        refine lq_iconst C (x := nI 2) rfl dL_law_2465 ?_
        refine lq_iadd C dL_law_2466 ?_
        refine lq_cast (.int (nI 2)) (congrArg Value.int (by decide)) ?_
        refine lq_sld C 2 (by decide) (by decide) dL_law_2467 ?_
        refine lq_cast (.int v2) (congrArg Value.int e_v2) ?_
        refine lq_doM C (w192_least l v f g v2 Mv_72) lM_328 rfl rfl ⟨by decide, by decide⟩ ⟨Nat.le_of_ble_eq_true rfl, Nat.le_of_ble_eq_true rfl⟩ rfl (Nat.le_of_ble_eq_true rfl) dL_law_2468 ?_
        refine lq_istore C (lv' := [(6, .int (nI 0)), (5, .int (nI 1)), (4, .int (nI 0)), (3, .ref out), (2, .ref (a 0)), (1, .ref x), (0, .ref b)]) (by decide) rfl dL_law_2471 ?_
        refine lq_aload_n C (i := 2) rfl 4 rfl dL_law_2473 ?_
        refine lq_doM C (w4_thrown l (upd v 99 (nI 1)) f g rfl) lM_192 rfl rfl ⟨by decide, by decide⟩ ⟨Nat.le_of_ble_eq_true rfl, Nat.le_of_ble_eq_true rfl⟩ rfl (Nat.le_of_ble_eq_true rfl) dL_law_2474 ?_
        refine lq_iload C 1 rfl dL_law_2477 ?_
        refine lq_icmp_eq C 2484 (by decide) dL_law_2479 (fun _ => ?_) (fun c_ => absurd (by decide) c_)
        refine lq_iload C 1 rfl dL_law_2484 ?_
        refine lq_if_ne C 2501 (by decide) dL_law_2486 (fun _ => ?_) (fun c_ => absurd c_ (by decide))
        refine lq_goto C 3491 (by decide) dL_law_2501 ?_
        exact lq_sub [2, 6] rfl (law_tail C (Nat.le_of_ble_eq_true rfl) (Nat.le_of_ble_eq_true rfl))
      · obtain rfl : v1 = 1 := by omega
        obtain ⟨v2, e_v2⟩ : ∃ z : Int32, xs 2 = z := ⟨_, rfl⟩
        obtain ⟨v3, e_v3⟩ : ∃ z : Int32, xs 3 = z := ⟨_, rfl⟩
        obtain ⟨v4, e_v4⟩ : ∃ z : Int32, xs 4 = z := ⟨_, rfl⟩
        obtain ⟨v5, e_v5⟩ : ∃ z : Int32, xs 5 = z := ⟨_, rfl⟩
        refine lq_aload_n C (i := 1) rfl 3 rfl dL_law_2436 ?_
        refine lq_aload_n C (i := 0) rfl 4 rfl dL_law_2437 ?_
        refine lq_iload C 0 rfl dL_law_2438 ?_
        refine lq_iconst C (x := nI 1) rfl dL_law_2440 ?_
        refine lq_iadd C dL_law_2441 ?_
        refine lq_cast (.int (nI 1)) (congrArg Value.int (by decide)) ?_
        refine lq_sld C 1 (by decide) (by decide) dL_law_2442 ?_
        refine lq_cast (.int (nI 1)) (congrArg Value.int e_v1) ?_
        refine lq_aload_n C (i := 0) rfl 4 rfl dL_law_2443 ?_
        refine lq_iload C 0 rfl dL_law_2444 ?_
        refine lq_iconst C (x := nI 2) rfl dL_law_2446 ?_
        refine lq_iadd C dL_law_2447 ?_
        refine lq_cast (.int (nI 2)) (congrArg Value.int (by decide)) ?_
        refine lq_sld C 2 (by decide) (by decide) dL_law_2448 ?_
        refine lq_cast (.int v2) (congrArg Value.int e_v2) ?_
        refine lq_aload_n C (i := 3) rfl 1 rfl dL_law_2449 ?_
        refine lq_callW C (z338_L_least l hlt S dp x out v2 Fm_x Fk_x) lH_326 rfl rfl ⟨by decide, by decide⟩ ⟨Nat.le_of_ble_eq_true rfl, Nat.le_of_ble_eq_true rfl⟩ rfl (Nat.le_of_ble_eq_true rfl) dL_law_2450 (fun r_2450 u_2450 h_2450 => ?_)
        obtain ⟨hr_2450, hu_2450⟩ := h_2450
        have hw_2450 := hu_2450.symm
        subst hw_2450
        have hx_2450 := hr_2450.symm
        subst hx_2450
        refine lq_istore C (lv' := [(5, .int (nI 1)), (4, .int (nI 0)), (3, .ref out), (2, .ref (a 0)), (1, .ref x), (0, .ref b)]) (by decide) rfl dL_law_2453 ?_
        refine lq_aload_n C (i := 2) rfl 3 rfl dL_law_2455 ?_
        refine lq_aload_n C (i := 0) rfl 5 rfl dL_law_2456 ?_
        refine lq_iload C 1 rfl dL_law_2457 ?_
        refine lq_iconst C (x := nI 1) rfl dL_law_2459 ?_
        refine lq_iadd C dL_law_2460 ?_
        refine lq_cast (.int (nI 1)) (congrArg Value.int (by decide)) ?_
        refine lq_sld C 1 (by decide) (by decide) dL_law_2461 ?_
        refine lq_cast (.int (nI 1)) (congrArg Value.int e_v1) ?_
        refine lq_aload_n C (i := 0) rfl 5 rfl dL_law_2462 ?_
        refine lq_iload C 1 rfl dL_law_2463 ?_
        refine lq_iconst C (x := nI 2) rfl dL_law_2465 ?_
        refine lq_iadd C dL_law_2466 ?_
        refine lq_cast (.int (nI 2)) (congrArg Value.int (by decide)) ?_
        refine lq_sld C 2 (by decide) (by decide) dL_law_2467 ?_
        refine lq_cast (.int v2) (congrArg Value.int e_v2) ?_
        refine lq_doM C (w195_least l v f g v2 Mv_72) lM_328 rfl rfl ⟨by decide, by decide⟩ ⟨Nat.le_of_ble_eq_true rfl, Nat.le_of_ble_eq_true rfl⟩ rfl (Nat.le_of_ble_eq_true rfl) dL_law_2468 ?_
        refine lq_istore C (lv' := [(6, .int (nI 0)), (5, .int (nI 1)), (4, .int (nI 0)), (3, .ref out), (2, .ref (a 0)), (1, .ref x), (0, .ref b)]) (by decide) rfl dL_law_2471 ?_
        refine lq_aload_n C (i := 2) rfl 4 rfl dL_law_2473 ?_
        refine lq_doM C (w4_thrown l (upd v 99 (nI 1)) f g rfl) lM_192 rfl rfl ⟨by decide, by decide⟩ ⟨Nat.le_of_ble_eq_true rfl, Nat.le_of_ble_eq_true rfl⟩ rfl (Nat.le_of_ble_eq_true rfl) dL_law_2474 ?_
        refine lq_iload C 1 rfl dL_law_2477 ?_
        refine lq_icmp_eq C 2484 (by decide) dL_law_2479 (fun _ => ?_) (fun c_ => absurd (by decide) c_)
        refine lq_iload C 1 rfl dL_law_2484 ?_
        refine lq_if_ne C 2501 (by decide) dL_law_2486 (fun _ => ?_) (fun c_ => absurd c_ (by decide))
        refine lq_goto C 3491 (by decide) dL_law_2501 ?_
        exact lq_sub [2, 6] rfl (law_tail C (Nat.le_of_ble_eq_true rfl) (Nat.le_of_ble_eq_true rfl))
    · rcases Nat.lt_or_ge v1 9 with hlt_v1 | hlt_v1
      · rcases c_sgn (xs 2) with hneg_v2 | ⟨v2, hr_v2, e_v2⟩
        · obtain ⟨v2, e_v2⟩ : ∃ z : Int32, xs 2 = z := ⟨_, rfl⟩
          rw [e_v2] at hneg_v2
          obtain ⟨v3, e_v3⟩ : ∃ z : Int32, xs 3 = z := ⟨_, rfl⟩
          obtain ⟨v4, e_v4⟩ : ∃ z : Int32, xs 4 = z := ⟨_, rfl⟩
          obtain ⟨v5, e_v5⟩ : ∃ z : Int32, xs 5 = z := ⟨_, rfl⟩
          refine lq_aload_n C (i := 1) rfl 3 rfl dL_law_2436 ?_
          refine lq_aload_n C (i := 0) rfl 4 rfl dL_law_2437 ?_
          refine lq_iload C 0 rfl dL_law_2438 ?_
          refine lq_iconst C (x := nI 1) rfl dL_law_2440 ?_
          refine lq_iadd C dL_law_2441 ?_
          refine lq_cast (.int (nI 1)) (congrArg Value.int (by decide)) ?_
          refine lq_sld C 1 (by decide) (by decide) dL_law_2442 ?_
          refine lq_cast (.int (nI v1)) (congrArg Value.int e_v1) ?_
          refine lq_aload_n C (i := 0) rfl 4 rfl dL_law_2443 ?_
          refine lq_iload C 0 rfl dL_law_2444 ?_
          refine lq_iconst C (x := nI 2) rfl dL_law_2446 ?_
          refine lq_iadd C dL_law_2447 ?_
          refine lq_cast (.int (nI 2)) (congrArg Value.int (by decide)) ?_
          refine lq_sld C 2 (by decide) (by decide) dL_law_2448 ?_
          refine lq_cast (.int v2) (congrArg Value.int e_v2) ?_
          refine lq_aload_n C (i := 3) rfl 1 rfl dL_law_2449 ?_
          refine lq_callW C (z340_L_least l hlt S dp x out v1 v2 (by omega) (by omega) hneg_v2 Fm_x Fk_x) lH_326 rfl rfl ⟨by decide, by decide⟩ ⟨Nat.le_of_ble_eq_true rfl, Nat.le_of_ble_eq_true rfl⟩ rfl (Nat.le_of_ble_eq_true rfl) dL_law_2450 (fun r_2450 u_2450 h_2450 => ?_)
          obtain ⟨hr_2450, hu_2450⟩ := h_2450
          have hw_2450 := hu_2450.symm
          subst hw_2450
          have hx_2450 := hr_2450.symm
          subst hx_2450
          refine lq_istore C (lv' := [(5, .int (nI 1)), (4, .int (nI 0)), (3, .ref out), (2, .ref (a 0)), (1, .ref x), (0, .ref b)]) (by decide) rfl dL_law_2453 ?_
          refine lq_aload_n C (i := 2) rfl 3 rfl dL_law_2455 ?_
          refine lq_aload_n C (i := 0) rfl 5 rfl dL_law_2456 ?_
          refine lq_iload C 1 rfl dL_law_2457 ?_
          refine lq_iconst C (x := nI 1) rfl dL_law_2459 ?_
          refine lq_iadd C dL_law_2460 ?_
          refine lq_cast (.int (nI 1)) (congrArg Value.int (by decide)) ?_
          refine lq_sld C 1 (by decide) (by decide) dL_law_2461 ?_
          refine lq_cast (.int (nI v1)) (congrArg Value.int e_v1) ?_
          refine lq_aload_n C (i := 0) rfl 5 rfl dL_law_2462 ?_
          refine lq_iload C 1 rfl dL_law_2463 ?_
          refine lq_iconst C (x := nI 2) rfl dL_law_2465 ?_
          refine lq_iadd C dL_law_2466 ?_
          refine lq_cast (.int (nI 2)) (congrArg Value.int (by decide)) ?_
          refine lq_sld C 2 (by decide) (by decide) dL_law_2467 ?_
          refine lq_cast (.int v2) (congrArg Value.int e_v2) ?_
          refine lq_doM C (w198_least l v f g v1 v2 (by omega) (by omega) hneg_v2 Mv_72) lM_328 rfl rfl ⟨by decide, by decide⟩ ⟨Nat.le_of_ble_eq_true rfl, Nat.le_of_ble_eq_true rfl⟩ rfl (Nat.le_of_ble_eq_true rfl) dL_law_2468 ?_
          refine lq_istore C (lv' := [(6, .int (nI 0)), (5, .int (nI 1)), (4, .int (nI 0)), (3, .ref out), (2, .ref (a 0)), (1, .ref x), (0, .ref b)]) (by decide) rfl dL_law_2471 ?_
          refine lq_aload_n C (i := 2) rfl 4 rfl dL_law_2473 ?_
          refine lq_doM C (w4_thrown l (upd v 99 (nI 1)) f g rfl) lM_192 rfl rfl ⟨by decide, by decide⟩ ⟨Nat.le_of_ble_eq_true rfl, Nat.le_of_ble_eq_true rfl⟩ rfl (Nat.le_of_ble_eq_true rfl) dL_law_2474 ?_
          refine lq_iload C 1 rfl dL_law_2477 ?_
          refine lq_icmp_eq C 2484 (by decide) dL_law_2479 (fun _ => ?_) (fun c_ => absurd (by decide) c_)
          refine lq_iload C 1 rfl dL_law_2484 ?_
          refine lq_if_ne C 2501 (by decide) dL_law_2486 (fun _ => ?_) (fun c_ => absurd c_ (by decide))
          refine lq_goto C 3491 (by decide) dL_law_2501 ?_
          exact lq_sub [2, 6] rfl (law_tail C (Nat.le_of_ble_eq_true rfl) (Nat.le_of_ble_eq_true rfl))
        · rcases Nat.lt_or_ge v2 1 with hlt_v2 | hlt_v2
          · obtain rfl : v2 = 0 := by omega
            obtain ⟨v3, e_v3⟩ : ∃ z : Int32, xs 3 = z := ⟨_, rfl⟩
            obtain ⟨v4, e_v4⟩ : ∃ z : Int32, xs 4 = z := ⟨_, rfl⟩
            obtain ⟨v5, e_v5⟩ : ∃ z : Int32, xs 5 = z := ⟨_, rfl⟩
            refine lq_aload_n C (i := 1) rfl 3 rfl dL_law_2436 ?_
            refine lq_aload_n C (i := 0) rfl 4 rfl dL_law_2437 ?_
            refine lq_iload C 0 rfl dL_law_2438 ?_
            refine lq_iconst C (x := nI 1) rfl dL_law_2440 ?_
            refine lq_iadd C dL_law_2441 ?_
            refine lq_cast (.int (nI 1)) (congrArg Value.int (by decide)) ?_
            refine lq_sld C 1 (by decide) (by decide) dL_law_2442 ?_
            refine lq_cast (.int (nI v1)) (congrArg Value.int e_v1) ?_
            refine lq_aload_n C (i := 0) rfl 4 rfl dL_law_2443 ?_
            refine lq_iload C 0 rfl dL_law_2444 ?_
            refine lq_iconst C (x := nI 2) rfl dL_law_2446 ?_
            refine lq_iadd C dL_law_2447 ?_
            refine lq_cast (.int (nI 2)) (congrArg Value.int (by decide)) ?_
            refine lq_sld C 2 (by decide) (by decide) dL_law_2448 ?_
            refine lq_cast (.int (nI 0)) (congrArg Value.int e_v2) ?_
            refine lq_aload_n C (i := 3) rfl 1 rfl dL_law_2449 ?_
            refine lq_callW C (z342_L_least l hlt S dp x out v1 (by omega) (by omega) Fm_x Fk_x) lH_326 rfl rfl ⟨by decide, by decide⟩ ⟨Nat.le_of_ble_eq_true rfl, Nat.le_of_ble_eq_true rfl⟩ rfl (Nat.le_of_ble_eq_true rfl) dL_law_2450 (fun r_2450 u_2450 h_2450 => ?_)
            obtain ⟨hr_2450, hu_2450⟩ := h_2450
            have hw_2450 := hu_2450.symm
            subst hw_2450
            have hx_2450 := hr_2450.symm
            subst hx_2450
            refine lq_istore C (lv' := [(5, .int (nI 1)), (4, .int (nI 0)), (3, .ref out), (2, .ref (a 0)), (1, .ref x), (0, .ref b)]) (by decide) rfl dL_law_2453 ?_
            refine lq_aload_n C (i := 2) rfl 3 rfl dL_law_2455 ?_
            refine lq_aload_n C (i := 0) rfl 5 rfl dL_law_2456 ?_
            refine lq_iload C 1 rfl dL_law_2457 ?_
            refine lq_iconst C (x := nI 1) rfl dL_law_2459 ?_
            refine lq_iadd C dL_law_2460 ?_
            refine lq_cast (.int (nI 1)) (congrArg Value.int (by decide)) ?_
            refine lq_sld C 1 (by decide) (by decide) dL_law_2461 ?_
            refine lq_cast (.int (nI v1)) (congrArg Value.int e_v1) ?_
            refine lq_aload_n C (i := 0) rfl 5 rfl dL_law_2462 ?_
            refine lq_iload C 1 rfl dL_law_2463 ?_
            refine lq_iconst C (x := nI 2) rfl dL_law_2465 ?_
            refine lq_iadd C dL_law_2466 ?_
            refine lq_cast (.int (nI 2)) (congrArg Value.int (by decide)) ?_
            refine lq_sld C 2 (by decide) (by decide) dL_law_2467 ?_
            refine lq_cast (.int (nI 0)) (congrArg Value.int e_v2) ?_
            refine lq_doM C (w200_least l v f g v1 (by omega) (by omega) Mv_72) lM_328 rfl rfl ⟨by decide, by decide⟩ ⟨Nat.le_of_ble_eq_true rfl, Nat.le_of_ble_eq_true rfl⟩ rfl (Nat.le_of_ble_eq_true rfl) dL_law_2468 ?_
            refine lq_istore C (lv' := [(6, .int (nI 0)), (5, .int (nI 1)), (4, .int (nI 0)), (3, .ref out), (2, .ref (a 0)), (1, .ref x), (0, .ref b)]) (by decide) rfl dL_law_2471 ?_
            refine lq_aload_n C (i := 2) rfl 4 rfl dL_law_2473 ?_
            refine lq_doM C (w4_thrown l (upd v 99 (nI 1)) f g rfl) lM_192 rfl rfl ⟨by decide, by decide⟩ ⟨Nat.le_of_ble_eq_true rfl, Nat.le_of_ble_eq_true rfl⟩ rfl (Nat.le_of_ble_eq_true rfl) dL_law_2474 ?_
            refine lq_iload C 1 rfl dL_law_2477 ?_
            refine lq_icmp_eq C 2484 (by decide) dL_law_2479 (fun _ => ?_) (fun c_ => absurd (by decide) c_)
            refine lq_iload C 1 rfl dL_law_2484 ?_
            refine lq_if_ne C 2501 (by decide) dL_law_2486 (fun _ => ?_) (fun c_ => absurd c_ (by decide))
            refine lq_goto C 3491 (by decide) dL_law_2501 ?_
            exact lq_sub [2, 6] rfl (law_tail C (Nat.le_of_ble_eq_true rfl) (Nat.le_of_ble_eq_true rfl))
          · rcases Nat.lt_or_ge v1 v2 with hrel_v2_v1 | hrel_v2_v1
            · obtain ⟨v3, e_v3⟩ : ∃ z : Int32, xs 3 = z := ⟨_, rfl⟩
              obtain ⟨v4, e_v4⟩ : ∃ z : Int32, xs 4 = z := ⟨_, rfl⟩
              obtain ⟨v5, e_v5⟩ : ∃ z : Int32, xs 5 = z := ⟨_, rfl⟩
              refine lq_aload_n C (i := 1) rfl 3 rfl dL_law_2436 ?_
              refine lq_aload_n C (i := 0) rfl 4 rfl dL_law_2437 ?_
              refine lq_iload C 0 rfl dL_law_2438 ?_
              refine lq_iconst C (x := nI 1) rfl dL_law_2440 ?_
              refine lq_iadd C dL_law_2441 ?_
              refine lq_cast (.int (nI 1)) (congrArg Value.int (by decide)) ?_
              refine lq_sld C 1 (by decide) (by decide) dL_law_2442 ?_
              refine lq_cast (.int (nI v1)) (congrArg Value.int e_v1) ?_
              refine lq_aload_n C (i := 0) rfl 4 rfl dL_law_2443 ?_
              refine lq_iload C 0 rfl dL_law_2444 ?_
              refine lq_iconst C (x := nI 2) rfl dL_law_2446 ?_
              refine lq_iadd C dL_law_2447 ?_
              refine lq_cast (.int (nI 2)) (congrArg Value.int (by decide)) ?_
              refine lq_sld C 2 (by decide) (by decide) dL_law_2448 ?_
              refine lq_cast (.int (nI v2)) (congrArg Value.int e_v2) ?_
              refine lq_aload_n C (i := 3) rfl 1 rfl dL_law_2449 ?_
              refine lq_callW C (z344_L_least l hlt S dp x out v1 v2 (by omega) (by omega) (by omega) (by omega) hrel_v2_v1 Fm_x Fk_x) lH_326 rfl rfl ⟨by decide, by decide⟩ ⟨Nat.le_of_ble_eq_true rfl, Nat.le_of_ble_eq_true rfl⟩ rfl (Nat.le_of_ble_eq_true rfl) dL_law_2450 (fun r_2450 u_2450 h_2450 => ?_)
              obtain ⟨hr_2450, hu_2450⟩ := h_2450
              have hw_2450 := hu_2450.symm
              subst hw_2450
              have hx_2450 := hr_2450.symm
              subst hx_2450
              refine lq_istore C (lv' := [(5, .int (nI 1)), (4, .int (nI 0)), (3, .ref out), (2, .ref (a 0)), (1, .ref x), (0, .ref b)]) (by decide) rfl dL_law_2453 ?_
              refine lq_aload_n C (i := 2) rfl 3 rfl dL_law_2455 ?_
              refine lq_aload_n C (i := 0) rfl 5 rfl dL_law_2456 ?_
              refine lq_iload C 1 rfl dL_law_2457 ?_
              refine lq_iconst C (x := nI 1) rfl dL_law_2459 ?_
              refine lq_iadd C dL_law_2460 ?_
              refine lq_cast (.int (nI 1)) (congrArg Value.int (by decide)) ?_
              refine lq_sld C 1 (by decide) (by decide) dL_law_2461 ?_
              refine lq_cast (.int (nI v1)) (congrArg Value.int e_v1) ?_
              refine lq_aload_n C (i := 0) rfl 5 rfl dL_law_2462 ?_
              refine lq_iload C 1 rfl dL_law_2463 ?_
              refine lq_iconst C (x := nI 2) rfl dL_law_2465 ?_
              refine lq_iadd C dL_law_2466 ?_
              refine lq_cast (.int (nI 2)) (congrArg Value.int (by decide)) ?_
              refine lq_sld C 2 (by decide) (by decide) dL_law_2467 ?_
              refine lq_cast (.int (nI v2)) (congrArg Value.int e_v2) ?_
              refine lq_doM C (w202_least l v f g v1 v2 (by omega) (by omega) (by omega) (by omega) hrel_v2_v1 Mv_72) lM_328 rfl rfl ⟨by decide, by decide⟩ ⟨Nat.le_of_ble_eq_true rfl, Nat.le_of_ble_eq_true rfl⟩ rfl (Nat.le_of_ble_eq_true rfl) dL_law_2468 ?_
              refine lq_istore C (lv' := [(6, .int (nI 0)), (5, .int (nI 1)), (4, .int (nI 0)), (3, .ref out), (2, .ref (a 0)), (1, .ref x), (0, .ref b)]) (by decide) rfl dL_law_2471 ?_
              refine lq_aload_n C (i := 2) rfl 4 rfl dL_law_2473 ?_
              refine lq_doM C (w4_thrown l (upd v 99 (nI 1)) f g rfl) lM_192 rfl rfl ⟨by decide, by decide⟩ ⟨Nat.le_of_ble_eq_true rfl, Nat.le_of_ble_eq_true rfl⟩ rfl (Nat.le_of_ble_eq_true rfl) dL_law_2474 ?_
              refine lq_iload C 1 rfl dL_law_2477 ?_
              refine lq_icmp_eq C 2484 (by decide) dL_law_2479 (fun _ => ?_) (fun c_ => absurd (by decide) c_)
              refine lq_iload C 1 rfl dL_law_2484 ?_
              refine lq_if_ne C 2501 (by decide) dL_law_2486 (fun _ => ?_) (fun c_ => absurd c_ (by decide))
              refine lq_goto C 3491 (by decide) dL_law_2501 ?_
              exact lq_sub [2, 6] rfl (law_tail C (Nat.le_of_ble_eq_true rfl) (Nat.le_of_ble_eq_true rfl))
            · obtain ⟨v3, e_v3⟩ : ∃ z : Int32, xs 3 = z := ⟨_, rfl⟩
              obtain ⟨v4, e_v4⟩ : ∃ z : Int32, xs 4 = z := ⟨_, rfl⟩
              obtain ⟨v5, e_v5⟩ : ∃ z : Int32, xs 5 = z := ⟨_, rfl⟩
              refine lq_aload_n C (i := 1) rfl 3 rfl dL_law_2436 ?_
              refine lq_aload_n C (i := 0) rfl 4 rfl dL_law_2437 ?_
              refine lq_iload C 0 rfl dL_law_2438 ?_
              refine lq_iconst C (x := nI 1) rfl dL_law_2440 ?_
              refine lq_iadd C dL_law_2441 ?_
              refine lq_cast (.int (nI 1)) (congrArg Value.int (by decide)) ?_
              refine lq_sld C 1 (by decide) (by decide) dL_law_2442 ?_
              refine lq_cast (.int (nI v1)) (congrArg Value.int e_v1) ?_
              refine lq_aload_n C (i := 0) rfl 4 rfl dL_law_2443 ?_
              refine lq_iload C 0 rfl dL_law_2444 ?_
              refine lq_iconst C (x := nI 2) rfl dL_law_2446 ?_
              refine lq_iadd C dL_law_2447 ?_
              refine lq_cast (.int (nI 2)) (congrArg Value.int (by decide)) ?_
              refine lq_sld C 2 (by decide) (by decide) dL_law_2448 ?_
              refine lq_cast (.int (nI v2)) (congrArg Value.int e_v2) ?_
              refine lq_aload_n C (i := 3) rfl 1 rfl dL_law_2449 ?_
              refine lq_callW C (z347_L_least l hlt S dp x out q23 v1 v2 (by omega) (by omega) (by omega) (by omega) hrel_v2_v1 Fr_362_x Fk_x Fm_x Fi_195_q23 Fk_q23 Fm_q23) lH_326 rfl rfl ⟨by decide, by decide⟩ ⟨Nat.le_of_ble_eq_true rfl, Nat.le_of_ble_eq_true rfl⟩ rfl (Nat.le_of_ble_eq_true rfl) dL_law_2450 (fun r_2450 u_2450 h_2450 => ?_)
              obtain ⟨hr_2450, hu_2450⟩ := h_2450
              have hw_2450 := hu_2450.symm
              subst hw_2450
              have hx_2450 := hr_2450.symm
              subst hx_2450
              refine lq_istore C (lv' := [(5, .int (nI 2)), (4, .int (nI 0)), (3, .ref out), (2, .ref (a 0)), (1, .ref x), (0, .ref b)]) (by decide) rfl dL_law_2453 ?_
              refine lq_aload_n C (i := 2) rfl 3 rfl dL_law_2455 ?_
              refine lq_aload_n C (i := 0) rfl 5 rfl dL_law_2456 ?_
              refine lq_iload C 1 rfl dL_law_2457 ?_
              refine lq_iconst C (x := nI 1) rfl dL_law_2459 ?_
              refine lq_iadd C dL_law_2460 ?_
              refine lq_cast (.int (nI 1)) (congrArg Value.int (by decide)) ?_
              refine lq_sld C 1 (by decide) (by decide) dL_law_2461 ?_
              refine lq_cast (.int (nI v1)) (congrArg Value.int e_v1) ?_
              refine lq_aload_n C (i := 0) rfl 5 rfl dL_law_2462 ?_
              refine lq_iload C 1 rfl dL_law_2463 ?_
              refine lq_iconst C (x := nI 2) rfl dL_law_2465 ?_
              refine lq_iadd C dL_law_2466 ?_
              refine lq_cast (.int (nI 2)) (congrArg Value.int (by decide)) ?_
              refine lq_sld C 2 (by decide) (by decide) dL_law_2467 ?_
              refine lq_cast (.int (nI v2)) (congrArg Value.int e_v2) ?_
              refine lq_doM C (w205_least l v f g v1 v2 (by omega) (by omega) (by omega) (by omega) hrel_v2_v1 Mv_72) lM_328 rfl rfl ⟨by decide, by decide⟩ ⟨Nat.le_of_ble_eq_true rfl, Nat.le_of_ble_eq_true rfl⟩ rfl (Nat.le_of_ble_eq_true rfl) dL_law_2468 ?_
              refine lq_istore C (lv' := [(6, .int (nI 0)), (5, .int (nI 2)), (4, .int (nI 0)), (3, .ref out), (2, .ref (a 0)), (1, .ref x), (0, .ref b)]) (by decide) rfl dL_law_2471 ?_
              refine lq_aload_n C (i := 2) rfl 4 rfl dL_law_2473 ?_
              refine lq_doM C (w116_thrown l (upd v 99 (nI 2)) f g rfl) lM_192 rfl rfl ⟨by decide, by decide⟩ ⟨Nat.le_of_ble_eq_true rfl, Nat.le_of_ble_eq_true rfl⟩ rfl (Nat.le_of_ble_eq_true rfl) dL_law_2474 ?_
              refine lq_iload C 1 rfl dL_law_2477 ?_
              refine lq_icmp_eq C 2484 (by decide) dL_law_2479 (fun _ => ?_) (fun c_ => absurd (by decide) c_)
              refine lq_iload C 1 rfl dL_law_2484 ?_
              refine lq_if_ne C 2501 (by decide) dL_law_2486 (fun _ => ?_) (fun c_ => absurd c_ (by decide))
              refine lq_goto C 3491 (by decide) dL_law_2501 ?_
              exact lq_sub [2, 6] rfl (law_tail C (Nat.le_of_ble_eq_true rfl) (Nat.le_of_ble_eq_true rfl))
      · obtain ⟨v2, e_v2⟩ : ∃ z : Int32, xs 2 = z := ⟨_, rfl⟩
        obtain ⟨v3, e_v3⟩ : ∃ z : Int32, xs 3 = z := ⟨_, rfl⟩
        obtain ⟨v4, e_v4⟩ : ∃ z : Int32, xs 4 = z := ⟨_, rfl⟩
        obtain ⟨v5, e_v5⟩ : ∃ z : Int32, xs 5 = z := ⟨_, rfl⟩
        refine lq_aload_n C (i := 1) rfl 3 rfl dL_law_2436 ?_
        refine lq_aload_n C (i := 0) rfl 4 rfl dL_law_2437 ?_
        refine lq_iload C 0 rfl dL_law_2438 ?_
        refine lq_iconst C (x := nI 1) rfl dL_law_2440 ?_
        refine lq_iadd C dL_law_2441 ?_
        refine lq_cast (.int (nI 1)) (congrArg Value.int (by decide)) ?_
        refine lq_sld C 1 (by decide) (by decide) dL_law_2442 ?_
        refine lq_cast (.int (nI v1)) (congrArg Value.int e_v1) ?_
        refine lq_aload_n C (i := 0) rfl 4 rfl dL_law_2443 ?_
        refine lq_iload C 0 rfl dL_law_2444 ?_
        refine lq_iconst C (x := nI 2) rfl dL_law_2446 ?_
        refine lq_iadd C dL_law_2447 ?_
        refine lq_cast (.int (nI 2)) (congrArg Value.int (by decide)) ?_
        refine lq_sld C 2 (by decide) (by decide) dL_law_2448 ?_
        refine lq_cast (.int v2) (congrArg Value.int e_v2) ?_
        refine lq_aload_n C (i := 3) rfl 1 rfl dL_law_2449 ?_
        refine lq_callW C (z349_L_least l hlt S dp x out v1 v2 (by omega) (by omega) Fm_x Fk_x) lH_326 rfl rfl ⟨by decide, by decide⟩ ⟨Nat.le_of_ble_eq_true rfl, Nat.le_of_ble_eq_true rfl⟩ rfl (Nat.le_of_ble_eq_true rfl) dL_law_2450 (fun r_2450 u_2450 h_2450 => ?_)
        obtain ⟨hr_2450, hu_2450⟩ := h_2450
        have hw_2450 := hu_2450.symm
        subst hw_2450
        have hx_2450 := hr_2450.symm
        subst hx_2450
        refine lq_istore C (lv' := [(5, .int (nI 1)), (4, .int (nI 0)), (3, .ref out), (2, .ref (a 0)), (1, .ref x), (0, .ref b)]) (by decide) rfl dL_law_2453 ?_
        refine lq_aload_n C (i := 2) rfl 3 rfl dL_law_2455 ?_
        refine lq_aload_n C (i := 0) rfl 5 rfl dL_law_2456 ?_
        refine lq_iload C 1 rfl dL_law_2457 ?_
        refine lq_iconst C (x := nI 1) rfl dL_law_2459 ?_
        refine lq_iadd C dL_law_2460 ?_
        refine lq_cast (.int (nI 1)) (congrArg Value.int (by decide)) ?_
        refine lq_sld C 1 (by decide) (by decide) dL_law_2461 ?_
        refine lq_cast (.int (nI v1)) (congrArg Value.int e_v1) ?_
        refine lq_aload_n C (i := 0) rfl 5 rfl dL_law_2462 ?_
        refine lq_iload C 1 rfl dL_law_2463 ?_
        refine lq_iconst C (x := nI 2) rfl dL_law_2465 ?_
        refine lq_iadd C dL_law_2466 ?_
        refine lq_cast (.int (nI 2)) (congrArg Value.int (by decide)) ?_
        refine lq_sld C 2 (by decide) (by decide) dL_law_2467 ?_
        refine lq_cast (.int v2) (congrArg Value.int e_v2) ?_
        refine lq_doM C (w207_least l v f g v1 v2 (by omega) (by omega) Mv_72) lM_328 rfl rfl ⟨by decide, by decide⟩ ⟨Nat.le_of_ble_eq_true rfl, Nat.le_of_ble_eq_true rfl⟩ rfl (Nat.le_of_ble_eq_true rfl) dL_law_2468 ?_
        refine lq_istore C (lv' := [(6, .int (nI 0)), (5, .int (nI 1)), (4, .int (nI 0)), (3, .ref out), (2, .ref (a 0)), (1, .ref x), (0, .ref b)]) (by decide) rfl dL_law_2471 ?_
        refine lq_aload_n C (i := 2) rfl 4 rfl dL_law_2473 ?_
        refine lq_doM C (w4_thrown l (upd v 99 (nI 1)) f g rfl) lM_192 rfl rfl ⟨by decide, by decide⟩ ⟨Nat.le_of_ble_eq_true rfl, Nat.le_of_ble_eq_true rfl⟩ rfl (Nat.le_of_ble_eq_true rfl) dL_law_2474 ?_
        refine lq_iload C 1 rfl dL_law_2477 ?_
        refine lq_icmp_eq C 2484 (by decide) dL_law_2479 (fun _ => ?_) (fun c_ => absurd (by decide) c_)
        refine lq_iload C 1 rfl dL_law_2484 ?_
        refine lq_if_ne C 2501 (by decide) dL_law_2486 (fun _ => ?_) (fun c_ => absurd c_ (by decide))
        refine lq_goto C 3491 (by decide) dL_law_2501 ?_
        exact lq_sub [2, 6] rfl (law_tail C (Nat.le_of_ble_eq_true rfl) (Nat.le_of_ble_eq_true rfl))
set_option maxHeartbeats 8000000 in
set_option maxRecDepth 100000 in
theorem law_case41 (C : lC p l s m meth c b 6 xs D Y tp dp) {S : cS} {a : Nat → Nat} {v : Nat → Int32} {f : Nat → Nat → Int32} {g : Nat → Nat → Int64} {x out q1 q2 q3 q10 q11 q15 q19 q20 q21 q22 q23 q29 q30 q37 : Nat} (F : cFr S dp x out q1 q2 q3 q10 q11 q15 q19 q20 q21 q22 q23 q29 q30 q37) (M : mFr v f g) : lG p l e s m below meth c b D Y 174 409927 2504 [(4, .int (nI 0)), (3, .ref out), (2, .ref (a 0)), (1, .ref x), (0, .ref b)] [] S a v f g := by
  have hlt := C.2.2.2.2.2.2.2.2.2.2.1
  obtain ⟨FeI_q30_0, FeI_q30_1, Fi_195_q23, Fi_289_q11, Fi_289_q15, Fi_289_q2, Fi_33_q37, Fi_361_x, Fi_366_x, Fi_368_x, Fi_369_x, Fi_36_q37, Fi_370_x, Fi_37_q37, Fi_384_q19, Fi_384_q22, Fi_386_q19, Fi_386_q21, Fi_386_q22, Fk_out, Fk_q1, Fk_q10, Fk_q11, Fk_q15, Fk_q19, Fk_q2, Fk_q20, Fk_q21, Fk_q22, Fk_q23, Fk_q29, Fk_q3, Fk_q30, Fk_q37, Fk_x, Fm_out, Fm_q1, Fm_q10, Fm_q11, Fm_q15, Fm_q19, Fm_q2, Fm_q20, Fm_q21, Fm_q22, Fm_q23, Fm_q29, Fm_q3, Fm_q30, Fm_q37, Fm_x, Fn_out, Fn_q3, Fn_q30, Fr_224_q29, Fr_288_q2, Fr_321_q20, Fr_352_x, Fr_353_x, Fr_354_x, Fr_355_x, Fr_356_x, Fr_358_x, Fr_359_x, Fr_360_x, Fr_362_x, Fr_364_x, Fr_365_x, Fr_385_q19, Fr_385_q22, Fr_3_q10, Fr_4_q10, Fr_96_q1⟩ := F
  obtain ⟨Mall_21, Mall_22, Mf_29_0, Mf_29_1, Mf_29_2, Mf_29_3, Mf_29_4, Mf_49_0, Mf_49_1, Mf_8_0, Mf_8_1, Mg_7_0, Mg_7_1, Mg_7_10, Mg_7_11, Mg_7_12, Mg_7_13, Mg_7_14, Mg_7_15, Mg_7_16, Mg_7_17, Mg_7_18, Mg_7_19, Mg_7_2, Mg_7_20, Mg_7_21, Mg_7_22, Mg_7_23, Mg_7_24, Mg_7_25, Mg_7_26, Mg_7_27, Mg_7_28, Mg_7_29, Mg_7_3, Mg_7_30, Mg_7_31, Mg_7_32, Mg_7_33, Mg_7_34, Mg_7_35, Mg_7_36, Mg_7_37, Mg_7_38, Mg_7_39, Mg_7_4, Mg_7_5, Mg_7_6, Mg_7_7, Mg_7_8, Mg_7_9, Mv_13, Mv_14, Mv_2, Mv_20, Mv_29, Mv_34, Mv_35, Mv_40, Mv_48, Mv_49, Mv_72, Mv_88, Mv_89, Mv_90, Mv_96, Mv_97, Mv_98⟩ := M
  obtain ⟨v1, e_v1⟩ : ∃ z : Int32, xs 1 = z := ⟨_, rfl⟩
  obtain ⟨v2, e_v2⟩ : ∃ z : Int32, xs 2 = z := ⟨_, rfl⟩
  obtain ⟨v3, e_v3⟩ : ∃ z : Int32, xs 3 = z := ⟨_, rfl⟩
  obtain ⟨v4, e_v4⟩ : ∃ z : Int32, xs 4 = z := ⟨_, rfl⟩
  obtain ⟨v5, e_v5⟩ : ∃ z : Int32, xs 5 = z := ⟨_, rfl⟩
  refine lq_aload_n C (i := 1) rfl 3 rfl dL_law_2504 ?_
  refine lq_aload_n C (i := 3) rfl 1 rfl dL_law_2505 ?_
  refine lq_callW C (z352_L_but l hlt S dp x out q23 Fr_362_x Fk_x Fm_x Fi_195_q23 Fk_q23 Fm_q23) lH_329 rfl rfl ⟨by decide, by decide⟩ ⟨Nat.le_of_ble_eq_true rfl, Nat.le_of_ble_eq_true rfl⟩ rfl (Nat.le_of_ble_eq_true rfl) dL_law_2506 (fun r_2506 u_2506 h_2506 => ?_)
  obtain ⟨hr_2506, hu_2506⟩ := h_2506
  have hw_2506 := hu_2506.symm
  subst hw_2506
  have hx_2506 := hr_2506.symm
  subst hx_2506
  refine lq_istore C (lv' := [(5, .int (nI 1)), (4, .int (nI 0)), (3, .ref out), (2, .ref (a 0)), (1, .ref x), (0, .ref b)]) (by decide) rfl dL_law_2509 ?_
  refine lq_aload_n C (i := 2) rfl 3 rfl dL_law_2511 ?_
  refine lq_doM C (w208_but l v f g Mv_72) lM_331 rfl rfl ⟨by decide, by decide⟩ ⟨Nat.le_of_ble_eq_true rfl, Nat.le_of_ble_eq_true rfl⟩ rfl (Nat.le_of_ble_eq_true rfl) dL_law_2512 ?_
  refine lq_istore C (lv' := [(6, .int (nI 0)), (5, .int (nI 1)), (4, .int (nI 0)), (3, .ref out), (2, .ref (a 0)), (1, .ref x), (0, .ref b)]) (by decide) rfl dL_law_2515 ?_
  refine lq_aload_n C (i := 2) rfl 4 rfl dL_law_2517 ?_
  refine lq_doM C (w4_thrown l (upd v 99 (nI 1)) f g rfl) lM_192 rfl rfl ⟨by decide, by decide⟩ ⟨Nat.le_of_ble_eq_true rfl, Nat.le_of_ble_eq_true rfl⟩ rfl (Nat.le_of_ble_eq_true rfl) dL_law_2518 ?_
  refine lq_iload C 1 rfl dL_law_2521 ?_
  refine lq_icmp_eq C 2528 (by decide) dL_law_2523 (fun _ => ?_) (fun c_ => absurd (by decide) c_)
  refine lq_iload C 1 rfl dL_law_2528 ?_
  refine lq_if_ne C 2545 (by decide) dL_law_2530 (fun _ => ?_) (fun c_ => absurd c_ (by decide))
  refine lq_goto C 3491 (by decide) dL_law_2545 ?_
  exact lq_sub [2, 6] rfl (law_tail C (Nat.le_of_ble_eq_true rfl) (Nat.le_of_ble_eq_true rfl))
set_option maxHeartbeats 8000000 in
set_option maxRecDepth 100000 in
theorem law_case42 (C : lC p l s m meth c b 6 xs D Y tp dp) {S : cS} {a : Nat → Nat} {v : Nat → Int32} {f : Nat → Nat → Int32} {g : Nat → Nat → Int64} {x out q1 q2 q3 q10 q11 q15 q19 q20 q21 q22 q23 q29 q30 q37 : Nat} (F : cFr S dp x out q1 q2 q3 q10 q11 q15 q19 q20 q21 q22 q23 q29 q30 q37) (M : mFr v f g) : lG p l e s m below meth c b D Y 174 409927 2548 [(4, .int (nI 0)), (3, .ref out), (2, .ref (a 0)), (1, .ref x), (0, .ref b)] [] S a v f g := by
  have hlt := C.2.2.2.2.2.2.2.2.2.2.1
  obtain ⟨FeI_q30_0, FeI_q30_1, Fi_195_q23, Fi_289_q11, Fi_289_q15, Fi_289_q2, Fi_33_q37, Fi_361_x, Fi_366_x, Fi_368_x, Fi_369_x, Fi_36_q37, Fi_370_x, Fi_37_q37, Fi_384_q19, Fi_384_q22, Fi_386_q19, Fi_386_q21, Fi_386_q22, Fk_out, Fk_q1, Fk_q10, Fk_q11, Fk_q15, Fk_q19, Fk_q2, Fk_q20, Fk_q21, Fk_q22, Fk_q23, Fk_q29, Fk_q3, Fk_q30, Fk_q37, Fk_x, Fm_out, Fm_q1, Fm_q10, Fm_q11, Fm_q15, Fm_q19, Fm_q2, Fm_q20, Fm_q21, Fm_q22, Fm_q23, Fm_q29, Fm_q3, Fm_q30, Fm_q37, Fm_x, Fn_out, Fn_q3, Fn_q30, Fr_224_q29, Fr_288_q2, Fr_321_q20, Fr_352_x, Fr_353_x, Fr_354_x, Fr_355_x, Fr_356_x, Fr_358_x, Fr_359_x, Fr_360_x, Fr_362_x, Fr_364_x, Fr_365_x, Fr_385_q19, Fr_385_q22, Fr_3_q10, Fr_4_q10, Fr_96_q1⟩ := F
  obtain ⟨Mall_21, Mall_22, Mf_29_0, Mf_29_1, Mf_29_2, Mf_29_3, Mf_29_4, Mf_49_0, Mf_49_1, Mf_8_0, Mf_8_1, Mg_7_0, Mg_7_1, Mg_7_10, Mg_7_11, Mg_7_12, Mg_7_13, Mg_7_14, Mg_7_15, Mg_7_16, Mg_7_17, Mg_7_18, Mg_7_19, Mg_7_2, Mg_7_20, Mg_7_21, Mg_7_22, Mg_7_23, Mg_7_24, Mg_7_25, Mg_7_26, Mg_7_27, Mg_7_28, Mg_7_29, Mg_7_3, Mg_7_30, Mg_7_31, Mg_7_32, Mg_7_33, Mg_7_34, Mg_7_35, Mg_7_36, Mg_7_37, Mg_7_38, Mg_7_39, Mg_7_4, Mg_7_5, Mg_7_6, Mg_7_7, Mg_7_8, Mg_7_9, Mv_13, Mv_14, Mv_2, Mv_20, Mv_29, Mv_34, Mv_35, Mv_40, Mv_48, Mv_49, Mv_72, Mv_88, Mv_89, Mv_90, Mv_96, Mv_97, Mv_98⟩ := M
  obtain ⟨v1, e_v1⟩ : ∃ z : Int32, xs 1 = z := ⟨_, rfl⟩
  obtain ⟨v2, e_v2⟩ : ∃ z : Int32, xs 2 = z := ⟨_, rfl⟩
  obtain ⟨v3, e_v3⟩ : ∃ z : Int32, xs 3 = z := ⟨_, rfl⟩
  obtain ⟨v4, e_v4⟩ : ∃ z : Int32, xs 4 = z := ⟨_, rfl⟩
  obtain ⟨v5, e_v5⟩ : ∃ z : Int32, xs 5 = z := ⟨_, rfl⟩
  refine lq_aload_n C (i := 1) rfl 3 rfl dL_law_2548 ?_
  refine lq_aload_n C (i := 3) rfl 1 rfl dL_law_2549 ?_
  refine lq_callW C (z354_L_query l hlt S dp x out q23 Fr_362_x Fk_x Fm_x Fi_195_q23 Fk_q23 Fm_q23) lH_332 rfl rfl ⟨by decide, by decide⟩ ⟨Nat.le_of_ble_eq_true rfl, Nat.le_of_ble_eq_true rfl⟩ rfl (Nat.le_of_ble_eq_true rfl) dL_law_2550 (fun r_2550 u_2550 h_2550 => ?_)
  obtain ⟨hr_2550, hu_2550⟩ := h_2550
  have hw_2550 := hu_2550.symm
  subst hw_2550
  have hx_2550 := hr_2550.symm
  subst hx_2550
  refine lq_istore C (lv' := [(5, .int (nI 1)), (4, .int (nI 0)), (3, .ref out), (2, .ref (a 0)), (1, .ref x), (0, .ref b)]) (by decide) rfl dL_law_2553 ?_
  refine lq_aload_n C (i := 2) rfl 3 rfl dL_law_2555 ?_
  refine lq_doM C (w209_query l v f g Mv_72) lM_334 rfl rfl ⟨by decide, by decide⟩ ⟨Nat.le_of_ble_eq_true rfl, Nat.le_of_ble_eq_true rfl⟩ rfl (Nat.le_of_ble_eq_true rfl) dL_law_2556 ?_
  refine lq_istore C (lv' := [(6, .int (nI 0)), (5, .int (nI 1)), (4, .int (nI 0)), (3, .ref out), (2, .ref (a 0)), (1, .ref x), (0, .ref b)]) (by decide) rfl dL_law_2559 ?_
  refine lq_aload_n C (i := 2) rfl 4 rfl dL_law_2561 ?_
  refine lq_doM C (w4_thrown l (upd v 99 (nI 1)) f g rfl) lM_192 rfl rfl ⟨by decide, by decide⟩ ⟨Nat.le_of_ble_eq_true rfl, Nat.le_of_ble_eq_true rfl⟩ rfl (Nat.le_of_ble_eq_true rfl) dL_law_2562 ?_
  refine lq_iload C 1 rfl dL_law_2565 ?_
  refine lq_icmp_eq C 2572 (by decide) dL_law_2567 (fun _ => ?_) (fun c_ => absurd (by decide) c_)
  refine lq_iload C 1 rfl dL_law_2572 ?_
  refine lq_if_ne C 2589 (by decide) dL_law_2574 (fun _ => ?_) (fun c_ => absurd c_ (by decide))
  refine lq_goto C 3491 (by decide) dL_law_2589 ?_
  exact lq_sub [2, 6] rfl (law_tail C (Nat.le_of_ble_eq_true rfl) (Nat.le_of_ble_eq_true rfl))
set_option maxHeartbeats 8000000 in
set_option maxRecDepth 100000 in
theorem law_case43 (C : lC p l s m meth c b 6 xs D Y tp dp) {S : cS} {a : Nat → Nat} {v : Nat → Int32} {f : Nat → Nat → Int32} {g : Nat → Nat → Int64} {x out q1 q2 q3 q10 q11 q15 q19 q20 q21 q22 q23 q29 q30 q37 : Nat} (F : cFr S dp x out q1 q2 q3 q10 q11 q15 q19 q20 q21 q22 q23 q29 q30 q37) (M : mFr v f g) : lG p l e s m below meth c b D Y 174 409927 2592 [(4, .int (nI 0)), (3, .ref out), (2, .ref (a 0)), (1, .ref x), (0, .ref b)] [] S a v f g := by
  have hlt := C.2.2.2.2.2.2.2.2.2.2.1
  obtain ⟨FeI_q30_0, FeI_q30_1, Fi_195_q23, Fi_289_q11, Fi_289_q15, Fi_289_q2, Fi_33_q37, Fi_361_x, Fi_366_x, Fi_368_x, Fi_369_x, Fi_36_q37, Fi_370_x, Fi_37_q37, Fi_384_q19, Fi_384_q22, Fi_386_q19, Fi_386_q21, Fi_386_q22, Fk_out, Fk_q1, Fk_q10, Fk_q11, Fk_q15, Fk_q19, Fk_q2, Fk_q20, Fk_q21, Fk_q22, Fk_q23, Fk_q29, Fk_q3, Fk_q30, Fk_q37, Fk_x, Fm_out, Fm_q1, Fm_q10, Fm_q11, Fm_q15, Fm_q19, Fm_q2, Fm_q20, Fm_q21, Fm_q22, Fm_q23, Fm_q29, Fm_q3, Fm_q30, Fm_q37, Fm_x, Fn_out, Fn_q3, Fn_q30, Fr_224_q29, Fr_288_q2, Fr_321_q20, Fr_352_x, Fr_353_x, Fr_354_x, Fr_355_x, Fr_356_x, Fr_358_x, Fr_359_x, Fr_360_x, Fr_362_x, Fr_364_x, Fr_365_x, Fr_385_q19, Fr_385_q22, Fr_3_q10, Fr_4_q10, Fr_96_q1⟩ := F
  obtain ⟨Mall_21, Mall_22, Mf_29_0, Mf_29_1, Mf_29_2, Mf_29_3, Mf_29_4, Mf_49_0, Mf_49_1, Mf_8_0, Mf_8_1, Mg_7_0, Mg_7_1, Mg_7_10, Mg_7_11, Mg_7_12, Mg_7_13, Mg_7_14, Mg_7_15, Mg_7_16, Mg_7_17, Mg_7_18, Mg_7_19, Mg_7_2, Mg_7_20, Mg_7_21, Mg_7_22, Mg_7_23, Mg_7_24, Mg_7_25, Mg_7_26, Mg_7_27, Mg_7_28, Mg_7_29, Mg_7_3, Mg_7_30, Mg_7_31, Mg_7_32, Mg_7_33, Mg_7_34, Mg_7_35, Mg_7_36, Mg_7_37, Mg_7_38, Mg_7_39, Mg_7_4, Mg_7_5, Mg_7_6, Mg_7_7, Mg_7_8, Mg_7_9, Mv_13, Mv_14, Mv_2, Mv_20, Mv_29, Mv_34, Mv_35, Mv_40, Mv_48, Mv_49, Mv_72, Mv_88, Mv_89, Mv_90, Mv_96, Mv_97, Mv_98⟩ := M
  obtain ⟨v1, e_v1⟩ : ∃ z : Int32, xs 1 = z := ⟨_, rfl⟩
  obtain ⟨v2, e_v2⟩ : ∃ z : Int32, xs 2 = z := ⟨_, rfl⟩
  obtain ⟨v3, e_v3⟩ : ∃ z : Int32, xs 3 = z := ⟨_, rfl⟩
  obtain ⟨v4, e_v4⟩ : ∃ z : Int32, xs 4 = z := ⟨_, rfl⟩
  obtain ⟨v5, e_v5⟩ : ∃ z : Int32, xs 5 = z := ⟨_, rfl⟩
  refine lq_aload_n C (i := 1) rfl 3 rfl dL_law_2592 ?_
  refine lq_callC C (z355_X11_scrap l hlt S dp x q23 Fr_362_x Fk_x Fm_x Fi_195_q23 Fk_q23 Fm_q23) cc_L_335 Fm_x Fk_x (by decide) rfl rfl ⟨by decide, by decide⟩ ⟨Nat.le_of_ble_eq_true rfl, Nat.le_of_ble_eq_true rfl⟩ rfl (Nat.le_of_ble_eq_true rfl) dL_law_2593 (fun r_2593 u_2593 h_2593 => ?_)
  obtain ⟨p1, S1, hf_p1, hS1, p2, S2, hf_p2, hS2, S3, hS3, S4, hS4, S5, hS5, p3, S6, hf_p3, hS6, S7, hS7, S8, hS8, S9, hS9, p4, S10, hf_p4, hS10, S11, hS11, S12, hS12, p5, S13, hf_p5, hS13, S14, hS14, S15, hS15, hr_2593, hu_2593⟩ := h_2593
  have hw_2593 := hu_2593.symm
  subst hw_2593
  have hx_2593 := hr_2593.symm
  subst hx_2593
  refine lq_aload_n C (i := 2) rfl 2 rfl dL_law_2596 ?_
  refine lq_doM C (w211_scrap l v f g Mv_72) lM_338 rfl rfl ⟨by decide, by decide⟩ ⟨Nat.le_of_ble_eq_true rfl, Nat.le_of_ble_eq_true rfl⟩ rfl (Nat.le_of_ble_eq_true rfl) dL_law_2597 ?_
  refine lq_icmp_eq C 3491 (by decide) dL_law_2600 (fun _ => ?_) (fun c_ => absurd (by decide) c_)
  exact lq_sub [0, 4] rfl (law_tail C (Nat.le_of_ble_eq_true rfl) (Nat.le_of_ble_eq_true rfl))
set_option maxHeartbeats 8000000 in
set_option maxRecDepth 100000 in
theorem law_case44 (C : lC p l s m meth c b 6 xs D Y tp dp) {S : cS} {a : Nat → Nat} {v : Nat → Int32} {f : Nat → Nat → Int32} {g : Nat → Nat → Int64} {x out q1 q2 q3 q10 q11 q15 q19 q20 q21 q22 q23 q29 q30 q37 : Nat} (F : cFr S dp x out q1 q2 q3 q10 q11 q15 q19 q20 q21 q22 q23 q29 q30 q37) (M : mFr v f g) : lG p l e s m below meth c b D Y 174 409927 2605 [(4, .int (nI 0)), (3, .ref out), (2, .ref (a 0)), (1, .ref x), (0, .ref b)] [] S a v f g := by
  have hlt := C.2.2.2.2.2.2.2.2.2.2.1
  obtain ⟨FeI_q30_0, FeI_q30_1, Fi_195_q23, Fi_289_q11, Fi_289_q15, Fi_289_q2, Fi_33_q37, Fi_361_x, Fi_366_x, Fi_368_x, Fi_369_x, Fi_36_q37, Fi_370_x, Fi_37_q37, Fi_384_q19, Fi_384_q22, Fi_386_q19, Fi_386_q21, Fi_386_q22, Fk_out, Fk_q1, Fk_q10, Fk_q11, Fk_q15, Fk_q19, Fk_q2, Fk_q20, Fk_q21, Fk_q22, Fk_q23, Fk_q29, Fk_q3, Fk_q30, Fk_q37, Fk_x, Fm_out, Fm_q1, Fm_q10, Fm_q11, Fm_q15, Fm_q19, Fm_q2, Fm_q20, Fm_q21, Fm_q22, Fm_q23, Fm_q29, Fm_q3, Fm_q30, Fm_q37, Fm_x, Fn_out, Fn_q3, Fn_q30, Fr_224_q29, Fr_288_q2, Fr_321_q20, Fr_352_x, Fr_353_x, Fr_354_x, Fr_355_x, Fr_356_x, Fr_358_x, Fr_359_x, Fr_360_x, Fr_362_x, Fr_364_x, Fr_365_x, Fr_385_q19, Fr_385_q22, Fr_3_q10, Fr_4_q10, Fr_96_q1⟩ := F
  obtain ⟨Mall_21, Mall_22, Mf_29_0, Mf_29_1, Mf_29_2, Mf_29_3, Mf_29_4, Mf_49_0, Mf_49_1, Mf_8_0, Mf_8_1, Mg_7_0, Mg_7_1, Mg_7_10, Mg_7_11, Mg_7_12, Mg_7_13, Mg_7_14, Mg_7_15, Mg_7_16, Mg_7_17, Mg_7_18, Mg_7_19, Mg_7_2, Mg_7_20, Mg_7_21, Mg_7_22, Mg_7_23, Mg_7_24, Mg_7_25, Mg_7_26, Mg_7_27, Mg_7_28, Mg_7_29, Mg_7_3, Mg_7_30, Mg_7_31, Mg_7_32, Mg_7_33, Mg_7_34, Mg_7_35, Mg_7_36, Mg_7_37, Mg_7_38, Mg_7_39, Mg_7_4, Mg_7_5, Mg_7_6, Mg_7_7, Mg_7_8, Mg_7_9, Mv_13, Mv_14, Mv_2, Mv_20, Mv_29, Mv_34, Mv_35, Mv_40, Mv_48, Mv_49, Mv_72, Mv_88, Mv_89, Mv_90, Mv_96, Mv_97, Mv_98⟩ := M
  rcases c_sgn (xs 1) with hneg_v1 | ⟨v1, hr_v1, e_v1⟩
  · obtain ⟨v1, e_v1⟩ : ∃ z : Int32, xs 1 = z := ⟨_, rfl⟩
    rw [e_v1] at hneg_v1
    rcases c_sgn (xs 2) with hneg_v2 | ⟨v2, hr_v2, e_v2⟩
    · obtain ⟨v2, e_v2⟩ : ∃ z : Int32, xs 2 = z := ⟨_, rfl⟩
      rw [e_v2] at hneg_v2
      obtain ⟨v3, e_v3⟩ : ∃ z : Int32, xs 3 = z := ⟨_, rfl⟩
      obtain ⟨v4, e_v4⟩ : ∃ z : Int32, xs 4 = z := ⟨_, rfl⟩
      obtain ⟨v5, e_v5⟩ : ∃ z : Int32, xs 5 = z := ⟨_, rfl⟩
      refine lq_aload_n C (i := 1) rfl 3 rfl dL_law_2605 ?_
      refine lq_aload_n C (i := 0) rfl 4 rfl dL_law_2606 ?_
      refine lq_iload C 0 rfl dL_law_2607 ?_
      refine lq_iconst C (x := nI 1) rfl dL_law_2609 ?_
      refine lq_iadd C dL_law_2610 ?_
      refine lq_cast (.int (nI 1)) (congrArg Value.int (by decide)) ?_
      refine lq_sld C 1 (by decide) (by decide) dL_law_2611 ?_
      refine lq_cast (.int v1) (congrArg Value.int e_v1) ?_
      refine lq_aload_n C (i := 0) rfl 4 rfl dL_law_2612 ?_
      refine lq_iload C 0 rfl dL_law_2613 ?_
      refine lq_iconst C (x := nI 2) rfl dL_law_2615 ?_
      refine lq_iadd C dL_law_2616 ?_
      refine lq_cast (.int (nI 2)) (congrArg Value.int (by decide)) ?_
      refine lq_sld C 2 (by decide) (by decide) dL_law_2617 ?_
      refine lq_cast (.int v2) (congrArg Value.int e_v2) ?_
      refine lq_aload_n C (i := 3) rfl 1 rfl dL_law_2618 ?_
      refine lq_callW C (z359_L_weigh l hlt S dp x out v1 v2 hneg_v1 hneg_v2 Fm_x Fk_x) lH_339 rfl rfl ⟨by decide, by decide⟩ ⟨Nat.le_of_ble_eq_true rfl, Nat.le_of_ble_eq_true rfl⟩ rfl (Nat.le_of_ble_eq_true rfl) dL_law_2619 (fun r_2619 u_2619 h_2619 => ?_)
      obtain ⟨hr_2619, hu_2619⟩ := h_2619
      have hw_2619 := hu_2619.symm
      subst hw_2619
      have hx_2619 := hr_2619.symm
      subst hx_2619
      refine lq_istore C (lv' := [(5, .int (nI 1)), (4, .int (nI 0)), (3, .ref out), (2, .ref (a 0)), (1, .ref x), (0, .ref b)]) (by decide) rfl dL_law_2622 ?_
      refine lq_aload_n C (i := 2) rfl 3 rfl dL_law_2624 ?_
      refine lq_aload_n C (i := 0) rfl 5 rfl dL_law_2625 ?_
      refine lq_iload C 1 rfl dL_law_2626 ?_
      refine lq_iconst C (x := nI 1) rfl dL_law_2628 ?_
      refine lq_iadd C dL_law_2629 ?_
      refine lq_cast (.int (nI 1)) (congrArg Value.int (by decide)) ?_
      refine lq_sld C 1 (by decide) (by decide) dL_law_2630 ?_
      refine lq_cast (.int v1) (congrArg Value.int e_v1) ?_
      refine lq_aload_n C (i := 0) rfl 5 rfl dL_law_2631 ?_
      refine lq_iload C 1 rfl dL_law_2632 ?_
      refine lq_iconst C (x := nI 2) rfl dL_law_2634 ?_
      refine lq_iadd C dL_law_2635 ?_
      refine lq_cast (.int (nI 2)) (congrArg Value.int (by decide)) ?_
      refine lq_sld C 2 (by decide) (by decide) dL_law_2636 ?_
      refine lq_cast (.int v2) (congrArg Value.int e_v2) ?_
      refine lq_doM C (w214_weigh l v f g v1 v2 hneg_v1 hneg_v2) lM_341 rfl rfl ⟨by decide, by decide⟩ ⟨Nat.le_of_ble_eq_true rfl, Nat.le_of_ble_eq_true rfl⟩ rfl (Nat.le_of_ble_eq_true rfl) dL_law_2637 ?_
      refine lq_istore C (lv' := [(6, .int (nI 0)), (5, .int (nI 1)), (4, .int (nI 0)), (3, .ref out), (2, .ref (a 0)), (1, .ref x), (0, .ref b)]) (by decide) rfl dL_law_2640 ?_
      refine lq_aload_n C (i := 2) rfl 4 rfl dL_law_2642 ?_
      refine lq_doM C (w4_thrown l (upd v 99 (nI 1)) f g rfl) lM_192 rfl rfl ⟨by decide, by decide⟩ ⟨Nat.le_of_ble_eq_true rfl, Nat.le_of_ble_eq_true rfl⟩ rfl (Nat.le_of_ble_eq_true rfl) dL_law_2643 ?_
      refine lq_iload C 1 rfl dL_law_2646 ?_
      refine lq_icmp_eq C 2653 (by decide) dL_law_2648 (fun _ => ?_) (fun c_ => absurd (by decide) c_)
      refine lq_iload C 1 rfl dL_law_2653 ?_
      refine lq_if_ne C 2670 (by decide) dL_law_2655 (fun _ => ?_) (fun c_ => absurd c_ (by decide))
      refine lq_goto C 3491 (by decide) dL_law_2670 ?_
      exact lq_sub [2, 6] rfl (law_tail C (Nat.le_of_ble_eq_true rfl) (Nat.le_of_ble_eq_true rfl))
    · rcases Nat.lt_or_ge v2 1 with hlt_v2 | hlt_v2
      · obtain rfl : v2 = 0 := by omega
        obtain ⟨v3, e_v3⟩ : ∃ z : Int32, xs 3 = z := ⟨_, rfl⟩
        obtain ⟨v4, e_v4⟩ : ∃ z : Int32, xs 4 = z := ⟨_, rfl⟩
        obtain ⟨v5, e_v5⟩ : ∃ z : Int32, xs 5 = z := ⟨_, rfl⟩
        refine lq_aload_n C (i := 1) rfl 3 rfl dL_law_2605 ?_
        refine lq_aload_n C (i := 0) rfl 4 rfl dL_law_2606 ?_
        refine lq_iload C 0 rfl dL_law_2607 ?_
        refine lq_iconst C (x := nI 1) rfl dL_law_2609 ?_
        refine lq_iadd C dL_law_2610 ?_
        refine lq_cast (.int (nI 1)) (congrArg Value.int (by decide)) ?_
        refine lq_sld C 1 (by decide) (by decide) dL_law_2611 ?_
        refine lq_cast (.int v1) (congrArg Value.int e_v1) ?_
        refine lq_aload_n C (i := 0) rfl 4 rfl dL_law_2612 ?_
        refine lq_iload C 0 rfl dL_law_2613 ?_
        refine lq_iconst C (x := nI 2) rfl dL_law_2615 ?_
        refine lq_iadd C dL_law_2616 ?_
        refine lq_cast (.int (nI 2)) (congrArg Value.int (by decide)) ?_
        refine lq_sld C 2 (by decide) (by decide) dL_law_2617 ?_
        refine lq_cast (.int (nI 0)) (congrArg Value.int e_v2) ?_
        refine lq_aload_n C (i := 3) rfl 1 rfl dL_law_2618 ?_
        refine lq_callW C (z363_L_weigh l hlt S dp x out v1 hneg_v1 Fm_x Fk_x) lH_339 rfl rfl ⟨by decide, by decide⟩ ⟨Nat.le_of_ble_eq_true rfl, Nat.le_of_ble_eq_true rfl⟩ rfl (Nat.le_of_ble_eq_true rfl) dL_law_2619 (fun r_2619 u_2619 h_2619 => ?_)
        obtain ⟨hr_2619, hu_2619⟩ := h_2619
        have hw_2619 := hu_2619.symm
        subst hw_2619
        have hx_2619 := hr_2619.symm
        subst hx_2619
        refine lq_istore C (lv' := [(5, .int (nI 1)), (4, .int (nI 0)), (3, .ref out), (2, .ref (a 0)), (1, .ref x), (0, .ref b)]) (by decide) rfl dL_law_2622 ?_
        refine lq_aload_n C (i := 2) rfl 3 rfl dL_law_2624 ?_
        refine lq_aload_n C (i := 0) rfl 5 rfl dL_law_2625 ?_
        refine lq_iload C 1 rfl dL_law_2626 ?_
        refine lq_iconst C (x := nI 1) rfl dL_law_2628 ?_
        refine lq_iadd C dL_law_2629 ?_
        refine lq_cast (.int (nI 1)) (congrArg Value.int (by decide)) ?_
        refine lq_sld C 1 (by decide) (by decide) dL_law_2630 ?_
        refine lq_cast (.int v1) (congrArg Value.int e_v1) ?_
        refine lq_aload_n C (i := 0) rfl 5 rfl dL_law_2631 ?_
        refine lq_iload C 1 rfl dL_law_2632 ?_
        refine lq_iconst C (x := nI 2) rfl dL_law_2634 ?_
        refine lq_iadd C dL_law_2635 ?_
        refine lq_cast (.int (nI 2)) (congrArg Value.int (by decide)) ?_
        refine lq_sld C 2 (by decide) (by decide) dL_law_2636 ?_
        refine lq_cast (.int (nI 0)) (congrArg Value.int e_v2) ?_
        refine lq_doM C (w216_weigh l v f g v1 hneg_v1) lM_341 rfl rfl ⟨by decide, by decide⟩ ⟨Nat.le_of_ble_eq_true rfl, Nat.le_of_ble_eq_true rfl⟩ rfl (Nat.le_of_ble_eq_true rfl) dL_law_2637 ?_
        refine lq_istore C (lv' := [(6, .int (nI 0)), (5, .int (nI 1)), (4, .int (nI 0)), (3, .ref out), (2, .ref (a 0)), (1, .ref x), (0, .ref b)]) (by decide) rfl dL_law_2640 ?_
        refine lq_aload_n C (i := 2) rfl 4 rfl dL_law_2642 ?_
        refine lq_doM C (w4_thrown l (upd v 99 (nI 1)) f g rfl) lM_192 rfl rfl ⟨by decide, by decide⟩ ⟨Nat.le_of_ble_eq_true rfl, Nat.le_of_ble_eq_true rfl⟩ rfl (Nat.le_of_ble_eq_true rfl) dL_law_2643 ?_
        refine lq_iload C 1 rfl dL_law_2646 ?_
        refine lq_icmp_eq C 2653 (by decide) dL_law_2648 (fun _ => ?_) (fun c_ => absurd (by decide) c_)
        refine lq_iload C 1 rfl dL_law_2653 ?_
        refine lq_if_ne C 2670 (by decide) dL_law_2655 (fun _ => ?_) (fun c_ => absurd c_ (by decide))
        refine lq_goto C 3491 (by decide) dL_law_2670 ?_
        exact lq_sub [2, 6] rfl (law_tail C (Nat.le_of_ble_eq_true rfl) (Nat.le_of_ble_eq_true rfl))
      · rcases Nat.lt_or_ge v2 10 with hlt_v2 | hlt_v2
        · obtain ⟨v3, e_v3⟩ : ∃ z : Int32, xs 3 = z := ⟨_, rfl⟩
          obtain ⟨v4, e_v4⟩ : ∃ z : Int32, xs 4 = z := ⟨_, rfl⟩
          obtain ⟨v5, e_v5⟩ : ∃ z : Int32, xs 5 = z := ⟨_, rfl⟩
          refine lq_aload_n C (i := 1) rfl 3 rfl dL_law_2605 ?_
          refine lq_aload_n C (i := 0) rfl 4 rfl dL_law_2606 ?_
          refine lq_iload C 0 rfl dL_law_2607 ?_
          refine lq_iconst C (x := nI 1) rfl dL_law_2609 ?_
          refine lq_iadd C dL_law_2610 ?_
          refine lq_cast (.int (nI 1)) (congrArg Value.int (by decide)) ?_
          refine lq_sld C 1 (by decide) (by decide) dL_law_2611 ?_
          refine lq_cast (.int v1) (congrArg Value.int e_v1) ?_
          refine lq_aload_n C (i := 0) rfl 4 rfl dL_law_2612 ?_
          refine lq_iload C 0 rfl dL_law_2613 ?_
          refine lq_iconst C (x := nI 2) rfl dL_law_2615 ?_
          refine lq_iadd C dL_law_2616 ?_
          refine lq_cast (.int (nI 2)) (congrArg Value.int (by decide)) ?_
          refine lq_sld C 2 (by decide) (by decide) dL_law_2617 ?_
          refine lq_cast (.int (nI v2)) (congrArg Value.int e_v2) ?_
          refine lq_aload_n C (i := 3) rfl 1 rfl dL_law_2618 ?_
          refine lq_callW C (z367_L_weigh l hlt S dp x out v2 v1 hneg_v1 (by omega) (by omega) Fm_x Fk_x) lH_339 rfl rfl ⟨by decide, by decide⟩ ⟨Nat.le_of_ble_eq_true rfl, Nat.le_of_ble_eq_true rfl⟩ rfl (Nat.le_of_ble_eq_true rfl) dL_law_2619 (fun r_2619 u_2619 h_2619 => ?_)
          obtain ⟨hr_2619, hu_2619⟩ := h_2619
          have hw_2619 := hu_2619.symm
          subst hw_2619
          have hx_2619 := hr_2619.symm
          subst hx_2619
          refine lq_istore C (lv' := [(5, .int (nI 1)), (4, .int (nI 0)), (3, .ref out), (2, .ref (a 0)), (1, .ref x), (0, .ref b)]) (by decide) rfl dL_law_2622 ?_
          refine lq_aload_n C (i := 2) rfl 3 rfl dL_law_2624 ?_
          refine lq_aload_n C (i := 0) rfl 5 rfl dL_law_2625 ?_
          refine lq_iload C 1 rfl dL_law_2626 ?_
          refine lq_iconst C (x := nI 1) rfl dL_law_2628 ?_
          refine lq_iadd C dL_law_2629 ?_
          refine lq_cast (.int (nI 1)) (congrArg Value.int (by decide)) ?_
          refine lq_sld C 1 (by decide) (by decide) dL_law_2630 ?_
          refine lq_cast (.int v1) (congrArg Value.int e_v1) ?_
          refine lq_aload_n C (i := 0) rfl 5 rfl dL_law_2631 ?_
          refine lq_iload C 1 rfl dL_law_2632 ?_
          refine lq_iconst C (x := nI 2) rfl dL_law_2634 ?_
          refine lq_iadd C dL_law_2635 ?_
          refine lq_cast (.int (nI 2)) (congrArg Value.int (by decide)) ?_
          refine lq_sld C 2 (by decide) (by decide) dL_law_2636 ?_
          refine lq_cast (.int (nI v2)) (congrArg Value.int e_v2) ?_
          refine lq_doM C (w219_weigh l v f g v2 v1 hneg_v1 (by omega) (by omega)) lM_341 rfl rfl ⟨by decide, by decide⟩ ⟨Nat.le_of_ble_eq_true rfl, Nat.le_of_ble_eq_true rfl⟩ rfl (Nat.le_of_ble_eq_true rfl) dL_law_2637 ?_
          refine lq_istore C (lv' := [(6, .int (nI 0)), (5, .int (nI 1)), (4, .int (nI 0)), (3, .ref out), (2, .ref (a 0)), (1, .ref x), (0, .ref b)]) (by decide) rfl dL_law_2640 ?_
          refine lq_aload_n C (i := 2) rfl 4 rfl dL_law_2642 ?_
          refine lq_doM C (w4_thrown l (upd v 99 (nI 1)) f g rfl) lM_192 rfl rfl ⟨by decide, by decide⟩ ⟨Nat.le_of_ble_eq_true rfl, Nat.le_of_ble_eq_true rfl⟩ rfl (Nat.le_of_ble_eq_true rfl) dL_law_2643 ?_
          refine lq_iload C 1 rfl dL_law_2646 ?_
          refine lq_icmp_eq C 2653 (by decide) dL_law_2648 (fun _ => ?_) (fun c_ => absurd (by decide) c_)
          refine lq_iload C 1 rfl dL_law_2653 ?_
          refine lq_if_ne C 2670 (by decide) dL_law_2655 (fun _ => ?_) (fun c_ => absurd c_ (by decide))
          refine lq_goto C 3491 (by decide) dL_law_2670 ?_
          exact lq_sub [2, 6] rfl (law_tail C (Nat.le_of_ble_eq_true rfl) (Nat.le_of_ble_eq_true rfl))
        · obtain ⟨v3, e_v3⟩ : ∃ z : Int32, xs 3 = z := ⟨_, rfl⟩
          obtain ⟨v4, e_v4⟩ : ∃ z : Int32, xs 4 = z := ⟨_, rfl⟩
          obtain ⟨v5, e_v5⟩ : ∃ z : Int32, xs 5 = z := ⟨_, rfl⟩
          refine lq_aload_n C (i := 1) rfl 3 rfl dL_law_2605 ?_
          refine lq_aload_n C (i := 0) rfl 4 rfl dL_law_2606 ?_
          refine lq_iload C 0 rfl dL_law_2607 ?_
          refine lq_iconst C (x := nI 1) rfl dL_law_2609 ?_
          refine lq_iadd C dL_law_2610 ?_
          refine lq_cast (.int (nI 1)) (congrArg Value.int (by decide)) ?_
          refine lq_sld C 1 (by decide) (by decide) dL_law_2611 ?_
          refine lq_cast (.int v1) (congrArg Value.int e_v1) ?_
          refine lq_aload_n C (i := 0) rfl 4 rfl dL_law_2612 ?_
          refine lq_iload C 0 rfl dL_law_2613 ?_
          refine lq_iconst C (x := nI 2) rfl dL_law_2615 ?_
          refine lq_iadd C dL_law_2616 ?_
          refine lq_cast (.int (nI 2)) (congrArg Value.int (by decide)) ?_
          refine lq_sld C 2 (by decide) (by decide) dL_law_2617 ?_
          refine lq_cast (.int (nI v2)) (congrArg Value.int e_v2) ?_
          refine lq_aload_n C (i := 3) rfl 1 rfl dL_law_2618 ?_
          refine lq_callW C (z369_L_weigh l hlt S dp x out v2 v1 hneg_v1 (by omega) (by omega) Fm_x Fk_x) lH_339 rfl rfl ⟨by decide, by decide⟩ ⟨Nat.le_of_ble_eq_true rfl, Nat.le_of_ble_eq_true rfl⟩ rfl (Nat.le_of_ble_eq_true rfl) dL_law_2619 (fun r_2619 u_2619 h_2619 => ?_)
          obtain ⟨hr_2619, hu_2619⟩ := h_2619
          have hw_2619 := hu_2619.symm
          subst hw_2619
          have hx_2619 := hr_2619.symm
          subst hx_2619
          refine lq_istore C (lv' := [(5, .int (nI 1)), (4, .int (nI 0)), (3, .ref out), (2, .ref (a 0)), (1, .ref x), (0, .ref b)]) (by decide) rfl dL_law_2622 ?_
          refine lq_aload_n C (i := 2) rfl 3 rfl dL_law_2624 ?_
          refine lq_aload_n C (i := 0) rfl 5 rfl dL_law_2625 ?_
          refine lq_iload C 1 rfl dL_law_2626 ?_
          refine lq_iconst C (x := nI 1) rfl dL_law_2628 ?_
          refine lq_iadd C dL_law_2629 ?_
          refine lq_cast (.int (nI 1)) (congrArg Value.int (by decide)) ?_
          refine lq_sld C 1 (by decide) (by decide) dL_law_2630 ?_
          refine lq_cast (.int v1) (congrArg Value.int e_v1) ?_
          refine lq_aload_n C (i := 0) rfl 5 rfl dL_law_2631 ?_
          refine lq_iload C 1 rfl dL_law_2632 ?_
          refine lq_iconst C (x := nI 2) rfl dL_law_2634 ?_
          refine lq_iadd C dL_law_2635 ?_
          refine lq_cast (.int (nI 2)) (congrArg Value.int (by decide)) ?_
          refine lq_sld C 2 (by decide) (by decide) dL_law_2636 ?_
          refine lq_cast (.int (nI v2)) (congrArg Value.int e_v2) ?_
          refine lq_doM C (w221_weigh l v f g v2 v1 hneg_v1 (by omega) (by omega)) lM_341 rfl rfl ⟨by decide, by decide⟩ ⟨Nat.le_of_ble_eq_true rfl, Nat.le_of_ble_eq_true rfl⟩ rfl (Nat.le_of_ble_eq_true rfl) dL_law_2637 ?_
          refine lq_istore C (lv' := [(6, .int (nI 0)), (5, .int (nI 1)), (4, .int (nI 0)), (3, .ref out), (2, .ref (a 0)), (1, .ref x), (0, .ref b)]) (by decide) rfl dL_law_2640 ?_
          refine lq_aload_n C (i := 2) rfl 4 rfl dL_law_2642 ?_
          refine lq_doM C (w4_thrown l (upd v 99 (nI 1)) f g rfl) lM_192 rfl rfl ⟨by decide, by decide⟩ ⟨Nat.le_of_ble_eq_true rfl, Nat.le_of_ble_eq_true rfl⟩ rfl (Nat.le_of_ble_eq_true rfl) dL_law_2643 ?_
          refine lq_iload C 1 rfl dL_law_2646 ?_
          refine lq_icmp_eq C 2653 (by decide) dL_law_2648 (fun _ => ?_) (fun c_ => absurd (by decide) c_)
          refine lq_iload C 1 rfl dL_law_2653 ?_
          refine lq_if_ne C 2670 (by decide) dL_law_2655 (fun _ => ?_) (fun c_ => absurd c_ (by decide))
          refine lq_goto C 3491 (by decide) dL_law_2670 ?_
          exact lq_sub [2, 6] rfl (law_tail C (Nat.le_of_ble_eq_true rfl) (Nat.le_of_ble_eq_true rfl))
  · rcases Nat.lt_or_ge v1 2 with hlt_v1 | hlt_v1
    · rcases c_sgn (xs 2) with hneg_v2 | ⟨v2, hr_v2, e_v2⟩
      · obtain ⟨v2, e_v2⟩ : ∃ z : Int32, xs 2 = z := ⟨_, rfl⟩
        rw [e_v2] at hneg_v2
        obtain ⟨v3, e_v3⟩ : ∃ z : Int32, xs 3 = z := ⟨_, rfl⟩
        obtain ⟨v4, e_v4⟩ : ∃ z : Int32, xs 4 = z := ⟨_, rfl⟩
        obtain ⟨v5, e_v5⟩ : ∃ z : Int32, xs 5 = z := ⟨_, rfl⟩
        refine lq_aload_n C (i := 1) rfl 3 rfl dL_law_2605 ?_
        refine lq_aload_n C (i := 0) rfl 4 rfl dL_law_2606 ?_
        refine lq_iload C 0 rfl dL_law_2607 ?_
        refine lq_iconst C (x := nI 1) rfl dL_law_2609 ?_
        refine lq_iadd C dL_law_2610 ?_
        refine lq_cast (.int (nI 1)) (congrArg Value.int (by decide)) ?_
        refine lq_sld C 1 (by decide) (by decide) dL_law_2611 ?_
        refine lq_cast (.int (nI v1)) (congrArg Value.int e_v1) ?_
        refine lq_aload_n C (i := 0) rfl 4 rfl dL_law_2612 ?_
        refine lq_iload C 0 rfl dL_law_2613 ?_
        refine lq_iconst C (x := nI 2) rfl dL_law_2615 ?_
        refine lq_iadd C dL_law_2616 ?_
        refine lq_cast (.int (nI 2)) (congrArg Value.int (by decide)) ?_
        refine lq_sld C 2 (by decide) (by decide) dL_law_2617 ?_
        refine lq_cast (.int v2) (congrArg Value.int e_v2) ?_
        refine lq_aload_n C (i := 3) rfl 1 rfl dL_law_2618 ?_
        refine lq_callW C (z371_L_weigh l hlt S dp x out v1 v2 (by omega) hneg_v2 Fm_x Fk_x) lH_339 rfl rfl ⟨by decide, by decide⟩ ⟨Nat.le_of_ble_eq_true rfl, Nat.le_of_ble_eq_true rfl⟩ rfl (Nat.le_of_ble_eq_true rfl) dL_law_2619 (fun r_2619 u_2619 h_2619 => ?_)
        obtain ⟨hr_2619, hu_2619⟩ := h_2619
        have hw_2619 := hu_2619.symm
        subst hw_2619
        have hx_2619 := hr_2619.symm
        subst hx_2619
        refine lq_istore C (lv' := [(5, .int (nI 2)), (4, .int (nI 0)), (3, .ref out), (2, .ref (a 0)), (1, .ref x), (0, .ref b)]) (by decide) rfl dL_law_2622 ?_
        refine lq_aload_n C (i := 2) rfl 3 rfl dL_law_2624 ?_
        refine lq_aload_n C (i := 0) rfl 5 rfl dL_law_2625 ?_
        refine lq_iload C 1 rfl dL_law_2626 ?_
        refine lq_iconst C (x := nI 1) rfl dL_law_2628 ?_
        refine lq_iadd C dL_law_2629 ?_
        refine lq_cast (.int (nI 1)) (congrArg Value.int (by decide)) ?_
        refine lq_sld C 1 (by decide) (by decide) dL_law_2630 ?_
        refine lq_cast (.int (nI v1)) (congrArg Value.int e_v1) ?_
        refine lq_aload_n C (i := 0) rfl 5 rfl dL_law_2631 ?_
        refine lq_iload C 1 rfl dL_law_2632 ?_
        refine lq_iconst C (x := nI 2) rfl dL_law_2634 ?_
        refine lq_iadd C dL_law_2635 ?_
        refine lq_cast (.int (nI 2)) (congrArg Value.int (by decide)) ?_
        refine lq_sld C 2 (by decide) (by decide) dL_law_2636 ?_
        refine lq_cast (.int v2) (congrArg Value.int e_v2) ?_
        refine lq_doM C (w223_weigh l v f g v1 v2 (by omega) hneg_v2) lM_341 rfl rfl ⟨by decide, by decide⟩ ⟨Nat.le_of_ble_eq_true rfl, Nat.le_of_ble_eq_true rfl⟩ rfl (Nat.le_of_ble_eq_true rfl) dL_law_2637 ?_
        refine lq_istore C (lv' := [(6, .int (nI 0)), (5, .int (nI 2)), (4, .int (nI 0)), (3, .ref out), (2, .ref (a 0)), (1, .ref x), (0, .ref b)]) (by decide) rfl dL_law_2640 ?_
        refine lq_aload_n C (i := 2) rfl 4 rfl dL_law_2642 ?_
        refine lq_doM C (w116_thrown l (upd v 99 (nI 2)) f g rfl) lM_192 rfl rfl ⟨by decide, by decide⟩ ⟨Nat.le_of_ble_eq_true rfl, Nat.le_of_ble_eq_true rfl⟩ rfl (Nat.le_of_ble_eq_true rfl) dL_law_2643 ?_
        refine lq_iload C 1 rfl dL_law_2646 ?_
        refine lq_icmp_eq C 2653 (by decide) dL_law_2648 (fun _ => ?_) (fun c_ => absurd (by decide) c_)
        refine lq_iload C 1 rfl dL_law_2653 ?_
        refine lq_if_ne C 2670 (by decide) dL_law_2655 (fun _ => ?_) (fun c_ => absurd c_ (by decide))
        refine lq_goto C 3491 (by decide) dL_law_2670 ?_
        exact lq_sub [2, 6] rfl (law_tail C (Nat.le_of_ble_eq_true rfl) (Nat.le_of_ble_eq_true rfl))
      · rcases Nat.lt_or_ge v2 1 with hlt_v2 | hlt_v2
        · obtain rfl : v2 = 0 := by omega
          obtain ⟨v3, e_v3⟩ : ∃ z : Int32, xs 3 = z := ⟨_, rfl⟩
          obtain ⟨v4, e_v4⟩ : ∃ z : Int32, xs 4 = z := ⟨_, rfl⟩
          obtain ⟨v5, e_v5⟩ : ∃ z : Int32, xs 5 = z := ⟨_, rfl⟩
          refine lq_aload_n C (i := 1) rfl 3 rfl dL_law_2605 ?_
          refine lq_aload_n C (i := 0) rfl 4 rfl dL_law_2606 ?_
          refine lq_iload C 0 rfl dL_law_2607 ?_
          refine lq_iconst C (x := nI 1) rfl dL_law_2609 ?_
          refine lq_iadd C dL_law_2610 ?_
          refine lq_cast (.int (nI 1)) (congrArg Value.int (by decide)) ?_
          refine lq_sld C 1 (by decide) (by decide) dL_law_2611 ?_
          refine lq_cast (.int (nI v1)) (congrArg Value.int e_v1) ?_
          refine lq_aload_n C (i := 0) rfl 4 rfl dL_law_2612 ?_
          refine lq_iload C 0 rfl dL_law_2613 ?_
          refine lq_iconst C (x := nI 2) rfl dL_law_2615 ?_
          refine lq_iadd C dL_law_2616 ?_
          refine lq_cast (.int (nI 2)) (congrArg Value.int (by decide)) ?_
          refine lq_sld C 2 (by decide) (by decide) dL_law_2617 ?_
          refine lq_cast (.int (nI 0)) (congrArg Value.int e_v2) ?_
          refine lq_aload_n C (i := 3) rfl 1 rfl dL_law_2618 ?_
          refine lq_callW C (z373_L_weigh l hlt S dp x out v1 (by omega) Fm_x Fk_x) lH_339 rfl rfl ⟨by decide, by decide⟩ ⟨Nat.le_of_ble_eq_true rfl, Nat.le_of_ble_eq_true rfl⟩ rfl (Nat.le_of_ble_eq_true rfl) dL_law_2619 (fun r_2619 u_2619 h_2619 => ?_)
          obtain ⟨hr_2619, hu_2619⟩ := h_2619
          have hw_2619 := hu_2619.symm
          subst hw_2619
          have hx_2619 := hr_2619.symm
          subst hx_2619
          refine lq_istore C (lv' := [(5, .int (nI 2)), (4, .int (nI 0)), (3, .ref out), (2, .ref (a 0)), (1, .ref x), (0, .ref b)]) (by decide) rfl dL_law_2622 ?_
          refine lq_aload_n C (i := 2) rfl 3 rfl dL_law_2624 ?_
          refine lq_aload_n C (i := 0) rfl 5 rfl dL_law_2625 ?_
          refine lq_iload C 1 rfl dL_law_2626 ?_
          refine lq_iconst C (x := nI 1) rfl dL_law_2628 ?_
          refine lq_iadd C dL_law_2629 ?_
          refine lq_cast (.int (nI 1)) (congrArg Value.int (by decide)) ?_
          refine lq_sld C 1 (by decide) (by decide) dL_law_2630 ?_
          refine lq_cast (.int (nI v1)) (congrArg Value.int e_v1) ?_
          refine lq_aload_n C (i := 0) rfl 5 rfl dL_law_2631 ?_
          refine lq_iload C 1 rfl dL_law_2632 ?_
          refine lq_iconst C (x := nI 2) rfl dL_law_2634 ?_
          refine lq_iadd C dL_law_2635 ?_
          refine lq_cast (.int (nI 2)) (congrArg Value.int (by decide)) ?_
          refine lq_sld C 2 (by decide) (by decide) dL_law_2636 ?_
          refine lq_cast (.int (nI 0)) (congrArg Value.int e_v2) ?_
          refine lq_doM C (w224_weigh l v f g v1 (by omega)) lM_341 rfl rfl ⟨by decide, by decide⟩ ⟨Nat.le_of_ble_eq_true rfl, Nat.le_of_ble_eq_true rfl⟩ rfl (Nat.le_of_ble_eq_true rfl) dL_law_2637 ?_
          refine lq_istore C (lv' := [(6, .int (nI 0)), (5, .int (nI 2)), (4, .int (nI 0)), (3, .ref out), (2, .ref (a 0)), (1, .ref x), (0, .ref b)]) (by decide) rfl dL_law_2640 ?_
          refine lq_aload_n C (i := 2) rfl 4 rfl dL_law_2642 ?_
          refine lq_doM C (w116_thrown l (upd v 99 (nI 2)) f g rfl) lM_192 rfl rfl ⟨by decide, by decide⟩ ⟨Nat.le_of_ble_eq_true rfl, Nat.le_of_ble_eq_true rfl⟩ rfl (Nat.le_of_ble_eq_true rfl) dL_law_2643 ?_
          refine lq_iload C 1 rfl dL_law_2646 ?_
          refine lq_icmp_eq C 2653 (by decide) dL_law_2648 (fun _ => ?_) (fun c_ => absurd (by decide) c_)
          refine lq_iload C 1 rfl dL_law_2653 ?_
          refine lq_if_ne C 2670 (by decide) dL_law_2655 (fun _ => ?_) (fun c_ => absurd c_ (by decide))
          refine lq_goto C 3491 (by decide) dL_law_2670 ?_
          exact lq_sub [2, 6] rfl (law_tail C (Nat.le_of_ble_eq_true rfl) (Nat.le_of_ble_eq_true rfl))
        · rcases Nat.lt_or_ge v2 10 with hlt_v2 | hlt_v2
          · rcases Nat.lt_or_ge v1 1 with hlt_v1 | hlt_v1
            · obtain rfl : v1 = 0 := by omega
              obtain ⟨v3, e_v3⟩ : ∃ z : Int32, xs 3 = z := ⟨_, rfl⟩
              obtain ⟨v4, e_v4⟩ : ∃ z : Int32, xs 4 = z := ⟨_, rfl⟩
              obtain ⟨v5, e_v5⟩ : ∃ z : Int32, xs 5 = z := ⟨_, rfl⟩
              refine lq_aload_n C (i := 1) rfl 3 rfl dL_law_2605 ?_
              refine lq_aload_n C (i := 0) rfl 4 rfl dL_law_2606 ?_
              refine lq_iload C 0 rfl dL_law_2607 ?_
              refine lq_iconst C (x := nI 1) rfl dL_law_2609 ?_
              refine lq_iadd C dL_law_2610 ?_
              refine lq_cast (.int (nI 1)) (congrArg Value.int (by decide)) ?_
              refine lq_sld C 1 (by decide) (by decide) dL_law_2611 ?_
              refine lq_cast (.int (nI 0)) (congrArg Value.int e_v1) ?_
              refine lq_aload_n C (i := 0) rfl 4 rfl dL_law_2612 ?_
              refine lq_iload C 0 rfl dL_law_2613 ?_
              refine lq_iconst C (x := nI 2) rfl dL_law_2615 ?_
              refine lq_iadd C dL_law_2616 ?_
              refine lq_cast (.int (nI 2)) (congrArg Value.int (by decide)) ?_
              refine lq_sld C 2 (by decide) (by decide) dL_law_2617 ?_
              refine lq_cast (.int (nI v2)) (congrArg Value.int e_v2) ?_
              refine lq_aload_n C (i := 3) rfl 1 rfl dL_law_2618 ?_
              refine lq_callW C (z375_L_weigh l hlt S dp x out q29 q30 v2 (by omega) (by omega) Fr_364_x Fk_x Fm_x Fr_224_q29 Fk_q29 Fm_q29 Fk_q30 Fn_q30 Fm_q30 FeI_q30_0 Fk_out Fn_out Fm_out) lH_339 rfl rfl ⟨by decide, by decide⟩ ⟨Nat.le_of_ble_eq_true rfl, Nat.le_of_ble_eq_true rfl⟩ rfl (Nat.le_of_ble_eq_true rfl) dL_law_2619 (fun r_2619 u_2619 h_2619 => ?_)
              obtain ⟨S1, hS1, S2, hS2, hr_2619, hu_2619⟩ := h_2619
              have hw_2619 := hu_2619.symm
              subst hw_2619
              have hx_2619 := hr_2619.symm
              subst hx_2619
              refine lq_istore C (lv' := [(5, .int (nI 0)), (4, .int (nI 0)), (3, .ref out), (2, .ref (a 0)), (1, .ref x), (0, .ref b)]) (by decide) rfl dL_law_2622 ?_
              refine lq_aload_n C (i := 2) rfl 3 rfl dL_law_2624 ?_
              refine lq_aload_n C (i := 0) rfl 5 rfl dL_law_2625 ?_
              refine lq_iload C 1 rfl dL_law_2626 ?_
              refine lq_iconst C (x := nI 1) rfl dL_law_2628 ?_
              refine lq_iadd C dL_law_2629 ?_
              refine lq_cast (.int (nI 1)) (congrArg Value.int (by decide)) ?_
              refine lq_sld C 1 (by decide) (by decide) dL_law_2630 ?_
              refine lq_cast (.int (nI 0)) (congrArg Value.int e_v1) ?_
              refine lq_aload_n C (i := 0) rfl 5 rfl dL_law_2631 ?_
              refine lq_iload C 1 rfl dL_law_2632 ?_
              refine lq_iconst C (x := nI 2) rfl dL_law_2634 ?_
              refine lq_iadd C dL_law_2635 ?_
              refine lq_cast (.int (nI 2)) (congrArg Value.int (by decide)) ?_
              refine lq_sld C 2 (by decide) (by decide) dL_law_2636 ?_
              refine lq_cast (.int (nI v2)) (congrArg Value.int e_v2) ?_
              refine lq_doM C (w227_weigh l v f g v2 (by omega) (by omega) Mf_49_0) lM_341 rfl rfl ⟨by decide, by decide⟩ ⟨Nat.le_of_ble_eq_true rfl, Nat.le_of_ble_eq_true rfl⟩ rfl (Nat.le_of_ble_eq_true rfl) dL_law_2637 ?_
              refine lq_istore C (lv' := [(6, .int (nI 3)), (5, .int (nI 0)), (4, .int (nI 0)), (3, .ref out), (2, .ref (a 0)), (1, .ref x), (0, .ref b)]) (by decide) rfl dL_law_2640 ?_
              refine lq_aload_n C (i := 2) rfl 4 rfl dL_law_2642 ?_
              refine lq_doM C (w8_thrown l (upd v 99 (nI 0)) (mU f 49 0 (nI v2)) g rfl) lM_192 rfl rfl ⟨by decide, by decide⟩ ⟨Nat.le_of_ble_eq_true rfl, Nat.le_of_ble_eq_true rfl⟩ rfl (Nat.le_of_ble_eq_true rfl) dL_law_2643 ?_
              refine lq_iload C 1 rfl dL_law_2646 ?_
              refine lq_icmp_eq C 2653 (by decide) dL_law_2648 (fun _ => ?_) (fun c_ => absurd (by decide) c_)
              refine lq_iload C 1 rfl dL_law_2653 ?_
              refine lq_if_ne C 2670 (by decide) dL_law_2655 (fun c_ => absurd (by decide) c_) (fun _ => ?_)
              refine lq_aload_n C (i := 3) rfl 3 rfl dL_law_2658 ?_
              refine lq_iconst C (x := nI 0) rfl dL_law_2659 ?_
              refine lq_laload C 0 (hm_SJ hS2 (hm_SI hS1 Fm_out)) (hk_SJ hS2 (hk_SI hS1 Fk_out)) (by rw [show cn _ _ = 1 from (hn_SJ hS2 (hn_SI hS1 Fn_out))]; decide) (by rw [show cn _ _ = 1 from (hn_SJ hS2 (hn_SI hS1 Fn_out))]; decide) dL_law_2660 ?_
              refine lq_cast (.long (((nI 3)).toInt64)) (congrArg Value.long (heJ_SJ_s hS2)) ?_
              refine lq_iload C 0 rfl dL_law_2661 ?_
              refine lq_i2l C dL_law_2663 ?_
              refine lq_lcmp C dL_law_2664 ?_
              refine lq_if_eqL C 2670 (by decide) dL_law_2665 ?_
              refine lq_goto C 3491 (by decide) dL_law_2670 ?_
              exact lq_sub [2, 6] rfl (law_tail C (Nat.le_of_ble_eq_true rfl) (Nat.le_of_ble_eq_true rfl))
            · obtain rfl : v1 = 1 := by omega
              obtain ⟨v3, e_v3⟩ : ∃ z : Int32, xs 3 = z := ⟨_, rfl⟩
              obtain ⟨v4, e_v4⟩ : ∃ z : Int32, xs 4 = z := ⟨_, rfl⟩
              obtain ⟨v5, e_v5⟩ : ∃ z : Int32, xs 5 = z := ⟨_, rfl⟩
              refine lq_aload_n C (i := 1) rfl 3 rfl dL_law_2605 ?_
              refine lq_aload_n C (i := 0) rfl 4 rfl dL_law_2606 ?_
              refine lq_iload C 0 rfl dL_law_2607 ?_
              refine lq_iconst C (x := nI 1) rfl dL_law_2609 ?_
              refine lq_iadd C dL_law_2610 ?_
              refine lq_cast (.int (nI 1)) (congrArg Value.int (by decide)) ?_
              refine lq_sld C 1 (by decide) (by decide) dL_law_2611 ?_
              refine lq_cast (.int (nI 1)) (congrArg Value.int e_v1) ?_
              refine lq_aload_n C (i := 0) rfl 4 rfl dL_law_2612 ?_
              refine lq_iload C 0 rfl dL_law_2613 ?_
              refine lq_iconst C (x := nI 2) rfl dL_law_2615 ?_
              refine lq_iadd C dL_law_2616 ?_
              refine lq_cast (.int (nI 2)) (congrArg Value.int (by decide)) ?_
              refine lq_sld C 2 (by decide) (by decide) dL_law_2617 ?_
              refine lq_cast (.int (nI v2)) (congrArg Value.int e_v2) ?_
              refine lq_aload_n C (i := 3) rfl 1 rfl dL_law_2618 ?_
              refine lq_callW C (z377_L_weigh l hlt S dp x out q29 q30 v2 (by omega) (by omega) Fr_364_x Fk_x Fm_x Fr_224_q29 Fk_q29 Fm_q29 Fk_q30 Fn_q30 Fm_q30 FeI_q30_1 Fk_out Fn_out Fm_out) lH_339 rfl rfl ⟨by decide, by decide⟩ ⟨Nat.le_of_ble_eq_true rfl, Nat.le_of_ble_eq_true rfl⟩ rfl (Nat.le_of_ble_eq_true rfl) dL_law_2619 (fun r_2619 u_2619 h_2619 => ?_)
              obtain ⟨S1, hS1, S2, hS2, hr_2619, hu_2619⟩ := h_2619
              have hw_2619 := hu_2619.symm
              subst hw_2619
              have hx_2619 := hr_2619.symm
              subst hx_2619
              refine lq_istore C (lv' := [(5, .int (nI 0)), (4, .int (nI 0)), (3, .ref out), (2, .ref (a 0)), (1, .ref x), (0, .ref b)]) (by decide) rfl dL_law_2622 ?_
              refine lq_aload_n C (i := 2) rfl 3 rfl dL_law_2624 ?_
              refine lq_aload_n C (i := 0) rfl 5 rfl dL_law_2625 ?_
              refine lq_iload C 1 rfl dL_law_2626 ?_
              refine lq_iconst C (x := nI 1) rfl dL_law_2628 ?_
              refine lq_iadd C dL_law_2629 ?_
              refine lq_cast (.int (nI 1)) (congrArg Value.int (by decide)) ?_
              refine lq_sld C 1 (by decide) (by decide) dL_law_2630 ?_
              refine lq_cast (.int (nI 1)) (congrArg Value.int e_v1) ?_
              refine lq_aload_n C (i := 0) rfl 5 rfl dL_law_2631 ?_
              refine lq_iload C 1 rfl dL_law_2632 ?_
              refine lq_iconst C (x := nI 2) rfl dL_law_2634 ?_
              refine lq_iadd C dL_law_2635 ?_
              refine lq_cast (.int (nI 2)) (congrArg Value.int (by decide)) ?_
              refine lq_sld C 2 (by decide) (by decide) dL_law_2636 ?_
              refine lq_cast (.int (nI v2)) (congrArg Value.int e_v2) ?_
              refine lq_doM C (w229_weigh l v f g v2 (by omega) (by omega) Mf_49_1) lM_341 rfl rfl ⟨by decide, by decide⟩ ⟨Nat.le_of_ble_eq_true rfl, Nat.le_of_ble_eq_true rfl⟩ rfl (Nat.le_of_ble_eq_true rfl) dL_law_2637 ?_
              refine lq_istore C (lv' := [(6, .int (nI 1)), (5, .int (nI 0)), (4, .int (nI 0)), (3, .ref out), (2, .ref (a 0)), (1, .ref x), (0, .ref b)]) (by decide) rfl dL_law_2640 ?_
              refine lq_aload_n C (i := 2) rfl 4 rfl dL_law_2642 ?_
              refine lq_doM C (w8_thrown l (upd v 99 (nI 0)) (mU f 49 1 (nI v2)) g rfl) lM_192 rfl rfl ⟨by decide, by decide⟩ ⟨Nat.le_of_ble_eq_true rfl, Nat.le_of_ble_eq_true rfl⟩ rfl (Nat.le_of_ble_eq_true rfl) dL_law_2643 ?_
              refine lq_iload C 1 rfl dL_law_2646 ?_
              refine lq_icmp_eq C 2653 (by decide) dL_law_2648 (fun _ => ?_) (fun c_ => absurd (by decide) c_)
              refine lq_iload C 1 rfl dL_law_2653 ?_
              refine lq_if_ne C 2670 (by decide) dL_law_2655 (fun c_ => absurd (by decide) c_) (fun _ => ?_)
              refine lq_aload_n C (i := 3) rfl 3 rfl dL_law_2658 ?_
              refine lq_iconst C (x := nI 0) rfl dL_law_2659 ?_
              refine lq_laload C 0 (hm_SJ hS2 (hm_SI hS1 Fm_out)) (hk_SJ hS2 (hk_SI hS1 Fk_out)) (by rw [show cn _ _ = 1 from (hn_SJ hS2 (hn_SI hS1 Fn_out))]; decide) (by rw [show cn _ _ = 1 from (hn_SJ hS2 (hn_SI hS1 Fn_out))]; decide) dL_law_2660 ?_
              refine lq_cast (.long (((nI 1)).toInt64)) (congrArg Value.long (heJ_SJ_s hS2)) ?_
              refine lq_iload C 0 rfl dL_law_2661 ?_
              refine lq_i2l C dL_law_2663 ?_
              refine lq_lcmp C dL_law_2664 ?_
              refine lq_if_eqL C 2670 (by decide) dL_law_2665 ?_
              refine lq_goto C 3491 (by decide) dL_law_2670 ?_
              exact lq_sub [2, 6] rfl (law_tail C (Nat.le_of_ble_eq_true rfl) (Nat.le_of_ble_eq_true rfl))
          · obtain ⟨v3, e_v3⟩ : ∃ z : Int32, xs 3 = z := ⟨_, rfl⟩
            obtain ⟨v4, e_v4⟩ : ∃ z : Int32, xs 4 = z := ⟨_, rfl⟩
            obtain ⟨v5, e_v5⟩ : ∃ z : Int32, xs 5 = z := ⟨_, rfl⟩
            refine lq_aload_n C (i := 1) rfl 3 rfl dL_law_2605 ?_
            refine lq_aload_n C (i := 0) rfl 4 rfl dL_law_2606 ?_
            refine lq_iload C 0 rfl dL_law_2607 ?_
            refine lq_iconst C (x := nI 1) rfl dL_law_2609 ?_
            refine lq_iadd C dL_law_2610 ?_
            refine lq_cast (.int (nI 1)) (congrArg Value.int (by decide)) ?_
            refine lq_sld C 1 (by decide) (by decide) dL_law_2611 ?_
            refine lq_cast (.int (nI v1)) (congrArg Value.int e_v1) ?_
            refine lq_aload_n C (i := 0) rfl 4 rfl dL_law_2612 ?_
            refine lq_iload C 0 rfl dL_law_2613 ?_
            refine lq_iconst C (x := nI 2) rfl dL_law_2615 ?_
            refine lq_iadd C dL_law_2616 ?_
            refine lq_cast (.int (nI 2)) (congrArg Value.int (by decide)) ?_
            refine lq_sld C 2 (by decide) (by decide) dL_law_2617 ?_
            refine lq_cast (.int (nI v2)) (congrArg Value.int e_v2) ?_
            refine lq_aload_n C (i := 3) rfl 1 rfl dL_law_2618 ?_
            refine lq_callW C (z379_L_weigh l hlt S dp x out v1 v2 (by omega) (by omega) (by omega) Fm_x Fk_x) lH_339 rfl rfl ⟨by decide, by decide⟩ ⟨Nat.le_of_ble_eq_true rfl, Nat.le_of_ble_eq_true rfl⟩ rfl (Nat.le_of_ble_eq_true rfl) dL_law_2619 (fun r_2619 u_2619 h_2619 => ?_)
            obtain ⟨hr_2619, hu_2619⟩ := h_2619
            have hw_2619 := hu_2619.symm
            subst hw_2619
            have hx_2619 := hr_2619.symm
            subst hx_2619
            refine lq_istore C (lv' := [(5, .int (nI 2)), (4, .int (nI 0)), (3, .ref out), (2, .ref (a 0)), (1, .ref x), (0, .ref b)]) (by decide) rfl dL_law_2622 ?_
            refine lq_aload_n C (i := 2) rfl 3 rfl dL_law_2624 ?_
            refine lq_aload_n C (i := 0) rfl 5 rfl dL_law_2625 ?_
            refine lq_iload C 1 rfl dL_law_2626 ?_
            refine lq_iconst C (x := nI 1) rfl dL_law_2628 ?_
            refine lq_iadd C dL_law_2629 ?_
            refine lq_cast (.int (nI 1)) (congrArg Value.int (by decide)) ?_
            refine lq_sld C 1 (by decide) (by decide) dL_law_2630 ?_
            refine lq_cast (.int (nI v1)) (congrArg Value.int e_v1) ?_
            refine lq_aload_n C (i := 0) rfl 5 rfl dL_law_2631 ?_
            refine lq_iload C 1 rfl dL_law_2632 ?_
            refine lq_iconst C (x := nI 2) rfl dL_law_2634 ?_
            refine lq_iadd C dL_law_2635 ?_
            refine lq_cast (.int (nI 2)) (congrArg Value.int (by decide)) ?_
            refine lq_sld C 2 (by decide) (by decide) dL_law_2636 ?_
            refine lq_cast (.int (nI v2)) (congrArg Value.int e_v2) ?_
            refine lq_doM C (w230_weigh l v f g v1 v2 (by omega) (by omega) (by omega)) lM_341 rfl rfl ⟨by decide, by decide⟩ ⟨Nat.le_of_ble_eq_true rfl, Nat.le_of_ble_eq_true rfl⟩ rfl (Nat.le_of_ble_eq_true rfl) dL_law_2637 ?_
            refine lq_istore C (lv' := [(6, .int (nI 0)), (5, .int (nI 2)), (4, .int (nI 0)), (3, .ref out), (2, .ref (a 0)), (1, .ref x), (0, .ref b)]) (by decide) rfl dL_law_2640 ?_
            refine lq_aload_n C (i := 2) rfl 4 rfl dL_law_2642 ?_
            refine lq_doM C (w116_thrown l (upd v 99 (nI 2)) f g rfl) lM_192 rfl rfl ⟨by decide, by decide⟩ ⟨Nat.le_of_ble_eq_true rfl, Nat.le_of_ble_eq_true rfl⟩ rfl (Nat.le_of_ble_eq_true rfl) dL_law_2643 ?_
            refine lq_iload C 1 rfl dL_law_2646 ?_
            refine lq_icmp_eq C 2653 (by decide) dL_law_2648 (fun _ => ?_) (fun c_ => absurd (by decide) c_)
            refine lq_iload C 1 rfl dL_law_2653 ?_
            refine lq_if_ne C 2670 (by decide) dL_law_2655 (fun _ => ?_) (fun c_ => absurd c_ (by decide))
            refine lq_goto C 3491 (by decide) dL_law_2670 ?_
            exact lq_sub [2, 6] rfl (law_tail C (Nat.le_of_ble_eq_true rfl) (Nat.le_of_ble_eq_true rfl))
    · rcases c_sgn (xs 2) with hneg_v2 | ⟨v2, hr_v2, e_v2⟩
      · obtain ⟨v2, e_v2⟩ : ∃ z : Int32, xs 2 = z := ⟨_, rfl⟩
        rw [e_v2] at hneg_v2
        obtain ⟨v3, e_v3⟩ : ∃ z : Int32, xs 3 = z := ⟨_, rfl⟩
        obtain ⟨v4, e_v4⟩ : ∃ z : Int32, xs 4 = z := ⟨_, rfl⟩
        obtain ⟨v5, e_v5⟩ : ∃ z : Int32, xs 5 = z := ⟨_, rfl⟩
        refine lq_aload_n C (i := 1) rfl 3 rfl dL_law_2605 ?_
        refine lq_aload_n C (i := 0) rfl 4 rfl dL_law_2606 ?_
        refine lq_iload C 0 rfl dL_law_2607 ?_
        refine lq_iconst C (x := nI 1) rfl dL_law_2609 ?_
        refine lq_iadd C dL_law_2610 ?_
        refine lq_cast (.int (nI 1)) (congrArg Value.int (by decide)) ?_
        refine lq_sld C 1 (by decide) (by decide) dL_law_2611 ?_
        refine lq_cast (.int (nI v1)) (congrArg Value.int e_v1) ?_
        refine lq_aload_n C (i := 0) rfl 4 rfl dL_law_2612 ?_
        refine lq_iload C 0 rfl dL_law_2613 ?_
        refine lq_iconst C (x := nI 2) rfl dL_law_2615 ?_
        refine lq_iadd C dL_law_2616 ?_
        refine lq_cast (.int (nI 2)) (congrArg Value.int (by decide)) ?_
        refine lq_sld C 2 (by decide) (by decide) dL_law_2617 ?_
        refine lq_cast (.int v2) (congrArg Value.int e_v2) ?_
        refine lq_aload_n C (i := 3) rfl 1 rfl dL_law_2618 ?_
        refine lq_callW C (z383_L_weigh l hlt S dp x out v1 v2 (by omega) (by omega) hneg_v2 Fm_x Fk_x) lH_339 rfl rfl ⟨by decide, by decide⟩ ⟨Nat.le_of_ble_eq_true rfl, Nat.le_of_ble_eq_true rfl⟩ rfl (Nat.le_of_ble_eq_true rfl) dL_law_2619 (fun r_2619 u_2619 h_2619 => ?_)
        obtain ⟨hr_2619, hu_2619⟩ := h_2619
        have hw_2619 := hu_2619.symm
        subst hw_2619
        have hx_2619 := hr_2619.symm
        subst hx_2619
        refine lq_istore C (lv' := [(5, .int (nI 1)), (4, .int (nI 0)), (3, .ref out), (2, .ref (a 0)), (1, .ref x), (0, .ref b)]) (by decide) rfl dL_law_2622 ?_
        refine lq_aload_n C (i := 2) rfl 3 rfl dL_law_2624 ?_
        refine lq_aload_n C (i := 0) rfl 5 rfl dL_law_2625 ?_
        refine lq_iload C 1 rfl dL_law_2626 ?_
        refine lq_iconst C (x := nI 1) rfl dL_law_2628 ?_
        refine lq_iadd C dL_law_2629 ?_
        refine lq_cast (.int (nI 1)) (congrArg Value.int (by decide)) ?_
        refine lq_sld C 1 (by decide) (by decide) dL_law_2630 ?_
        refine lq_cast (.int (nI v1)) (congrArg Value.int e_v1) ?_
        refine lq_aload_n C (i := 0) rfl 5 rfl dL_law_2631 ?_
        refine lq_iload C 1 rfl dL_law_2632 ?_
        refine lq_iconst C (x := nI 2) rfl dL_law_2634 ?_
        refine lq_iadd C dL_law_2635 ?_
        refine lq_cast (.int (nI 2)) (congrArg Value.int (by decide)) ?_
        refine lq_sld C 2 (by decide) (by decide) dL_law_2636 ?_
        refine lq_cast (.int v2) (congrArg Value.int e_v2) ?_
        refine lq_doM C (w231_weigh l v f g v1 v2 (by omega) (by omega) hneg_v2) lM_341 rfl rfl ⟨by decide, by decide⟩ ⟨Nat.le_of_ble_eq_true rfl, Nat.le_of_ble_eq_true rfl⟩ rfl (Nat.le_of_ble_eq_true rfl) dL_law_2637 ?_
        refine lq_istore C (lv' := [(6, .int (nI 0)), (5, .int (nI 1)), (4, .int (nI 0)), (3, .ref out), (2, .ref (a 0)), (1, .ref x), (0, .ref b)]) (by decide) rfl dL_law_2640 ?_
        refine lq_aload_n C (i := 2) rfl 4 rfl dL_law_2642 ?_
        refine lq_doM C (w4_thrown l (upd v 99 (nI 1)) f g rfl) lM_192 rfl rfl ⟨by decide, by decide⟩ ⟨Nat.le_of_ble_eq_true rfl, Nat.le_of_ble_eq_true rfl⟩ rfl (Nat.le_of_ble_eq_true rfl) dL_law_2643 ?_
        refine lq_iload C 1 rfl dL_law_2646 ?_
        refine lq_icmp_eq C 2653 (by decide) dL_law_2648 (fun _ => ?_) (fun c_ => absurd (by decide) c_)
        refine lq_iload C 1 rfl dL_law_2653 ?_
        refine lq_if_ne C 2670 (by decide) dL_law_2655 (fun _ => ?_) (fun c_ => absurd c_ (by decide))
        refine lq_goto C 3491 (by decide) dL_law_2670 ?_
        exact lq_sub [2, 6] rfl (law_tail C (Nat.le_of_ble_eq_true rfl) (Nat.le_of_ble_eq_true rfl))
      · rcases Nat.lt_or_ge v2 1 with hlt_v2 | hlt_v2
        · obtain rfl : v2 = 0 := by omega
          obtain ⟨v3, e_v3⟩ : ∃ z : Int32, xs 3 = z := ⟨_, rfl⟩
          obtain ⟨v4, e_v4⟩ : ∃ z : Int32, xs 4 = z := ⟨_, rfl⟩
          obtain ⟨v5, e_v5⟩ : ∃ z : Int32, xs 5 = z := ⟨_, rfl⟩
          refine lq_aload_n C (i := 1) rfl 3 rfl dL_law_2605 ?_
          refine lq_aload_n C (i := 0) rfl 4 rfl dL_law_2606 ?_
          refine lq_iload C 0 rfl dL_law_2607 ?_
          refine lq_iconst C (x := nI 1) rfl dL_law_2609 ?_
          refine lq_iadd C dL_law_2610 ?_
          refine lq_cast (.int (nI 1)) (congrArg Value.int (by decide)) ?_
          refine lq_sld C 1 (by decide) (by decide) dL_law_2611 ?_
          refine lq_cast (.int (nI v1)) (congrArg Value.int e_v1) ?_
          refine lq_aload_n C (i := 0) rfl 4 rfl dL_law_2612 ?_
          refine lq_iload C 0 rfl dL_law_2613 ?_
          refine lq_iconst C (x := nI 2) rfl dL_law_2615 ?_
          refine lq_iadd C dL_law_2616 ?_
          refine lq_cast (.int (nI 2)) (congrArg Value.int (by decide)) ?_
          refine lq_sld C 2 (by decide) (by decide) dL_law_2617 ?_
          refine lq_cast (.int (nI 0)) (congrArg Value.int e_v2) ?_
          refine lq_aload_n C (i := 3) rfl 1 rfl dL_law_2618 ?_
          refine lq_callW C (z387_L_weigh l hlt S dp x out v1 (by omega) (by omega) Fm_x Fk_x) lH_339 rfl rfl ⟨by decide, by decide⟩ ⟨Nat.le_of_ble_eq_true rfl, Nat.le_of_ble_eq_true rfl⟩ rfl (Nat.le_of_ble_eq_true rfl) dL_law_2619 (fun r_2619 u_2619 h_2619 => ?_)
          obtain ⟨hr_2619, hu_2619⟩ := h_2619
          have hw_2619 := hu_2619.symm
          subst hw_2619
          have hx_2619 := hr_2619.symm
          subst hx_2619
          refine lq_istore C (lv' := [(5, .int (nI 1)), (4, .int (nI 0)), (3, .ref out), (2, .ref (a 0)), (1, .ref x), (0, .ref b)]) (by decide) rfl dL_law_2622 ?_
          refine lq_aload_n C (i := 2) rfl 3 rfl dL_law_2624 ?_
          refine lq_aload_n C (i := 0) rfl 5 rfl dL_law_2625 ?_
          refine lq_iload C 1 rfl dL_law_2626 ?_
          refine lq_iconst C (x := nI 1) rfl dL_law_2628 ?_
          refine lq_iadd C dL_law_2629 ?_
          refine lq_cast (.int (nI 1)) (congrArg Value.int (by decide)) ?_
          refine lq_sld C 1 (by decide) (by decide) dL_law_2630 ?_
          refine lq_cast (.int (nI v1)) (congrArg Value.int e_v1) ?_
          refine lq_aload_n C (i := 0) rfl 5 rfl dL_law_2631 ?_
          refine lq_iload C 1 rfl dL_law_2632 ?_
          refine lq_iconst C (x := nI 2) rfl dL_law_2634 ?_
          refine lq_iadd C dL_law_2635 ?_
          refine lq_cast (.int (nI 2)) (congrArg Value.int (by decide)) ?_
          refine lq_sld C 2 (by decide) (by decide) dL_law_2636 ?_
          refine lq_cast (.int (nI 0)) (congrArg Value.int e_v2) ?_
          refine lq_doM C (w232_weigh l v f g v1 (by omega) (by omega)) lM_341 rfl rfl ⟨by decide, by decide⟩ ⟨Nat.le_of_ble_eq_true rfl, Nat.le_of_ble_eq_true rfl⟩ rfl (Nat.le_of_ble_eq_true rfl) dL_law_2637 ?_
          refine lq_istore C (lv' := [(6, .int (nI 0)), (5, .int (nI 1)), (4, .int (nI 0)), (3, .ref out), (2, .ref (a 0)), (1, .ref x), (0, .ref b)]) (by decide) rfl dL_law_2640 ?_
          refine lq_aload_n C (i := 2) rfl 4 rfl dL_law_2642 ?_
          refine lq_doM C (w4_thrown l (upd v 99 (nI 1)) f g rfl) lM_192 rfl rfl ⟨by decide, by decide⟩ ⟨Nat.le_of_ble_eq_true rfl, Nat.le_of_ble_eq_true rfl⟩ rfl (Nat.le_of_ble_eq_true rfl) dL_law_2643 ?_
          refine lq_iload C 1 rfl dL_law_2646 ?_
          refine lq_icmp_eq C 2653 (by decide) dL_law_2648 (fun _ => ?_) (fun c_ => absurd (by decide) c_)
          refine lq_iload C 1 rfl dL_law_2653 ?_
          refine lq_if_ne C 2670 (by decide) dL_law_2655 (fun _ => ?_) (fun c_ => absurd c_ (by decide))
          refine lq_goto C 3491 (by decide) dL_law_2670 ?_
          exact lq_sub [2, 6] rfl (law_tail C (Nat.le_of_ble_eq_true rfl) (Nat.le_of_ble_eq_true rfl))
        · rcases Nat.lt_or_ge v2 10 with hlt_v2 | hlt_v2
          · obtain ⟨v3, e_v3⟩ : ∃ z : Int32, xs 3 = z := ⟨_, rfl⟩
            obtain ⟨v4, e_v4⟩ : ∃ z : Int32, xs 4 = z := ⟨_, rfl⟩
            obtain ⟨v5, e_v5⟩ : ∃ z : Int32, xs 5 = z := ⟨_, rfl⟩
            refine lq_aload_n C (i := 1) rfl 3 rfl dL_law_2605 ?_
            refine lq_aload_n C (i := 0) rfl 4 rfl dL_law_2606 ?_
            refine lq_iload C 0 rfl dL_law_2607 ?_
            refine lq_iconst C (x := nI 1) rfl dL_law_2609 ?_
            refine lq_iadd C dL_law_2610 ?_
            refine lq_cast (.int (nI 1)) (congrArg Value.int (by decide)) ?_
            refine lq_sld C 1 (by decide) (by decide) dL_law_2611 ?_
            refine lq_cast (.int (nI v1)) (congrArg Value.int e_v1) ?_
            refine lq_aload_n C (i := 0) rfl 4 rfl dL_law_2612 ?_
            refine lq_iload C 0 rfl dL_law_2613 ?_
            refine lq_iconst C (x := nI 2) rfl dL_law_2615 ?_
            refine lq_iadd C dL_law_2616 ?_
            refine lq_cast (.int (nI 2)) (congrArg Value.int (by decide)) ?_
            refine lq_sld C 2 (by decide) (by decide) dL_law_2617 ?_
            refine lq_cast (.int (nI v2)) (congrArg Value.int e_v2) ?_
            refine lq_aload_n C (i := 3) rfl 1 rfl dL_law_2618 ?_
            refine lq_callW C (z391_L_weigh l hlt S dp x out v1 v2 (by omega) (by omega) (by omega) (by omega) Fm_x Fk_x) lH_339 rfl rfl ⟨by decide, by decide⟩ ⟨Nat.le_of_ble_eq_true rfl, Nat.le_of_ble_eq_true rfl⟩ rfl (Nat.le_of_ble_eq_true rfl) dL_law_2619 (fun r_2619 u_2619 h_2619 => ?_)
            obtain ⟨hr_2619, hu_2619⟩ := h_2619
            have hw_2619 := hu_2619.symm
            subst hw_2619
            have hx_2619 := hr_2619.symm
            subst hx_2619
            refine lq_istore C (lv' := [(5, .int (nI 1)), (4, .int (nI 0)), (3, .ref out), (2, .ref (a 0)), (1, .ref x), (0, .ref b)]) (by decide) rfl dL_law_2622 ?_
            refine lq_aload_n C (i := 2) rfl 3 rfl dL_law_2624 ?_
            refine lq_aload_n C (i := 0) rfl 5 rfl dL_law_2625 ?_
            refine lq_iload C 1 rfl dL_law_2626 ?_
            refine lq_iconst C (x := nI 1) rfl dL_law_2628 ?_
            refine lq_iadd C dL_law_2629 ?_
            refine lq_cast (.int (nI 1)) (congrArg Value.int (by decide)) ?_
            refine lq_sld C 1 (by decide) (by decide) dL_law_2630 ?_
            refine lq_cast (.int (nI v1)) (congrArg Value.int e_v1) ?_
            refine lq_aload_n C (i := 0) rfl 5 rfl dL_law_2631 ?_
            refine lq_iload C 1 rfl dL_law_2632 ?_
            refine lq_iconst C (x := nI 2) rfl dL_law_2634 ?_
            refine lq_iadd C dL_law_2635 ?_
            refine lq_cast (.int (nI 2)) (congrArg Value.int (by decide)) ?_
            refine lq_sld C 2 (by decide) (by decide) dL_law_2636 ?_
            refine lq_cast (.int (nI v2)) (congrArg Value.int e_v2) ?_
            refine lq_doM C (w233_weigh l v f g v1 v2 (by omega) (by omega) (by omega) (by omega)) lM_341 rfl rfl ⟨by decide, by decide⟩ ⟨Nat.le_of_ble_eq_true rfl, Nat.le_of_ble_eq_true rfl⟩ rfl (Nat.le_of_ble_eq_true rfl) dL_law_2637 ?_
            refine lq_istore C (lv' := [(6, .int (nI 0)), (5, .int (nI 1)), (4, .int (nI 0)), (3, .ref out), (2, .ref (a 0)), (1, .ref x), (0, .ref b)]) (by decide) rfl dL_law_2640 ?_
            refine lq_aload_n C (i := 2) rfl 4 rfl dL_law_2642 ?_
            refine lq_doM C (w4_thrown l (upd v 99 (nI 1)) f g rfl) lM_192 rfl rfl ⟨by decide, by decide⟩ ⟨Nat.le_of_ble_eq_true rfl, Nat.le_of_ble_eq_true rfl⟩ rfl (Nat.le_of_ble_eq_true rfl) dL_law_2643 ?_
            refine lq_iload C 1 rfl dL_law_2646 ?_
            refine lq_icmp_eq C 2653 (by decide) dL_law_2648 (fun _ => ?_) (fun c_ => absurd (by decide) c_)
            refine lq_iload C 1 rfl dL_law_2653 ?_
            refine lq_if_ne C 2670 (by decide) dL_law_2655 (fun _ => ?_) (fun c_ => absurd c_ (by decide))
            refine lq_goto C 3491 (by decide) dL_law_2670 ?_
            exact lq_sub [2, 6] rfl (law_tail C (Nat.le_of_ble_eq_true rfl) (Nat.le_of_ble_eq_true rfl))
          · obtain ⟨v3, e_v3⟩ : ∃ z : Int32, xs 3 = z := ⟨_, rfl⟩
            obtain ⟨v4, e_v4⟩ : ∃ z : Int32, xs 4 = z := ⟨_, rfl⟩
            obtain ⟨v5, e_v5⟩ : ∃ z : Int32, xs 5 = z := ⟨_, rfl⟩
            refine lq_aload_n C (i := 1) rfl 3 rfl dL_law_2605 ?_
            refine lq_aload_n C (i := 0) rfl 4 rfl dL_law_2606 ?_
            refine lq_iload C 0 rfl dL_law_2607 ?_
            refine lq_iconst C (x := nI 1) rfl dL_law_2609 ?_
            refine lq_iadd C dL_law_2610 ?_
            refine lq_cast (.int (nI 1)) (congrArg Value.int (by decide)) ?_
            refine lq_sld C 1 (by decide) (by decide) dL_law_2611 ?_
            refine lq_cast (.int (nI v1)) (congrArg Value.int e_v1) ?_
            refine lq_aload_n C (i := 0) rfl 4 rfl dL_law_2612 ?_
            refine lq_iload C 0 rfl dL_law_2613 ?_
            refine lq_iconst C (x := nI 2) rfl dL_law_2615 ?_
            refine lq_iadd C dL_law_2616 ?_
            refine lq_cast (.int (nI 2)) (congrArg Value.int (by decide)) ?_
            refine lq_sld C 2 (by decide) (by decide) dL_law_2617 ?_
            refine lq_cast (.int (nI v2)) (congrArg Value.int e_v2) ?_
            refine lq_aload_n C (i := 3) rfl 1 rfl dL_law_2618 ?_
            refine lq_callW C (z393_L_weigh l hlt S dp x out v1 v2 (by omega) (by omega) (by omega) (by omega) Fm_x Fk_x) lH_339 rfl rfl ⟨by decide, by decide⟩ ⟨Nat.le_of_ble_eq_true rfl, Nat.le_of_ble_eq_true rfl⟩ rfl (Nat.le_of_ble_eq_true rfl) dL_law_2619 (fun r_2619 u_2619 h_2619 => ?_)
            obtain ⟨hr_2619, hu_2619⟩ := h_2619
            have hw_2619 := hu_2619.symm
            subst hw_2619
            have hx_2619 := hr_2619.symm
            subst hx_2619
            refine lq_istore C (lv' := [(5, .int (nI 1)), (4, .int (nI 0)), (3, .ref out), (2, .ref (a 0)), (1, .ref x), (0, .ref b)]) (by decide) rfl dL_law_2622 ?_
            refine lq_aload_n C (i := 2) rfl 3 rfl dL_law_2624 ?_
            refine lq_aload_n C (i := 0) rfl 5 rfl dL_law_2625 ?_
            refine lq_iload C 1 rfl dL_law_2626 ?_
            refine lq_iconst C (x := nI 1) rfl dL_law_2628 ?_
            refine lq_iadd C dL_law_2629 ?_
            refine lq_cast (.int (nI 1)) (congrArg Value.int (by decide)) ?_
            refine lq_sld C 1 (by decide) (by decide) dL_law_2630 ?_
            refine lq_cast (.int (nI v1)) (congrArg Value.int e_v1) ?_
            refine lq_aload_n C (i := 0) rfl 5 rfl dL_law_2631 ?_
            refine lq_iload C 1 rfl dL_law_2632 ?_
            refine lq_iconst C (x := nI 2) rfl dL_law_2634 ?_
            refine lq_iadd C dL_law_2635 ?_
            refine lq_cast (.int (nI 2)) (congrArg Value.int (by decide)) ?_
            refine lq_sld C 2 (by decide) (by decide) dL_law_2636 ?_
            refine lq_cast (.int (nI v2)) (congrArg Value.int e_v2) ?_
            refine lq_doM C (w234_weigh l v f g v1 v2 (by omega) (by omega) (by omega) (by omega)) lM_341 rfl rfl ⟨by decide, by decide⟩ ⟨Nat.le_of_ble_eq_true rfl, Nat.le_of_ble_eq_true rfl⟩ rfl (Nat.le_of_ble_eq_true rfl) dL_law_2637 ?_
            refine lq_istore C (lv' := [(6, .int (nI 0)), (5, .int (nI 1)), (4, .int (nI 0)), (3, .ref out), (2, .ref (a 0)), (1, .ref x), (0, .ref b)]) (by decide) rfl dL_law_2640 ?_
            refine lq_aload_n C (i := 2) rfl 4 rfl dL_law_2642 ?_
            refine lq_doM C (w4_thrown l (upd v 99 (nI 1)) f g rfl) lM_192 rfl rfl ⟨by decide, by decide⟩ ⟨Nat.le_of_ble_eq_true rfl, Nat.le_of_ble_eq_true rfl⟩ rfl (Nat.le_of_ble_eq_true rfl) dL_law_2643 ?_
            refine lq_iload C 1 rfl dL_law_2646 ?_
            refine lq_icmp_eq C 2653 (by decide) dL_law_2648 (fun _ => ?_) (fun c_ => absurd (by decide) c_)
            refine lq_iload C 1 rfl dL_law_2653 ?_
            refine lq_if_ne C 2670 (by decide) dL_law_2655 (fun _ => ?_) (fun c_ => absurd c_ (by decide))
            refine lq_goto C 3491 (by decide) dL_law_2670 ?_
            exact lq_sub [2, 6] rfl (law_tail C (Nat.le_of_ble_eq_true rfl) (Nat.le_of_ble_eq_true rfl))
set_option maxHeartbeats 8000000 in
set_option maxRecDepth 100000 in
theorem law_case45 (C : lC p l s m meth c b 6 xs D Y tp dp) {S : cS} {a : Nat → Nat} {v : Nat → Int32} {f : Nat → Nat → Int32} {g : Nat → Nat → Int64} {x out q1 q2 q3 q10 q11 q15 q19 q20 q21 q22 q23 q29 q30 q37 : Nat} (F : cFr S dp x out q1 q2 q3 q10 q11 q15 q19 q20 q21 q22 q23 q29 q30 q37) (M : mFr v f g) : lG p l e s m below meth c b D Y 174 409927 2673 [(4, .int (nI 0)), (3, .ref out), (2, .ref (a 0)), (1, .ref x), (0, .ref b)] [] S a v f g := by
  have hlt := C.2.2.2.2.2.2.2.2.2.2.1
  obtain ⟨FeI_q30_0, FeI_q30_1, Fi_195_q23, Fi_289_q11, Fi_289_q15, Fi_289_q2, Fi_33_q37, Fi_361_x, Fi_366_x, Fi_368_x, Fi_369_x, Fi_36_q37, Fi_370_x, Fi_37_q37, Fi_384_q19, Fi_384_q22, Fi_386_q19, Fi_386_q21, Fi_386_q22, Fk_out, Fk_q1, Fk_q10, Fk_q11, Fk_q15, Fk_q19, Fk_q2, Fk_q20, Fk_q21, Fk_q22, Fk_q23, Fk_q29, Fk_q3, Fk_q30, Fk_q37, Fk_x, Fm_out, Fm_q1, Fm_q10, Fm_q11, Fm_q15, Fm_q19, Fm_q2, Fm_q20, Fm_q21, Fm_q22, Fm_q23, Fm_q29, Fm_q3, Fm_q30, Fm_q37, Fm_x, Fn_out, Fn_q3, Fn_q30, Fr_224_q29, Fr_288_q2, Fr_321_q20, Fr_352_x, Fr_353_x, Fr_354_x, Fr_355_x, Fr_356_x, Fr_358_x, Fr_359_x, Fr_360_x, Fr_362_x, Fr_364_x, Fr_365_x, Fr_385_q19, Fr_385_q22, Fr_3_q10, Fr_4_q10, Fr_96_q1⟩ := F
  obtain ⟨Mall_21, Mall_22, Mf_29_0, Mf_29_1, Mf_29_2, Mf_29_3, Mf_29_4, Mf_49_0, Mf_49_1, Mf_8_0, Mf_8_1, Mg_7_0, Mg_7_1, Mg_7_10, Mg_7_11, Mg_7_12, Mg_7_13, Mg_7_14, Mg_7_15, Mg_7_16, Mg_7_17, Mg_7_18, Mg_7_19, Mg_7_2, Mg_7_20, Mg_7_21, Mg_7_22, Mg_7_23, Mg_7_24, Mg_7_25, Mg_7_26, Mg_7_27, Mg_7_28, Mg_7_29, Mg_7_3, Mg_7_30, Mg_7_31, Mg_7_32, Mg_7_33, Mg_7_34, Mg_7_35, Mg_7_36, Mg_7_37, Mg_7_38, Mg_7_39, Mg_7_4, Mg_7_5, Mg_7_6, Mg_7_7, Mg_7_8, Mg_7_9, Mv_13, Mv_14, Mv_2, Mv_20, Mv_29, Mv_34, Mv_35, Mv_40, Mv_48, Mv_49, Mv_72, Mv_88, Mv_89, Mv_90, Mv_96, Mv_97, Mv_98⟩ := M
  rcases c_sgn (xs 1) with hneg_v1 | ⟨v1, hr_v1, e_v1⟩
  · obtain ⟨v1, e_v1⟩ : ∃ z : Int32, xs 1 = z := ⟨_, rfl⟩
    rw [e_v1] at hneg_v1
    rcases c_sgn (xs 3) with hneg_v3 | ⟨v3, hr_v3, e_v3⟩
    · obtain ⟨v3, e_v3⟩ : ∃ z : Int32, xs 3 = z := ⟨_, rfl⟩
      rw [e_v3] at hneg_v3
      obtain ⟨v2, e_v2⟩ : ∃ z : Int32, xs 2 = z := ⟨_, rfl⟩
      obtain ⟨v4, e_v4⟩ : ∃ z : Int32, xs 4 = z := ⟨_, rfl⟩
      obtain ⟨v5, e_v5⟩ : ∃ z : Int32, xs 5 = z := ⟨_, rfl⟩
      refine lq_aload_n C (i := 1) rfl 3 rfl dL_law_2673 ?_
      refine lq_aload_n C (i := 0) rfl 4 rfl dL_law_2674 ?_
      refine lq_iload C 0 rfl dL_law_2675 ?_
      refine lq_iconst C (x := nI 1) rfl dL_law_2677 ?_
      refine lq_iadd C dL_law_2678 ?_
      refine lq_cast (.int (nI 1)) (congrArg Value.int (by decide)) ?_
      refine lq_sld C 1 (by decide) (by decide) dL_law_2679 ?_
      refine lq_cast (.int v1) (congrArg Value.int e_v1) ?_
      refine lq_aload_n C (i := 0) rfl 4 rfl dL_law_2680 ?_
      refine lq_iload C 0 rfl dL_law_2681 ?_
      refine lq_iconst C (x := nI 2) rfl dL_law_2683 ?_
      refine lq_iadd C dL_law_2684 ?_
      refine lq_cast (.int (nI 2)) (congrArg Value.int (by decide)) ?_
      refine lq_sld C 2 (by decide) (by decide) dL_law_2685 ?_
      refine lq_cast (.int v2) (congrArg Value.int e_v2) ?_
      refine lq_aload_n C (i := 0) rfl 4 rfl dL_law_2686 ?_
      refine lq_iload C 0 rfl dL_law_2687 ?_
      refine lq_iconst C (x := nI 3) rfl dL_law_2689 ?_
      refine lq_iadd C dL_law_2690 ?_
      refine lq_cast (.int (nI 3)) (congrArg Value.int (by decide)) ?_
      refine lq_sld C 3 (by decide) (by decide) dL_law_2691 ?_
      refine lq_cast (.int v3) (congrArg Value.int e_v3) ?_
      refine lq_aload_n C (i := 3) rfl 1 rfl dL_law_2692 ?_
      refine lq_callW C (z399_L_find l hlt S dp x out q22 v1 v2 v3 hneg_v1 hneg_v3 Fr_360_x Fk_x Fm_x Fi_386_q22 Fk_q22 Fm_q22) lH_342 rfl rfl ⟨by decide, by decide⟩ ⟨Nat.le_of_ble_eq_true rfl, Nat.le_of_ble_eq_true rfl⟩ rfl (Nat.le_of_ble_eq_true rfl) dL_law_2693 (fun r_2693 u_2693 h_2693 => ?_)
      obtain ⟨hr_2693, hu_2693⟩ := h_2693
      have hw_2693 := hu_2693.symm
      subst hw_2693
      have hx_2693 := hr_2693.symm
      subst hx_2693
      refine lq_istore C (lv' := [(5, .int (nI 1)), (4, .int (nI 0)), (3, .ref out), (2, .ref (a 0)), (1, .ref x), (0, .ref b)]) (by decide) rfl dL_law_2696 ?_
      refine lq_aload_n C (i := 2) rfl 3 rfl dL_law_2698 ?_
      refine lq_aload_n C (i := 0) rfl 5 rfl dL_law_2699 ?_
      refine lq_iload C 1 rfl dL_law_2700 ?_
      refine lq_iconst C (x := nI 1) rfl dL_law_2702 ?_
      refine lq_iadd C dL_law_2703 ?_
      refine lq_cast (.int (nI 1)) (congrArg Value.int (by decide)) ?_
      refine lq_sld C 1 (by decide) (by decide) dL_law_2704 ?_
      refine lq_cast (.int v1) (congrArg Value.int e_v1) ?_
      refine lq_aload_n C (i := 0) rfl 5 rfl dL_law_2705 ?_
      refine lq_iload C 1 rfl dL_law_2706 ?_
      refine lq_iconst C (x := nI 2) rfl dL_law_2708 ?_
      refine lq_iadd C dL_law_2709 ?_
      refine lq_cast (.int (nI 2)) (congrArg Value.int (by decide)) ?_
      refine lq_sld C 2 (by decide) (by decide) dL_law_2710 ?_
      refine lq_cast (.int v2) (congrArg Value.int e_v2) ?_
      refine lq_aload_n C (i := 0) rfl 5 rfl dL_law_2711 ?_
      refine lq_iload C 1 rfl dL_law_2712 ?_
      refine lq_iconst C (x := nI 3) rfl dL_law_2714 ?_
      refine lq_iadd C dL_law_2715 ?_
      refine lq_cast (.int (nI 3)) (congrArg Value.int (by decide)) ?_
      refine lq_sld C 3 (by decide) (by decide) dL_law_2716 ?_
      refine lq_cast (.int v3) (congrArg Value.int e_v3) ?_
      refine lq_doM C (w236_find l v f g v1 v2 v3 hneg_v1 hneg_v3) lM_344 rfl rfl ⟨by decide, by decide⟩ ⟨Nat.le_of_ble_eq_true rfl, Nat.le_of_ble_eq_true rfl⟩ rfl (Nat.le_of_ble_eq_true rfl) dL_law_2717 ?_
      refine lq_istore C (lv' := [(6, .int (nI 0)), (5, .int (nI 1)), (4, .int (nI 0)), (3, .ref out), (2, .ref (a 0)), (1, .ref x), (0, .ref b)]) (by decide) rfl dL_law_2720 ?_
      refine lq_aload_n C (i := 2) rfl 4 rfl dL_law_2722 ?_
      refine lq_doM C (w4_thrown l (upd v 99 (nI 1)) f g rfl) lM_192 rfl rfl ⟨by decide, by decide⟩ ⟨Nat.le_of_ble_eq_true rfl, Nat.le_of_ble_eq_true rfl⟩ rfl (Nat.le_of_ble_eq_true rfl) dL_law_2723 ?_
      refine lq_iload C 1 rfl dL_law_2726 ?_
      refine lq_icmp_eq C 2733 (by decide) dL_law_2728 (fun _ => ?_) (fun c_ => absurd (by decide) c_)
      refine lq_iload C 1 rfl dL_law_2733 ?_
      refine lq_if_ne C 2750 (by decide) dL_law_2735 (fun _ => ?_) (fun c_ => absurd c_ (by decide))
      refine lq_goto C 3491 (by decide) dL_law_2750 ?_
      exact lq_sub [2, 6] rfl (law_tail C (Nat.le_of_ble_eq_true rfl) (Nat.le_of_ble_eq_true rfl))
    · rcases Nat.lt_or_ge v3 1 with hlt_v3 | hlt_v3
      · obtain rfl : v3 = 0 := by omega
        obtain ⟨v2, e_v2⟩ : ∃ z : Int32, xs 2 = z := ⟨_, rfl⟩
        obtain ⟨v4, e_v4⟩ : ∃ z : Int32, xs 4 = z := ⟨_, rfl⟩
        obtain ⟨v5, e_v5⟩ : ∃ z : Int32, xs 5 = z := ⟨_, rfl⟩
        refine lq_aload_n C (i := 1) rfl 3 rfl dL_law_2673 ?_
        refine lq_aload_n C (i := 0) rfl 4 rfl dL_law_2674 ?_
        refine lq_iload C 0 rfl dL_law_2675 ?_
        refine lq_iconst C (x := nI 1) rfl dL_law_2677 ?_
        refine lq_iadd C dL_law_2678 ?_
        refine lq_cast (.int (nI 1)) (congrArg Value.int (by decide)) ?_
        refine lq_sld C 1 (by decide) (by decide) dL_law_2679 ?_
        refine lq_cast (.int v1) (congrArg Value.int e_v1) ?_
        refine lq_aload_n C (i := 0) rfl 4 rfl dL_law_2680 ?_
        refine lq_iload C 0 rfl dL_law_2681 ?_
        refine lq_iconst C (x := nI 2) rfl dL_law_2683 ?_
        refine lq_iadd C dL_law_2684 ?_
        refine lq_cast (.int (nI 2)) (congrArg Value.int (by decide)) ?_
        refine lq_sld C 2 (by decide) (by decide) dL_law_2685 ?_
        refine lq_cast (.int v2) (congrArg Value.int e_v2) ?_
        refine lq_aload_n C (i := 0) rfl 4 rfl dL_law_2686 ?_
        refine lq_iload C 0 rfl dL_law_2687 ?_
        refine lq_iconst C (x := nI 3) rfl dL_law_2689 ?_
        refine lq_iadd C dL_law_2690 ?_
        refine lq_cast (.int (nI 3)) (congrArg Value.int (by decide)) ?_
        refine lq_sld C 3 (by decide) (by decide) dL_law_2691 ?_
        refine lq_cast (.int (nI 0)) (congrArg Value.int e_v3) ?_
        refine lq_aload_n C (i := 3) rfl 1 rfl dL_law_2692 ?_
        refine lq_callW C (z403_L_find l hlt S dp x out q22 v1 v2 hneg_v1 Fr_360_x Fk_x Fm_x Fi_386_q22 Fk_q22 Fm_q22) lH_342 rfl rfl ⟨by decide, by decide⟩ ⟨Nat.le_of_ble_eq_true rfl, Nat.le_of_ble_eq_true rfl⟩ rfl (Nat.le_of_ble_eq_true rfl) dL_law_2693 (fun r_2693 u_2693 h_2693 => ?_)
        obtain ⟨hr_2693, hu_2693⟩ := h_2693
        have hw_2693 := hu_2693.symm
        subst hw_2693
        have hx_2693 := hr_2693.symm
        subst hx_2693
        refine lq_istore C (lv' := [(5, .int (nI 1)), (4, .int (nI 0)), (3, .ref out), (2, .ref (a 0)), (1, .ref x), (0, .ref b)]) (by decide) rfl dL_law_2696 ?_
        refine lq_aload_n C (i := 2) rfl 3 rfl dL_law_2698 ?_
        refine lq_aload_n C (i := 0) rfl 5 rfl dL_law_2699 ?_
        refine lq_iload C 1 rfl dL_law_2700 ?_
        refine lq_iconst C (x := nI 1) rfl dL_law_2702 ?_
        refine lq_iadd C dL_law_2703 ?_
        refine lq_cast (.int (nI 1)) (congrArg Value.int (by decide)) ?_
        refine lq_sld C 1 (by decide) (by decide) dL_law_2704 ?_
        refine lq_cast (.int v1) (congrArg Value.int e_v1) ?_
        refine lq_aload_n C (i := 0) rfl 5 rfl dL_law_2705 ?_
        refine lq_iload C 1 rfl dL_law_2706 ?_
        refine lq_iconst C (x := nI 2) rfl dL_law_2708 ?_
        refine lq_iadd C dL_law_2709 ?_
        refine lq_cast (.int (nI 2)) (congrArg Value.int (by decide)) ?_
        refine lq_sld C 2 (by decide) (by decide) dL_law_2710 ?_
        refine lq_cast (.int v2) (congrArg Value.int e_v2) ?_
        refine lq_aload_n C (i := 0) rfl 5 rfl dL_law_2711 ?_
        refine lq_iload C 1 rfl dL_law_2712 ?_
        refine lq_iconst C (x := nI 3) rfl dL_law_2714 ?_
        refine lq_iadd C dL_law_2715 ?_
        refine lq_cast (.int (nI 3)) (congrArg Value.int (by decide)) ?_
        refine lq_sld C 3 (by decide) (by decide) dL_law_2716 ?_
        refine lq_cast (.int (nI 0)) (congrArg Value.int e_v3) ?_
        refine lq_doM C (w237_find l v f g v1 v2 hneg_v1) lM_344 rfl rfl ⟨by decide, by decide⟩ ⟨Nat.le_of_ble_eq_true rfl, Nat.le_of_ble_eq_true rfl⟩ rfl (Nat.le_of_ble_eq_true rfl) dL_law_2717 ?_
        refine lq_istore C (lv' := [(6, .int (nI 0)), (5, .int (nI 1)), (4, .int (nI 0)), (3, .ref out), (2, .ref (a 0)), (1, .ref x), (0, .ref b)]) (by decide) rfl dL_law_2720 ?_
        refine lq_aload_n C (i := 2) rfl 4 rfl dL_law_2722 ?_
        refine lq_doM C (w4_thrown l (upd v 99 (nI 1)) f g rfl) lM_192 rfl rfl ⟨by decide, by decide⟩ ⟨Nat.le_of_ble_eq_true rfl, Nat.le_of_ble_eq_true rfl⟩ rfl (Nat.le_of_ble_eq_true rfl) dL_law_2723 ?_
        refine lq_iload C 1 rfl dL_law_2726 ?_
        refine lq_icmp_eq C 2733 (by decide) dL_law_2728 (fun _ => ?_) (fun c_ => absurd (by decide) c_)
        refine lq_iload C 1 rfl dL_law_2733 ?_
        refine lq_if_ne C 2750 (by decide) dL_law_2735 (fun _ => ?_) (fun c_ => absurd c_ (by decide))
        refine lq_goto C 3491 (by decide) dL_law_2750 ?_
        exact lq_sub [2, 6] rfl (law_tail C (Nat.le_of_ble_eq_true rfl) (Nat.le_of_ble_eq_true rfl))
      · rcases Nat.lt_or_ge v3 21 with hlt_v3 | hlt_v3
        · obtain ⟨v2, e_v2⟩ : ∃ z : Int32, xs 2 = z := ⟨_, rfl⟩
          obtain ⟨v4, e_v4⟩ : ∃ z : Int32, xs 4 = z := ⟨_, rfl⟩
          obtain ⟨v5, e_v5⟩ : ∃ z : Int32, xs 5 = z := ⟨_, rfl⟩
          refine lq_aload_n C (i := 1) rfl 3 rfl dL_law_2673 ?_
          refine lq_aload_n C (i := 0) rfl 4 rfl dL_law_2674 ?_
          refine lq_iload C 0 rfl dL_law_2675 ?_
          refine lq_iconst C (x := nI 1) rfl dL_law_2677 ?_
          refine lq_iadd C dL_law_2678 ?_
          refine lq_cast (.int (nI 1)) (congrArg Value.int (by decide)) ?_
          refine lq_sld C 1 (by decide) (by decide) dL_law_2679 ?_
          refine lq_cast (.int v1) (congrArg Value.int e_v1) ?_
          refine lq_aload_n C (i := 0) rfl 4 rfl dL_law_2680 ?_
          refine lq_iload C 0 rfl dL_law_2681 ?_
          refine lq_iconst C (x := nI 2) rfl dL_law_2683 ?_
          refine lq_iadd C dL_law_2684 ?_
          refine lq_cast (.int (nI 2)) (congrArg Value.int (by decide)) ?_
          refine lq_sld C 2 (by decide) (by decide) dL_law_2685 ?_
          refine lq_cast (.int v2) (congrArg Value.int e_v2) ?_
          refine lq_aload_n C (i := 0) rfl 4 rfl dL_law_2686 ?_
          refine lq_iload C 0 rfl dL_law_2687 ?_
          refine lq_iconst C (x := nI 3) rfl dL_law_2689 ?_
          refine lq_iadd C dL_law_2690 ?_
          refine lq_cast (.int (nI 3)) (congrArg Value.int (by decide)) ?_
          refine lq_sld C 3 (by decide) (by decide) dL_law_2691 ?_
          refine lq_cast (.int (nI v3)) (congrArg Value.int e_v3) ?_
          refine lq_aload_n C (i := 3) rfl 1 rfl dL_law_2692 ?_
          refine lq_callW C (z407_L_find l hlt S dp x out q22 v3 v1 v2 hneg_v1 (by omega) (by omega) Fr_360_x Fk_x Fm_x Fi_386_q22 Fk_q22 Fm_q22) lH_342 rfl rfl ⟨by decide, by decide⟩ ⟨Nat.le_of_ble_eq_true rfl, Nat.le_of_ble_eq_true rfl⟩ rfl (Nat.le_of_ble_eq_true rfl) dL_law_2693 (fun r_2693 u_2693 h_2693 => ?_)
          obtain ⟨hr_2693, hu_2693⟩ := h_2693
          have hw_2693 := hu_2693.symm
          subst hw_2693
          have hx_2693 := hr_2693.symm
          subst hx_2693
          refine lq_istore C (lv' := [(5, .int (nI 1)), (4, .int (nI 0)), (3, .ref out), (2, .ref (a 0)), (1, .ref x), (0, .ref b)]) (by decide) rfl dL_law_2696 ?_
          refine lq_aload_n C (i := 2) rfl 3 rfl dL_law_2698 ?_
          refine lq_aload_n C (i := 0) rfl 5 rfl dL_law_2699 ?_
          refine lq_iload C 1 rfl dL_law_2700 ?_
          refine lq_iconst C (x := nI 1) rfl dL_law_2702 ?_
          refine lq_iadd C dL_law_2703 ?_
          refine lq_cast (.int (nI 1)) (congrArg Value.int (by decide)) ?_
          refine lq_sld C 1 (by decide) (by decide) dL_law_2704 ?_
          refine lq_cast (.int v1) (congrArg Value.int e_v1) ?_
          refine lq_aload_n C (i := 0) rfl 5 rfl dL_law_2705 ?_
          refine lq_iload C 1 rfl dL_law_2706 ?_
          refine lq_iconst C (x := nI 2) rfl dL_law_2708 ?_
          refine lq_iadd C dL_law_2709 ?_
          refine lq_cast (.int (nI 2)) (congrArg Value.int (by decide)) ?_
          refine lq_sld C 2 (by decide) (by decide) dL_law_2710 ?_
          refine lq_cast (.int v2) (congrArg Value.int e_v2) ?_
          refine lq_aload_n C (i := 0) rfl 5 rfl dL_law_2711 ?_
          refine lq_iload C 1 rfl dL_law_2712 ?_
          refine lq_iconst C (x := nI 3) rfl dL_law_2714 ?_
          refine lq_iadd C dL_law_2715 ?_
          refine lq_cast (.int (nI 3)) (congrArg Value.int (by decide)) ?_
          refine lq_sld C 3 (by decide) (by decide) dL_law_2716 ?_
          refine lq_cast (.int (nI v3)) (congrArg Value.int e_v3) ?_
          refine lq_doM C (w239_find l v f g v3 v1 v2 hneg_v1 (by omega) (by omega)) lM_344 rfl rfl ⟨by decide, by decide⟩ ⟨Nat.le_of_ble_eq_true rfl, Nat.le_of_ble_eq_true rfl⟩ rfl (Nat.le_of_ble_eq_true rfl) dL_law_2717 ?_
          refine lq_istore C (lv' := [(6, .int (nI 0)), (5, .int (nI 1)), (4, .int (nI 0)), (3, .ref out), (2, .ref (a 0)), (1, .ref x), (0, .ref b)]) (by decide) rfl dL_law_2720 ?_
          refine lq_aload_n C (i := 2) rfl 4 rfl dL_law_2722 ?_
          refine lq_doM C (w4_thrown l (upd v 99 (nI 1)) f g rfl) lM_192 rfl rfl ⟨by decide, by decide⟩ ⟨Nat.le_of_ble_eq_true rfl, Nat.le_of_ble_eq_true rfl⟩ rfl (Nat.le_of_ble_eq_true rfl) dL_law_2723 ?_
          refine lq_iload C 1 rfl dL_law_2726 ?_
          refine lq_icmp_eq C 2733 (by decide) dL_law_2728 (fun _ => ?_) (fun c_ => absurd (by decide) c_)
          refine lq_iload C 1 rfl dL_law_2733 ?_
          refine lq_if_ne C 2750 (by decide) dL_law_2735 (fun _ => ?_) (fun c_ => absurd c_ (by decide))
          refine lq_goto C 3491 (by decide) dL_law_2750 ?_
          exact lq_sub [2, 6] rfl (law_tail C (Nat.le_of_ble_eq_true rfl) (Nat.le_of_ble_eq_true rfl))
        · obtain ⟨v2, e_v2⟩ : ∃ z : Int32, xs 2 = z := ⟨_, rfl⟩
          obtain ⟨v4, e_v4⟩ : ∃ z : Int32, xs 4 = z := ⟨_, rfl⟩
          obtain ⟨v5, e_v5⟩ : ∃ z : Int32, xs 5 = z := ⟨_, rfl⟩
          refine lq_aload_n C (i := 1) rfl 3 rfl dL_law_2673 ?_
          refine lq_aload_n C (i := 0) rfl 4 rfl dL_law_2674 ?_
          refine lq_iload C 0 rfl dL_law_2675 ?_
          refine lq_iconst C (x := nI 1) rfl dL_law_2677 ?_
          refine lq_iadd C dL_law_2678 ?_
          refine lq_cast (.int (nI 1)) (congrArg Value.int (by decide)) ?_
          refine lq_sld C 1 (by decide) (by decide) dL_law_2679 ?_
          refine lq_cast (.int v1) (congrArg Value.int e_v1) ?_
          refine lq_aload_n C (i := 0) rfl 4 rfl dL_law_2680 ?_
          refine lq_iload C 0 rfl dL_law_2681 ?_
          refine lq_iconst C (x := nI 2) rfl dL_law_2683 ?_
          refine lq_iadd C dL_law_2684 ?_
          refine lq_cast (.int (nI 2)) (congrArg Value.int (by decide)) ?_
          refine lq_sld C 2 (by decide) (by decide) dL_law_2685 ?_
          refine lq_cast (.int v2) (congrArg Value.int e_v2) ?_
          refine lq_aload_n C (i := 0) rfl 4 rfl dL_law_2686 ?_
          refine lq_iload C 0 rfl dL_law_2687 ?_
          refine lq_iconst C (x := nI 3) rfl dL_law_2689 ?_
          refine lq_iadd C dL_law_2690 ?_
          refine lq_cast (.int (nI 3)) (congrArg Value.int (by decide)) ?_
          refine lq_sld C 3 (by decide) (by decide) dL_law_2691 ?_
          refine lq_cast (.int (nI v3)) (congrArg Value.int e_v3) ?_
          refine lq_aload_n C (i := 3) rfl 1 rfl dL_law_2692 ?_
          refine lq_callW C (z409_L_find l hlt S dp x out q22 v3 v1 v2 hneg_v1 (by omega) (by omega) Fr_360_x Fk_x Fm_x Fi_386_q22 Fk_q22 Fm_q22) lH_342 rfl rfl ⟨by decide, by decide⟩ ⟨Nat.le_of_ble_eq_true rfl, Nat.le_of_ble_eq_true rfl⟩ rfl (Nat.le_of_ble_eq_true rfl) dL_law_2693 (fun r_2693 u_2693 h_2693 => ?_)
          obtain ⟨hr_2693, hu_2693⟩ := h_2693
          have hw_2693 := hu_2693.symm
          subst hw_2693
          have hx_2693 := hr_2693.symm
          subst hx_2693
          refine lq_istore C (lv' := [(5, .int (nI 1)), (4, .int (nI 0)), (3, .ref out), (2, .ref (a 0)), (1, .ref x), (0, .ref b)]) (by decide) rfl dL_law_2696 ?_
          refine lq_aload_n C (i := 2) rfl 3 rfl dL_law_2698 ?_
          refine lq_aload_n C (i := 0) rfl 5 rfl dL_law_2699 ?_
          refine lq_iload C 1 rfl dL_law_2700 ?_
          refine lq_iconst C (x := nI 1) rfl dL_law_2702 ?_
          refine lq_iadd C dL_law_2703 ?_
          refine lq_cast (.int (nI 1)) (congrArg Value.int (by decide)) ?_
          refine lq_sld C 1 (by decide) (by decide) dL_law_2704 ?_
          refine lq_cast (.int v1) (congrArg Value.int e_v1) ?_
          refine lq_aload_n C (i := 0) rfl 5 rfl dL_law_2705 ?_
          refine lq_iload C 1 rfl dL_law_2706 ?_
          refine lq_iconst C (x := nI 2) rfl dL_law_2708 ?_
          refine lq_iadd C dL_law_2709 ?_
          refine lq_cast (.int (nI 2)) (congrArg Value.int (by decide)) ?_
          refine lq_sld C 2 (by decide) (by decide) dL_law_2710 ?_
          refine lq_cast (.int v2) (congrArg Value.int e_v2) ?_
          refine lq_aload_n C (i := 0) rfl 5 rfl dL_law_2711 ?_
          refine lq_iload C 1 rfl dL_law_2712 ?_
          refine lq_iconst C (x := nI 3) rfl dL_law_2714 ?_
          refine lq_iadd C dL_law_2715 ?_
          refine lq_cast (.int (nI 3)) (congrArg Value.int (by decide)) ?_
          refine lq_sld C 3 (by decide) (by decide) dL_law_2716 ?_
          refine lq_cast (.int (nI v3)) (congrArg Value.int e_v3) ?_
          refine lq_doM C (w240_find l v f g v3 v1 v2 hneg_v1 (by omega) (by omega)) lM_344 rfl rfl ⟨by decide, by decide⟩ ⟨Nat.le_of_ble_eq_true rfl, Nat.le_of_ble_eq_true rfl⟩ rfl (Nat.le_of_ble_eq_true rfl) dL_law_2717 ?_
          refine lq_istore C (lv' := [(6, .int (nI 0)), (5, .int (nI 1)), (4, .int (nI 0)), (3, .ref out), (2, .ref (a 0)), (1, .ref x), (0, .ref b)]) (by decide) rfl dL_law_2720 ?_
          refine lq_aload_n C (i := 2) rfl 4 rfl dL_law_2722 ?_
          refine lq_doM C (w4_thrown l (upd v 99 (nI 1)) f g rfl) lM_192 rfl rfl ⟨by decide, by decide⟩ ⟨Nat.le_of_ble_eq_true rfl, Nat.le_of_ble_eq_true rfl⟩ rfl (Nat.le_of_ble_eq_true rfl) dL_law_2723 ?_
          refine lq_iload C 1 rfl dL_law_2726 ?_
          refine lq_icmp_eq C 2733 (by decide) dL_law_2728 (fun _ => ?_) (fun c_ => absurd (by decide) c_)
          refine lq_iload C 1 rfl dL_law_2733 ?_
          refine lq_if_ne C 2750 (by decide) dL_law_2735 (fun _ => ?_) (fun c_ => absurd c_ (by decide))
          refine lq_goto C 3491 (by decide) dL_law_2750 ?_
          exact lq_sub [2, 6] rfl (law_tail C (Nat.le_of_ble_eq_true rfl) (Nat.le_of_ble_eq_true rfl))
  · rcases c_sgn (xs 3) with hneg_v3 | ⟨v3, hr_v3, e_v3⟩
    · obtain ⟨v3, e_v3⟩ : ∃ z : Int32, xs 3 = z := ⟨_, rfl⟩
      rw [e_v3] at hneg_v3
      obtain ⟨v2, e_v2⟩ : ∃ z : Int32, xs 2 = z := ⟨_, rfl⟩
      obtain ⟨v4, e_v4⟩ : ∃ z : Int32, xs 4 = z := ⟨_, rfl⟩
      obtain ⟨v5, e_v5⟩ : ∃ z : Int32, xs 5 = z := ⟨_, rfl⟩
      refine lq_aload_n C (i := 1) rfl 3 rfl dL_law_2673 ?_
      refine lq_aload_n C (i := 0) rfl 4 rfl dL_law_2674 ?_
      refine lq_iload C 0 rfl dL_law_2675 ?_
      refine lq_iconst C (x := nI 1) rfl dL_law_2677 ?_
      refine lq_iadd C dL_law_2678 ?_
      refine lq_cast (.int (nI 1)) (congrArg Value.int (by decide)) ?_
      refine lq_sld C 1 (by decide) (by decide) dL_law_2679 ?_
      refine lq_cast (.int (nI v1)) (congrArg Value.int e_v1) ?_
      refine lq_aload_n C (i := 0) rfl 4 rfl dL_law_2680 ?_
      refine lq_iload C 0 rfl dL_law_2681 ?_
      refine lq_iconst C (x := nI 2) rfl dL_law_2683 ?_
      refine lq_iadd C dL_law_2684 ?_
      refine lq_cast (.int (nI 2)) (congrArg Value.int (by decide)) ?_
      refine lq_sld C 2 (by decide) (by decide) dL_law_2685 ?_
      refine lq_cast (.int v2) (congrArg Value.int e_v2) ?_
      refine lq_aload_n C (i := 0) rfl 4 rfl dL_law_2686 ?_
      refine lq_iload C 0 rfl dL_law_2687 ?_
      refine lq_iconst C (x := nI 3) rfl dL_law_2689 ?_
      refine lq_iadd C dL_law_2690 ?_
      refine lq_cast (.int (nI 3)) (congrArg Value.int (by decide)) ?_
      refine lq_sld C 3 (by decide) (by decide) dL_law_2691 ?_
      refine lq_cast (.int v3) (congrArg Value.int e_v3) ?_
      refine lq_aload_n C (i := 3) rfl 1 rfl dL_law_2692 ?_
      refine lq_callW C (z413_L_find l hlt S dp x out q22 v1 v2 v3 (by omega) hneg_v3 Fr_360_x Fk_x Fm_x Fi_386_q22 Fk_q22 Fm_q22) lH_342 rfl rfl ⟨by decide, by decide⟩ ⟨Nat.le_of_ble_eq_true rfl, Nat.le_of_ble_eq_true rfl⟩ rfl (Nat.le_of_ble_eq_true rfl) dL_law_2693 (fun r_2693 u_2693 h_2693 => ?_)
      obtain ⟨hr_2693, hu_2693⟩ := h_2693
      have hw_2693 := hu_2693.symm
      subst hw_2693
      have hx_2693 := hr_2693.symm
      subst hx_2693
      refine lq_istore C (lv' := [(5, .int (nI 1)), (4, .int (nI 0)), (3, .ref out), (2, .ref (a 0)), (1, .ref x), (0, .ref b)]) (by decide) rfl dL_law_2696 ?_
      refine lq_aload_n C (i := 2) rfl 3 rfl dL_law_2698 ?_
      refine lq_aload_n C (i := 0) rfl 5 rfl dL_law_2699 ?_
      refine lq_iload C 1 rfl dL_law_2700 ?_
      refine lq_iconst C (x := nI 1) rfl dL_law_2702 ?_
      refine lq_iadd C dL_law_2703 ?_
      refine lq_cast (.int (nI 1)) (congrArg Value.int (by decide)) ?_
      refine lq_sld C 1 (by decide) (by decide) dL_law_2704 ?_
      refine lq_cast (.int (nI v1)) (congrArg Value.int e_v1) ?_
      refine lq_aload_n C (i := 0) rfl 5 rfl dL_law_2705 ?_
      refine lq_iload C 1 rfl dL_law_2706 ?_
      refine lq_iconst C (x := nI 2) rfl dL_law_2708 ?_
      refine lq_iadd C dL_law_2709 ?_
      refine lq_cast (.int (nI 2)) (congrArg Value.int (by decide)) ?_
      refine lq_sld C 2 (by decide) (by decide) dL_law_2710 ?_
      refine lq_cast (.int v2) (congrArg Value.int e_v2) ?_
      refine lq_aload_n C (i := 0) rfl 5 rfl dL_law_2711 ?_
      refine lq_iload C 1 rfl dL_law_2712 ?_
      refine lq_iconst C (x := nI 3) rfl dL_law_2714 ?_
      refine lq_iadd C dL_law_2715 ?_
      refine lq_cast (.int (nI 3)) (congrArg Value.int (by decide)) ?_
      refine lq_sld C 3 (by decide) (by decide) dL_law_2716 ?_
      refine lq_cast (.int v3) (congrArg Value.int e_v3) ?_
      refine lq_doM C (w241_find l v f g v1 v2 v3 (by omega) hneg_v3 Mf_29_0 Mf_29_1 Mf_29_2 Mf_29_3 Mf_29_4) lM_344 rfl rfl ⟨by decide, by decide⟩ ⟨Nat.le_of_ble_eq_true rfl, Nat.le_of_ble_eq_true rfl⟩ rfl (Nat.le_of_ble_eq_true rfl) dL_law_2717 ?_
      refine lq_istore C (lv' := [(6, .int (nI 0)), (5, .int (nI 1)), (4, .int (nI 0)), (3, .ref out), (2, .ref (a 0)), (1, .ref x), (0, .ref b)]) (by decide) rfl dL_law_2720 ?_
      refine lq_aload_n C (i := 2) rfl 4 rfl dL_law_2722 ?_
      refine lq_doM C (w4_thrown l (upd v 99 (nI 1)) f g rfl) lM_192 rfl rfl ⟨by decide, by decide⟩ ⟨Nat.le_of_ble_eq_true rfl, Nat.le_of_ble_eq_true rfl⟩ rfl (Nat.le_of_ble_eq_true rfl) dL_law_2723 ?_
      refine lq_iload C 1 rfl dL_law_2726 ?_
      refine lq_icmp_eq C 2733 (by decide) dL_law_2728 (fun _ => ?_) (fun c_ => absurd (by decide) c_)
      refine lq_iload C 1 rfl dL_law_2733 ?_
      refine lq_if_ne C 2750 (by decide) dL_law_2735 (fun _ => ?_) (fun c_ => absurd c_ (by decide))
      refine lq_goto C 3491 (by decide) dL_law_2750 ?_
      exact lq_sub [2, 6] rfl (law_tail C (Nat.le_of_ble_eq_true rfl) (Nat.le_of_ble_eq_true rfl))
    · rcases Nat.lt_or_ge v3 1 with hlt_v3 | hlt_v3
      · obtain rfl : v3 = 0 := by omega
        obtain ⟨v2, e_v2⟩ : ∃ z : Int32, xs 2 = z := ⟨_, rfl⟩
        obtain ⟨v4, e_v4⟩ : ∃ z : Int32, xs 4 = z := ⟨_, rfl⟩
        obtain ⟨v5, e_v5⟩ : ∃ z : Int32, xs 5 = z := ⟨_, rfl⟩
        refine lq_aload_n C (i := 1) rfl 3 rfl dL_law_2673 ?_
        refine lq_aload_n C (i := 0) rfl 4 rfl dL_law_2674 ?_
        refine lq_iload C 0 rfl dL_law_2675 ?_
        refine lq_iconst C (x := nI 1) rfl dL_law_2677 ?_
        refine lq_iadd C dL_law_2678 ?_
        refine lq_cast (.int (nI 1)) (congrArg Value.int (by decide)) ?_
        refine lq_sld C 1 (by decide) (by decide) dL_law_2679 ?_
        refine lq_cast (.int (nI v1)) (congrArg Value.int e_v1) ?_
        refine lq_aload_n C (i := 0) rfl 4 rfl dL_law_2680 ?_
        refine lq_iload C 0 rfl dL_law_2681 ?_
        refine lq_iconst C (x := nI 2) rfl dL_law_2683 ?_
        refine lq_iadd C dL_law_2684 ?_
        refine lq_cast (.int (nI 2)) (congrArg Value.int (by decide)) ?_
        refine lq_sld C 2 (by decide) (by decide) dL_law_2685 ?_
        refine lq_cast (.int v2) (congrArg Value.int e_v2) ?_
        refine lq_aload_n C (i := 0) rfl 4 rfl dL_law_2686 ?_
        refine lq_iload C 0 rfl dL_law_2687 ?_
        refine lq_iconst C (x := nI 3) rfl dL_law_2689 ?_
        refine lq_iadd C dL_law_2690 ?_
        refine lq_cast (.int (nI 3)) (congrArg Value.int (by decide)) ?_
        refine lq_sld C 3 (by decide) (by decide) dL_law_2691 ?_
        refine lq_cast (.int (nI 0)) (congrArg Value.int e_v3) ?_
        refine lq_aload_n C (i := 3) rfl 1 rfl dL_law_2692 ?_
        refine lq_callW C (z417_L_find l hlt S dp x out q22 v1 v2 (by omega) Fr_360_x Fk_x Fm_x Fi_386_q22 Fk_q22 Fm_q22) lH_342 rfl rfl ⟨by decide, by decide⟩ ⟨Nat.le_of_ble_eq_true rfl, Nat.le_of_ble_eq_true rfl⟩ rfl (Nat.le_of_ble_eq_true rfl) dL_law_2693 (fun r_2693 u_2693 h_2693 => ?_)
        obtain ⟨hr_2693, hu_2693⟩ := h_2693
        have hw_2693 := hu_2693.symm
        subst hw_2693
        have hx_2693 := hr_2693.symm
        subst hx_2693
        refine lq_istore C (lv' := [(5, .int (nI 1)), (4, .int (nI 0)), (3, .ref out), (2, .ref (a 0)), (1, .ref x), (0, .ref b)]) (by decide) rfl dL_law_2696 ?_
        refine lq_aload_n C (i := 2) rfl 3 rfl dL_law_2698 ?_
        refine lq_aload_n C (i := 0) rfl 5 rfl dL_law_2699 ?_
        refine lq_iload C 1 rfl dL_law_2700 ?_
        refine lq_iconst C (x := nI 1) rfl dL_law_2702 ?_
        refine lq_iadd C dL_law_2703 ?_
        refine lq_cast (.int (nI 1)) (congrArg Value.int (by decide)) ?_
        refine lq_sld C 1 (by decide) (by decide) dL_law_2704 ?_
        refine lq_cast (.int (nI v1)) (congrArg Value.int e_v1) ?_
        refine lq_aload_n C (i := 0) rfl 5 rfl dL_law_2705 ?_
        refine lq_iload C 1 rfl dL_law_2706 ?_
        refine lq_iconst C (x := nI 2) rfl dL_law_2708 ?_
        refine lq_iadd C dL_law_2709 ?_
        refine lq_cast (.int (nI 2)) (congrArg Value.int (by decide)) ?_
        refine lq_sld C 2 (by decide) (by decide) dL_law_2710 ?_
        refine lq_cast (.int v2) (congrArg Value.int e_v2) ?_
        refine lq_aload_n C (i := 0) rfl 5 rfl dL_law_2711 ?_
        refine lq_iload C 1 rfl dL_law_2712 ?_
        refine lq_iconst C (x := nI 3) rfl dL_law_2714 ?_
        refine lq_iadd C dL_law_2715 ?_
        refine lq_cast (.int (nI 3)) (congrArg Value.int (by decide)) ?_
        refine lq_sld C 3 (by decide) (by decide) dL_law_2716 ?_
        refine lq_cast (.int (nI 0)) (congrArg Value.int e_v3) ?_
        refine lq_doM C (w242_find l v f g v1 v2 (by omega) Mf_29_0 Mf_29_1 Mf_29_2 Mf_29_3 Mf_29_4) lM_344 rfl rfl ⟨by decide, by decide⟩ ⟨Nat.le_of_ble_eq_true rfl, Nat.le_of_ble_eq_true rfl⟩ rfl (Nat.le_of_ble_eq_true rfl) dL_law_2717 ?_
        refine lq_istore C (lv' := [(6, .int (nI 0)), (5, .int (nI 1)), (4, .int (nI 0)), (3, .ref out), (2, .ref (a 0)), (1, .ref x), (0, .ref b)]) (by decide) rfl dL_law_2720 ?_
        refine lq_aload_n C (i := 2) rfl 4 rfl dL_law_2722 ?_
        refine lq_doM C (w4_thrown l (upd v 99 (nI 1)) f g rfl) lM_192 rfl rfl ⟨by decide, by decide⟩ ⟨Nat.le_of_ble_eq_true rfl, Nat.le_of_ble_eq_true rfl⟩ rfl (Nat.le_of_ble_eq_true rfl) dL_law_2723 ?_
        refine lq_iload C 1 rfl dL_law_2726 ?_
        refine lq_icmp_eq C 2733 (by decide) dL_law_2728 (fun _ => ?_) (fun c_ => absurd (by decide) c_)
        refine lq_iload C 1 rfl dL_law_2733 ?_
        refine lq_if_ne C 2750 (by decide) dL_law_2735 (fun _ => ?_) (fun c_ => absurd c_ (by decide))
        refine lq_goto C 3491 (by decide) dL_law_2750 ?_
        exact lq_sub [2, 6] rfl (law_tail C (Nat.le_of_ble_eq_true rfl) (Nat.le_of_ble_eq_true rfl))
      · rcases Nat.lt_or_ge v3 21 with hlt_v3 | hlt_v3
        · obtain ⟨v2, e_v2⟩ : ∃ z : Int32, xs 2 = z := ⟨_, rfl⟩
          obtain ⟨v4, e_v4⟩ : ∃ z : Int32, xs 4 = z := ⟨_, rfl⟩
          obtain ⟨v5, e_v5⟩ : ∃ z : Int32, xs 5 = z := ⟨_, rfl⟩
          refine lq_aload_n C (i := 1) rfl 3 rfl dL_law_2673 ?_
          refine lq_aload_n C (i := 0) rfl 4 rfl dL_law_2674 ?_
          refine lq_iload C 0 rfl dL_law_2675 ?_
          refine lq_iconst C (x := nI 1) rfl dL_law_2677 ?_
          refine lq_iadd C dL_law_2678 ?_
          refine lq_cast (.int (nI 1)) (congrArg Value.int (by decide)) ?_
          refine lq_sld C 1 (by decide) (by decide) dL_law_2679 ?_
          refine lq_cast (.int (nI v1)) (congrArg Value.int e_v1) ?_
          refine lq_aload_n C (i := 0) rfl 4 rfl dL_law_2680 ?_
          refine lq_iload C 0 rfl dL_law_2681 ?_
          refine lq_iconst C (x := nI 2) rfl dL_law_2683 ?_
          refine lq_iadd C dL_law_2684 ?_
          refine lq_cast (.int (nI 2)) (congrArg Value.int (by decide)) ?_
          refine lq_sld C 2 (by decide) (by decide) dL_law_2685 ?_
          refine lq_cast (.int v2) (congrArg Value.int e_v2) ?_
          refine lq_aload_n C (i := 0) rfl 4 rfl dL_law_2686 ?_
          refine lq_iload C 0 rfl dL_law_2687 ?_
          refine lq_iconst C (x := nI 3) rfl dL_law_2689 ?_
          refine lq_iadd C dL_law_2690 ?_
          refine lq_cast (.int (nI 3)) (congrArg Value.int (by decide)) ?_
          refine lq_sld C 3 (by decide) (by decide) dL_law_2691 ?_
          refine lq_cast (.int (nI v3)) (congrArg Value.int e_v3) ?_
          refine lq_aload_n C (i := 3) rfl 1 rfl dL_law_2692 ?_
          refine lq_callW C (z421_L_find l hlt S dp x out q22 v1 v3 v2 (by omega) (by omega) (by omega) Fr_360_x Fk_x Fm_x Fi_386_q22 Fk_q22 Fm_q22) lH_342 rfl rfl ⟨by decide, by decide⟩ ⟨Nat.le_of_ble_eq_true rfl, Nat.le_of_ble_eq_true rfl⟩ rfl (Nat.le_of_ble_eq_true rfl) dL_law_2693 (fun r_2693 u_2693 h_2693 => ?_)
          obtain ⟨hr_2693, hu_2693⟩ := h_2693
          have hw_2693 := hu_2693.symm
          subst hw_2693
          have hx_2693 := hr_2693.symm
          subst hx_2693
          refine lq_istore C (lv' := [(5, .int (nI 1)), (4, .int (nI 0)), (3, .ref out), (2, .ref (a 0)), (1, .ref x), (0, .ref b)]) (by decide) rfl dL_law_2696 ?_
          refine lq_aload_n C (i := 2) rfl 3 rfl dL_law_2698 ?_
          refine lq_aload_n C (i := 0) rfl 5 rfl dL_law_2699 ?_
          refine lq_iload C 1 rfl dL_law_2700 ?_
          refine lq_iconst C (x := nI 1) rfl dL_law_2702 ?_
          refine lq_iadd C dL_law_2703 ?_
          refine lq_cast (.int (nI 1)) (congrArg Value.int (by decide)) ?_
          refine lq_sld C 1 (by decide) (by decide) dL_law_2704 ?_
          refine lq_cast (.int (nI v1)) (congrArg Value.int e_v1) ?_
          refine lq_aload_n C (i := 0) rfl 5 rfl dL_law_2705 ?_
          refine lq_iload C 1 rfl dL_law_2706 ?_
          refine lq_iconst C (x := nI 2) rfl dL_law_2708 ?_
          refine lq_iadd C dL_law_2709 ?_
          refine lq_cast (.int (nI 2)) (congrArg Value.int (by decide)) ?_
          refine lq_sld C 2 (by decide) (by decide) dL_law_2710 ?_
          refine lq_cast (.int v2) (congrArg Value.int e_v2) ?_
          refine lq_aload_n C (i := 0) rfl 5 rfl dL_law_2711 ?_
          refine lq_iload C 1 rfl dL_law_2712 ?_
          refine lq_iconst C (x := nI 3) rfl dL_law_2714 ?_
          refine lq_iadd C dL_law_2715 ?_
          refine lq_cast (.int (nI 3)) (congrArg Value.int (by decide)) ?_
          refine lq_sld C 3 (by decide) (by decide) dL_law_2716 ?_
          refine lq_cast (.int (nI v3)) (congrArg Value.int e_v3) ?_
          refine lq_doM C (w243_find l v f g v1 v3 v2 (by omega) (by omega) (by omega) Mf_29_0 Mf_29_1 Mf_29_2 Mf_29_3 Mf_29_4) lM_344 rfl rfl ⟨by decide, by decide⟩ ⟨Nat.le_of_ble_eq_true rfl, Nat.le_of_ble_eq_true rfl⟩ rfl (Nat.le_of_ble_eq_true rfl) dL_law_2717 ?_
          refine lq_istore C (lv' := [(6, .int (nI 0)), (5, .int (nI 1)), (4, .int (nI 0)), (3, .ref out), (2, .ref (a 0)), (1, .ref x), (0, .ref b)]) (by decide) rfl dL_law_2720 ?_
          refine lq_aload_n C (i := 2) rfl 4 rfl dL_law_2722 ?_
          refine lq_doM C (w4_thrown l (upd v 99 (nI 1)) f g rfl) lM_192 rfl rfl ⟨by decide, by decide⟩ ⟨Nat.le_of_ble_eq_true rfl, Nat.le_of_ble_eq_true rfl⟩ rfl (Nat.le_of_ble_eq_true rfl) dL_law_2723 ?_
          refine lq_iload C 1 rfl dL_law_2726 ?_
          refine lq_icmp_eq C 2733 (by decide) dL_law_2728 (fun _ => ?_) (fun c_ => absurd (by decide) c_)
          refine lq_iload C 1 rfl dL_law_2733 ?_
          refine lq_if_ne C 2750 (by decide) dL_law_2735 (fun _ => ?_) (fun c_ => absurd c_ (by decide))
          refine lq_goto C 3491 (by decide) dL_law_2750 ?_
          exact lq_sub [2, 6] rfl (law_tail C (Nat.le_of_ble_eq_true rfl) (Nat.le_of_ble_eq_true rfl))
        · obtain ⟨v2, e_v2⟩ : ∃ z : Int32, xs 2 = z := ⟨_, rfl⟩
          obtain ⟨v4, e_v4⟩ : ∃ z : Int32, xs 4 = z := ⟨_, rfl⟩
          obtain ⟨v5, e_v5⟩ : ∃ z : Int32, xs 5 = z := ⟨_, rfl⟩
          refine lq_aload_n C (i := 1) rfl 3 rfl dL_law_2673 ?_
          refine lq_aload_n C (i := 0) rfl 4 rfl dL_law_2674 ?_
          refine lq_iload C 0 rfl dL_law_2675 ?_
          refine lq_iconst C (x := nI 1) rfl dL_law_2677 ?_
          refine lq_iadd C dL_law_2678 ?_
          refine lq_cast (.int (nI 1)) (congrArg Value.int (by decide)) ?_
          refine lq_sld C 1 (by decide) (by decide) dL_law_2679 ?_
          refine lq_cast (.int (nI v1)) (congrArg Value.int e_v1) ?_
          refine lq_aload_n C (i := 0) rfl 4 rfl dL_law_2680 ?_
          refine lq_iload C 0 rfl dL_law_2681 ?_
          refine lq_iconst C (x := nI 2) rfl dL_law_2683 ?_
          refine lq_iadd C dL_law_2684 ?_
          refine lq_cast (.int (nI 2)) (congrArg Value.int (by decide)) ?_
          refine lq_sld C 2 (by decide) (by decide) dL_law_2685 ?_
          refine lq_cast (.int v2) (congrArg Value.int e_v2) ?_
          refine lq_aload_n C (i := 0) rfl 4 rfl dL_law_2686 ?_
          refine lq_iload C 0 rfl dL_law_2687 ?_
          refine lq_iconst C (x := nI 3) rfl dL_law_2689 ?_
          refine lq_iadd C dL_law_2690 ?_
          refine lq_cast (.int (nI 3)) (congrArg Value.int (by decide)) ?_
          refine lq_sld C 3 (by decide) (by decide) dL_law_2691 ?_
          refine lq_cast (.int (nI v3)) (congrArg Value.int e_v3) ?_
          refine lq_aload_n C (i := 3) rfl 1 rfl dL_law_2692 ?_
          refine lq_callW C (z423_L_find l hlt S dp x out q22 v1 v3 v2 (by omega) (by omega) (by omega) Fr_360_x Fk_x Fm_x Fi_386_q22 Fk_q22 Fm_q22) lH_342 rfl rfl ⟨by decide, by decide⟩ ⟨Nat.le_of_ble_eq_true rfl, Nat.le_of_ble_eq_true rfl⟩ rfl (Nat.le_of_ble_eq_true rfl) dL_law_2693 (fun r_2693 u_2693 h_2693 => ?_)
          obtain ⟨hr_2693, hu_2693⟩ := h_2693
          have hw_2693 := hu_2693.symm
          subst hw_2693
          have hx_2693 := hr_2693.symm
          subst hx_2693
          refine lq_istore C (lv' := [(5, .int (nI 1)), (4, .int (nI 0)), (3, .ref out), (2, .ref (a 0)), (1, .ref x), (0, .ref b)]) (by decide) rfl dL_law_2696 ?_
          refine lq_aload_n C (i := 2) rfl 3 rfl dL_law_2698 ?_
          refine lq_aload_n C (i := 0) rfl 5 rfl dL_law_2699 ?_
          refine lq_iload C 1 rfl dL_law_2700 ?_
          refine lq_iconst C (x := nI 1) rfl dL_law_2702 ?_
          refine lq_iadd C dL_law_2703 ?_
          refine lq_cast (.int (nI 1)) (congrArg Value.int (by decide)) ?_
          refine lq_sld C 1 (by decide) (by decide) dL_law_2704 ?_
          refine lq_cast (.int (nI v1)) (congrArg Value.int e_v1) ?_
          refine lq_aload_n C (i := 0) rfl 5 rfl dL_law_2705 ?_
          refine lq_iload C 1 rfl dL_law_2706 ?_
          refine lq_iconst C (x := nI 2) rfl dL_law_2708 ?_
          refine lq_iadd C dL_law_2709 ?_
          refine lq_cast (.int (nI 2)) (congrArg Value.int (by decide)) ?_
          refine lq_sld C 2 (by decide) (by decide) dL_law_2710 ?_
          refine lq_cast (.int v2) (congrArg Value.int e_v2) ?_
          refine lq_aload_n C (i := 0) rfl 5 rfl dL_law_2711 ?_
          refine lq_iload C 1 rfl dL_law_2712 ?_
          refine lq_iconst C (x := nI 3) rfl dL_law_2714 ?_
          refine lq_iadd C dL_law_2715 ?_
          refine lq_cast (.int (nI 3)) (congrArg Value.int (by decide)) ?_
          refine lq_sld C 3 (by decide) (by decide) dL_law_2716 ?_
          refine lq_cast (.int (nI v3)) (congrArg Value.int e_v3) ?_
          refine lq_doM C (w244_find l v f g v1 v3 v2 (by omega) (by omega) (by omega) Mf_29_0 Mf_29_1 Mf_29_2 Mf_29_3 Mf_29_4) lM_344 rfl rfl ⟨by decide, by decide⟩ ⟨Nat.le_of_ble_eq_true rfl, Nat.le_of_ble_eq_true rfl⟩ rfl (Nat.le_of_ble_eq_true rfl) dL_law_2717 ?_
          refine lq_istore C (lv' := [(6, .int (nI 0)), (5, .int (nI 1)), (4, .int (nI 0)), (3, .ref out), (2, .ref (a 0)), (1, .ref x), (0, .ref b)]) (by decide) rfl dL_law_2720 ?_
          refine lq_aload_n C (i := 2) rfl 4 rfl dL_law_2722 ?_
          refine lq_doM C (w4_thrown l (upd v 99 (nI 1)) f g rfl) lM_192 rfl rfl ⟨by decide, by decide⟩ ⟨Nat.le_of_ble_eq_true rfl, Nat.le_of_ble_eq_true rfl⟩ rfl (Nat.le_of_ble_eq_true rfl) dL_law_2723 ?_
          refine lq_iload C 1 rfl dL_law_2726 ?_
          refine lq_icmp_eq C 2733 (by decide) dL_law_2728 (fun _ => ?_) (fun c_ => absurd (by decide) c_)
          refine lq_iload C 1 rfl dL_law_2733 ?_
          refine lq_if_ne C 2750 (by decide) dL_law_2735 (fun _ => ?_) (fun c_ => absurd c_ (by decide))
          refine lq_goto C 3491 (by decide) dL_law_2750 ?_
          exact lq_sub [2, 6] rfl (law_tail C (Nat.le_of_ble_eq_true rfl) (Nat.le_of_ble_eq_true rfl))
set_option maxHeartbeats 8000000 in
set_option maxRecDepth 100000 in
theorem law_case46 (C : lC p l s m meth c b 6 xs D Y tp dp) {S : cS} {a : Nat → Nat} {v : Nat → Int32} {f : Nat → Nat → Int32} {g : Nat → Nat → Int64} {x out q1 q2 q3 q10 q11 q15 q19 q20 q21 q22 q23 q29 q30 q37 : Nat} (F : cFr S dp x out q1 q2 q3 q10 q11 q15 q19 q20 q21 q22 q23 q29 q30 q37) (M : mFr v f g) : lG p l e s m below meth c b D Y 174 409927 2753 [(4, .int (nI 0)), (3, .ref out), (2, .ref (a 0)), (1, .ref x), (0, .ref b)] [] S a v f g := by
  have hlt := C.2.2.2.2.2.2.2.2.2.2.1
  obtain ⟨FeI_q30_0, FeI_q30_1, Fi_195_q23, Fi_289_q11, Fi_289_q15, Fi_289_q2, Fi_33_q37, Fi_361_x, Fi_366_x, Fi_368_x, Fi_369_x, Fi_36_q37, Fi_370_x, Fi_37_q37, Fi_384_q19, Fi_384_q22, Fi_386_q19, Fi_386_q21, Fi_386_q22, Fk_out, Fk_q1, Fk_q10, Fk_q11, Fk_q15, Fk_q19, Fk_q2, Fk_q20, Fk_q21, Fk_q22, Fk_q23, Fk_q29, Fk_q3, Fk_q30, Fk_q37, Fk_x, Fm_out, Fm_q1, Fm_q10, Fm_q11, Fm_q15, Fm_q19, Fm_q2, Fm_q20, Fm_q21, Fm_q22, Fm_q23, Fm_q29, Fm_q3, Fm_q30, Fm_q37, Fm_x, Fn_out, Fn_q3, Fn_q30, Fr_224_q29, Fr_288_q2, Fr_321_q20, Fr_352_x, Fr_353_x, Fr_354_x, Fr_355_x, Fr_356_x, Fr_358_x, Fr_359_x, Fr_360_x, Fr_362_x, Fr_364_x, Fr_365_x, Fr_385_q19, Fr_385_q22, Fr_3_q10, Fr_4_q10, Fr_96_q1⟩ := F
  obtain ⟨Mall_21, Mall_22, Mf_29_0, Mf_29_1, Mf_29_2, Mf_29_3, Mf_29_4, Mf_49_0, Mf_49_1, Mf_8_0, Mf_8_1, Mg_7_0, Mg_7_1, Mg_7_10, Mg_7_11, Mg_7_12, Mg_7_13, Mg_7_14, Mg_7_15, Mg_7_16, Mg_7_17, Mg_7_18, Mg_7_19, Mg_7_2, Mg_7_20, Mg_7_21, Mg_7_22, Mg_7_23, Mg_7_24, Mg_7_25, Mg_7_26, Mg_7_27, Mg_7_28, Mg_7_29, Mg_7_3, Mg_7_30, Mg_7_31, Mg_7_32, Mg_7_33, Mg_7_34, Mg_7_35, Mg_7_36, Mg_7_37, Mg_7_38, Mg_7_39, Mg_7_4, Mg_7_5, Mg_7_6, Mg_7_7, Mg_7_8, Mg_7_9, Mv_13, Mv_14, Mv_2, Mv_20, Mv_29, Mv_34, Mv_35, Mv_40, Mv_48, Mv_49, Mv_72, Mv_88, Mv_89, Mv_90, Mv_96, Mv_97, Mv_98⟩ := M
  rcases c_sgn (xs 1) with hneg_v1 | ⟨v1, hr_v1, e_v1⟩
  · obtain ⟨v1, e_v1⟩ : ∃ z : Int32, xs 1 = z := ⟨_, rfl⟩
    rw [e_v1] at hneg_v1
    obtain ⟨v2, e_v2⟩ : ∃ z : Int32, xs 2 = z := ⟨_, rfl⟩
    obtain ⟨v3, e_v3⟩ : ∃ z : Int32, xs 3 = z := ⟨_, rfl⟩
    obtain ⟨v4, e_v4⟩ : ∃ z : Int32, xs 4 = z := ⟨_, rfl⟩
    obtain ⟨v5, e_v5⟩ : ∃ z : Int32, xs 5 = z := ⟨_, rfl⟩
    refine lq_aload_n C (i := 1) rfl 3 rfl dL_law_2753 ?_
    refine lq_aload_n C (i := 0) rfl 4 rfl dL_law_2754 ?_
    refine lq_iload C 0 rfl dL_law_2755 ?_
    refine lq_iconst C (x := nI 1) rfl dL_law_2757 ?_
    refine lq_iadd C dL_law_2758 ?_
    refine lq_cast (.int (nI 1)) (congrArg Value.int (by decide)) ?_
    refine lq_sld C 1 (by decide) (by decide) dL_law_2759 ?_
    refine lq_cast (.int v1) (congrArg Value.int e_v1) ?_
    refine lq_aload_n C (i := 3) rfl 1 rfl dL_law_2760 ?_
    refine lq_callW C (z426_L_hitAt l hlt S dp x out v1 hneg_v1 Fm_x Fk_x) lH_345 rfl rfl ⟨by decide, by decide⟩ ⟨Nat.le_of_ble_eq_true rfl, Nat.le_of_ble_eq_true rfl⟩ rfl (Nat.le_of_ble_eq_true rfl) dL_law_2761 (fun r_2761 u_2761 h_2761 => ?_)
    obtain ⟨hr_2761, hu_2761⟩ := h_2761
    have hw_2761 := hu_2761.symm
    subst hw_2761
    have hx_2761 := hr_2761.symm
    subst hx_2761
    refine lq_istore C (lv' := [(5, .int (nI 1)), (4, .int (nI 0)), (3, .ref out), (2, .ref (a 0)), (1, .ref x), (0, .ref b)]) (by decide) rfl dL_law_2764 ?_
    refine lq_aload_n C (i := 2) rfl 3 rfl dL_law_2766 ?_
    refine lq_aload_n C (i := 0) rfl 5 rfl dL_law_2767 ?_
    refine lq_iload C 1 rfl dL_law_2768 ?_
    refine lq_iconst C (x := nI 1) rfl dL_law_2770 ?_
    refine lq_iadd C dL_law_2771 ?_
    refine lq_cast (.int (nI 1)) (congrArg Value.int (by decide)) ?_
    refine lq_sld C 1 (by decide) (by decide) dL_law_2772 ?_
    refine lq_cast (.int v1) (congrArg Value.int e_v1) ?_
    refine lq_doM C (w245_hitAt l v f g v1 hneg_v1 Mv_88) lM_347 rfl rfl ⟨by decide, by decide⟩ ⟨Nat.le_of_ble_eq_true rfl, Nat.le_of_ble_eq_true rfl⟩ rfl (Nat.le_of_ble_eq_true rfl) dL_law_2773 ?_
    refine lq_istore C (lv' := [(6, .int (nI 0)), (5, .int (nI 1)), (4, .int (nI 0)), (3, .ref out), (2, .ref (a 0)), (1, .ref x), (0, .ref b)]) (by decide) rfl dL_law_2776 ?_
    refine lq_aload_n C (i := 2) rfl 4 rfl dL_law_2778 ?_
    refine lq_doM C (w4_thrown l (upd v 99 (nI 1)) f g rfl) lM_192 rfl rfl ⟨by decide, by decide⟩ ⟨Nat.le_of_ble_eq_true rfl, Nat.le_of_ble_eq_true rfl⟩ rfl (Nat.le_of_ble_eq_true rfl) dL_law_2779 ?_
    refine lq_iload C 1 rfl dL_law_2782 ?_
    refine lq_icmp_eq C 2789 (by decide) dL_law_2784 (fun _ => ?_) (fun c_ => absurd (by decide) c_)
    refine lq_iload C 1 rfl dL_law_2789 ?_
    refine lq_if_ne C 2806 (by decide) dL_law_2791 (fun _ => ?_) (fun c_ => absurd c_ (by decide))
    refine lq_goto C 3491 (by decide) dL_law_2806 ?_
    exact lq_sub [2, 6] rfl (law_tail C (Nat.le_of_ble_eq_true rfl) (Nat.le_of_ble_eq_true rfl))
  · obtain ⟨v2, e_v2⟩ : ∃ z : Int32, xs 2 = z := ⟨_, rfl⟩
    obtain ⟨v3, e_v3⟩ : ∃ z : Int32, xs 3 = z := ⟨_, rfl⟩
    obtain ⟨v4, e_v4⟩ : ∃ z : Int32, xs 4 = z := ⟨_, rfl⟩
    obtain ⟨v5, e_v5⟩ : ∃ z : Int32, xs 5 = z := ⟨_, rfl⟩
    refine lq_aload_n C (i := 1) rfl 3 rfl dL_law_2753 ?_
    refine lq_aload_n C (i := 0) rfl 4 rfl dL_law_2754 ?_
    refine lq_iload C 0 rfl dL_law_2755 ?_
    refine lq_iconst C (x := nI 1) rfl dL_law_2757 ?_
    refine lq_iadd C dL_law_2758 ?_
    refine lq_cast (.int (nI 1)) (congrArg Value.int (by decide)) ?_
    refine lq_sld C 1 (by decide) (by decide) dL_law_2759 ?_
    refine lq_cast (.int (nI v1)) (congrArg Value.int e_v1) ?_
    refine lq_aload_n C (i := 3) rfl 1 rfl dL_law_2760 ?_
    refine lq_callW C (z429_L_hitAt l hlt S dp x out q37 v1 (by omega) Fr_365_x Fk_x Fm_x Fi_33_q37 Fk_q37 Fm_q37) lH_345 rfl rfl ⟨by decide, by decide⟩ ⟨Nat.le_of_ble_eq_true rfl, Nat.le_of_ble_eq_true rfl⟩ rfl (Nat.le_of_ble_eq_true rfl) dL_law_2761 (fun r_2761 u_2761 h_2761 => ?_)
    obtain ⟨hr_2761, hu_2761⟩ := h_2761
    have hw_2761 := hu_2761.symm
    subst hw_2761
    have hx_2761 := hr_2761.symm
    subst hx_2761
    refine lq_istore C (lv' := [(5, .int (nI 1)), (4, .int (nI 0)), (3, .ref out), (2, .ref (a 0)), (1, .ref x), (0, .ref b)]) (by decide) rfl dL_law_2764 ?_
    refine lq_aload_n C (i := 2) rfl 3 rfl dL_law_2766 ?_
    refine lq_aload_n C (i := 0) rfl 5 rfl dL_law_2767 ?_
    refine lq_iload C 1 rfl dL_law_2768 ?_
    refine lq_iconst C (x := nI 1) rfl dL_law_2770 ?_
    refine lq_iadd C dL_law_2771 ?_
    refine lq_cast (.int (nI 1)) (congrArg Value.int (by decide)) ?_
    refine lq_sld C 1 (by decide) (by decide) dL_law_2772 ?_
    refine lq_cast (.int (nI v1)) (congrArg Value.int e_v1) ?_
    refine lq_doM C (w246_hitAt l v f g v1 (by omega) Mv_88) lM_347 rfl rfl ⟨by decide, by decide⟩ ⟨Nat.le_of_ble_eq_true rfl, Nat.le_of_ble_eq_true rfl⟩ rfl (Nat.le_of_ble_eq_true rfl) dL_law_2773 ?_
    refine lq_istore C (lv' := [(6, .int (nI 0)), (5, .int (nI 1)), (4, .int (nI 0)), (3, .ref out), (2, .ref (a 0)), (1, .ref x), (0, .ref b)]) (by decide) rfl dL_law_2776 ?_
    refine lq_aload_n C (i := 2) rfl 4 rfl dL_law_2778 ?_
    refine lq_doM C (w4_thrown l (upd v 99 (nI 1)) f g rfl) lM_192 rfl rfl ⟨by decide, by decide⟩ ⟨Nat.le_of_ble_eq_true rfl, Nat.le_of_ble_eq_true rfl⟩ rfl (Nat.le_of_ble_eq_true rfl) dL_law_2779 ?_
    refine lq_iload C 1 rfl dL_law_2782 ?_
    refine lq_icmp_eq C 2789 (by decide) dL_law_2784 (fun _ => ?_) (fun c_ => absurd (by decide) c_)
    refine lq_iload C 1 rfl dL_law_2789 ?_
    refine lq_if_ne C 2806 (by decide) dL_law_2791 (fun _ => ?_) (fun c_ => absurd c_ (by decide))
    refine lq_goto C 3491 (by decide) dL_law_2806 ?_
    exact lq_sub [2, 6] rfl (law_tail C (Nat.le_of_ble_eq_true rfl) (Nat.le_of_ble_eq_true rfl))
end LCS
