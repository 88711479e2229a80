/-! the law's cases on a fresh machine -/
section LCS
variable {p : Program} {l : Launch} {e : Env} {s : State} {m : MethodId} {below : List Frame} {meth : Method} {c : Code} {b : Nat} {xs : Nat → Int32} {D : va_G} {Y : cY} {tp dp : Nat}
set_option maxHeartbeats 8000000 in
set_option maxRecDepth 100000 in
theorem law_case47 (C : lC p l s m meth c b 6 xs D Y tp dp) {S : cS} {a : Nat → Nat} {v : Nat → Int32} {f : Nat → Nat → Int32} {g : Nat → Nat → Int64} {x out q1 q2 q3 q10 q11 q15 q19 q20 q21 q22 q23 q29 q30 q37 : Nat} (F : cFr S dp x out q1 q2 q3 q10 q11 q15 q19 q20 q21 q22 q23 q29 q30 q37) (M : mFr v f g) : lG p l e s m below meth c b D Y 174 409927 2809 [(4, .int (nI 0)), (3, .ref out), (2, .ref (a 0)), (1, .ref x), (0, .ref b)] [] S a v f g := by
  have hlt := C.2.2.2.2.2.2.2.2.2.2.1
  obtain ⟨FeI_q30_0, FeI_q30_1, Fi_195_q23, Fi_289_q11, Fi_289_q15, Fi_289_q2, Fi_33_q37, Fi_361_x, Fi_366_x, Fi_368_x, Fi_369_x, Fi_36_q37, Fi_370_x, Fi_37_q37, Fi_384_q19, Fi_384_q22, Fi_386_q19, Fi_386_q21, Fi_386_q22, Fk_out, Fk_q1, Fk_q10, Fk_q11, Fk_q15, Fk_q19, Fk_q2, Fk_q20, Fk_q21, Fk_q22, Fk_q23, Fk_q29, Fk_q3, Fk_q30, Fk_q37, Fk_x, Fm_out, Fm_q1, Fm_q10, Fm_q11, Fm_q15, Fm_q19, Fm_q2, Fm_q20, Fm_q21, Fm_q22, Fm_q23, Fm_q29, Fm_q3, Fm_q30, Fm_q37, Fm_x, Fn_out, Fn_q3, Fn_q30, Fr_224_q29, Fr_288_q2, Fr_321_q20, Fr_352_x, Fr_353_x, Fr_354_x, Fr_355_x, Fr_356_x, Fr_358_x, Fr_359_x, Fr_360_x, Fr_362_x, Fr_364_x, Fr_365_x, Fr_385_q19, Fr_385_q22, Fr_3_q10, Fr_4_q10, Fr_96_q1⟩ := F
  obtain ⟨Mall_21, Mall_22, Mf_29_0, Mf_29_1, Mf_29_2, Mf_29_3, Mf_29_4, Mf_49_0, Mf_49_1, Mf_8_0, Mf_8_1, Mg_7_0, Mg_7_1, Mg_7_10, Mg_7_11, Mg_7_12, Mg_7_13, Mg_7_14, Mg_7_15, Mg_7_16, Mg_7_17, Mg_7_18, Mg_7_19, Mg_7_2, Mg_7_20, Mg_7_21, Mg_7_22, Mg_7_23, Mg_7_24, Mg_7_25, Mg_7_26, Mg_7_27, Mg_7_28, Mg_7_29, Mg_7_3, Mg_7_30, Mg_7_31, Mg_7_32, Mg_7_33, Mg_7_34, Mg_7_35, Mg_7_36, Mg_7_37, Mg_7_38, Mg_7_39, Mg_7_4, Mg_7_5, Mg_7_6, Mg_7_7, Mg_7_8, Mg_7_9, Mv_13, Mv_14, Mv_2, Mv_20, Mv_29, Mv_34, Mv_35, Mv_40, Mv_48, Mv_49, Mv_72, Mv_88, Mv_89, Mv_90, Mv_96, Mv_97, Mv_98⟩ := M
  rcases c_sgn (xs 1) with hneg_v1 | ⟨v1, hr_v1, e_v1⟩
  · obtain ⟨v1, e_v1⟩ : ∃ z : Int32, xs 1 = z := ⟨_, rfl⟩
    rw [e_v1] at hneg_v1
    obtain ⟨v2, e_v2⟩ : ∃ z : Int32, xs 2 = z := ⟨_, rfl⟩
    obtain ⟨v3, e_v3⟩ : ∃ z : Int32, xs 3 = z := ⟨_, rfl⟩
    obtain ⟨v4, e_v4⟩ : ∃ z : Int32, xs 4 = z := ⟨_, rfl⟩
    obtain ⟨v5, e_v5⟩ : ∃ z : Int32, xs 5 = z := ⟨_, rfl⟩
    refine lq_aload_n C (i := 1) rfl 3 rfl dL_law_2809 ?_
    refine lq_aload_n C (i := 0) rfl 4 rfl dL_law_2810 ?_
    refine lq_iload C 0 rfl dL_law_2811 ?_
    refine lq_iconst C (x := nI 1) rfl dL_law_2813 ?_
    refine lq_iadd C dL_law_2814 ?_
    refine lq_cast (.int (nI 1)) (congrArg Value.int (by decide)) ?_
    refine lq_sld C 1 (by decide) (by decide) dL_law_2815 ?_
    refine lq_cast (.int v1) (congrArg Value.int e_v1) ?_
    refine lq_aload_n C (i := 3) rfl 1 rfl dL_law_2816 ?_
    refine lq_callW C (z431_L_rankAt l hlt S dp x out v1 hneg_v1 Fm_x Fk_x) lH_348 rfl rfl ⟨by decide, by decide⟩ ⟨Nat.le_of_ble_eq_true rfl, Nat.le_of_ble_eq_true rfl⟩ rfl (Nat.le_of_ble_eq_true rfl) dL_law_2817 (fun r_2817 u_2817 h_2817 => ?_)
    obtain ⟨hr_2817, hu_2817⟩ := h_2817
    have hw_2817 := hu_2817.symm
    subst hw_2817
    have hx_2817 := hr_2817.symm
    subst hx_2817
    refine lq_istore C (lv' := [(5, .int (nI 1)), (4, .int (nI 0)), (3, .ref out), (2, .ref (a 0)), (1, .ref x), (0, .ref b)]) (by decide) rfl dL_law_2820 ?_
    refine lq_aload_n C (i := 2) rfl 3 rfl dL_law_2822 ?_
    refine lq_aload_n C (i := 0) rfl 5 rfl dL_law_2823 ?_
    refine lq_iload C 1 rfl dL_law_2824 ?_
    refine lq_iconst C (x := nI 1) rfl dL_law_2826 ?_
    refine lq_iadd C dL_law_2827 ?_
    refine lq_cast (.int (nI 1)) (congrArg Value.int (by decide)) ?_
    refine lq_sld C 1 (by decide) (by decide) dL_law_2828 ?_
    refine lq_cast (.int v1) (congrArg Value.int e_v1) ?_
    refine lq_doM C (w247_rankAt l v f g v1 hneg_v1 Mv_88) lM_350 rfl rfl ⟨by decide, by decide⟩ ⟨Nat.le_of_ble_eq_true rfl, Nat.le_of_ble_eq_true rfl⟩ rfl (Nat.le_of_ble_eq_true rfl) dL_law_2829 ?_
    refine lq_istore C (lv' := [(6, .int (nI 0)), (5, .int (nI 1)), (4, .int (nI 0)), (3, .ref out), (2, .ref (a 0)), (1, .ref x), (0, .ref b)]) (by decide) rfl dL_law_2832 ?_
    refine lq_aload_n C (i := 2) rfl 4 rfl dL_law_2834 ?_
    refine lq_doM C (w4_thrown l (upd v 99 (nI 1)) f g rfl) lM_192 rfl rfl ⟨by decide, by decide⟩ ⟨Nat.le_of_ble_eq_true rfl, Nat.le_of_ble_eq_true rfl⟩ rfl (Nat.le_of_ble_eq_true rfl) dL_law_2835 ?_
    refine lq_iload C 1 rfl dL_law_2838 ?_
    refine lq_icmp_eq C 2845 (by decide) dL_law_2840 (fun _ => ?_) (fun c_ => absurd (by decide) c_)
    refine lq_iload C 1 rfl dL_law_2845 ?_
    refine lq_if_ne C 2862 (by decide) dL_law_2847 (fun _ => ?_) (fun c_ => absurd c_ (by decide))
    refine lq_goto C 3491 (by decide) dL_law_2862 ?_
    exact lq_sub [2, 6] rfl (law_tail C (Nat.le_of_ble_eq_true rfl) (Nat.le_of_ble_eq_true rfl))
  · obtain ⟨v2, e_v2⟩ : ∃ z : Int32, xs 2 = z := ⟨_, rfl⟩
    obtain ⟨v3, e_v3⟩ : ∃ z : Int32, xs 3 = z := ⟨_, rfl⟩
    obtain ⟨v4, e_v4⟩ : ∃ z : Int32, xs 4 = z := ⟨_, rfl⟩
    obtain ⟨v5, e_v5⟩ : ∃ z : Int32, xs 5 = z := ⟨_, rfl⟩
    refine lq_aload_n C (i := 1) rfl 3 rfl dL_law_2809 ?_
    refine lq_aload_n C (i := 0) rfl 4 rfl dL_law_2810 ?_
    refine lq_iload C 0 rfl dL_law_2811 ?_
    refine lq_iconst C (x := nI 1) rfl dL_law_2813 ?_
    refine lq_iadd C dL_law_2814 ?_
    refine lq_cast (.int (nI 1)) (congrArg Value.int (by decide)) ?_
    refine lq_sld C 1 (by decide) (by decide) dL_law_2815 ?_
    refine lq_cast (.int (nI v1)) (congrArg Value.int e_v1) ?_
    refine lq_aload_n C (i := 3) rfl 1 rfl dL_law_2816 ?_
    refine lq_callW C (z433_L_rankAt l hlt S dp x out q37 v1 (by omega) Fr_365_x Fk_x Fm_x Fi_33_q37 Fk_q37 Fm_q37) lH_348 rfl rfl ⟨by decide, by decide⟩ ⟨Nat.le_of_ble_eq_true rfl, Nat.le_of_ble_eq_true rfl⟩ rfl (Nat.le_of_ble_eq_true rfl) dL_law_2817 (fun r_2817 u_2817 h_2817 => ?_)
    obtain ⟨hr_2817, hu_2817⟩ := h_2817
    have hw_2817 := hu_2817.symm
    subst hw_2817
    have hx_2817 := hr_2817.symm
    subst hx_2817
    refine lq_istore C (lv' := [(5, .int (nI 1)), (4, .int (nI 0)), (3, .ref out), (2, .ref (a 0)), (1, .ref x), (0, .ref b)]) (by decide) rfl dL_law_2820 ?_
    refine lq_aload_n C (i := 2) rfl 3 rfl dL_law_2822 ?_
    refine lq_aload_n C (i := 0) rfl 5 rfl dL_law_2823 ?_
    refine lq_iload C 1 rfl dL_law_2824 ?_
    refine lq_iconst C (x := nI 1) rfl dL_law_2826 ?_
    refine lq_iadd C dL_law_2827 ?_
    refine lq_cast (.int (nI 1)) (congrArg Value.int (by decide)) ?_
    refine lq_sld C 1 (by decide) (by decide) dL_law_2828 ?_
    refine lq_cast (.int (nI v1)) (congrArg Value.int e_v1) ?_
    refine lq_doM C (w248_rankAt l v f g v1 (by omega) Mv_88) lM_350 rfl rfl ⟨by decide, by decide⟩ ⟨Nat.le_of_ble_eq_true rfl, Nat.le_of_ble_eq_true rfl⟩ rfl (Nat.le_of_ble_eq_true rfl) dL_law_2829 ?_
    refine lq_istore C (lv' := [(6, .int (nI 0)), (5, .int (nI 1)), (4, .int (nI 0)), (3, .ref out), (2, .ref (a 0)), (1, .ref x), (0, .ref b)]) (by decide) rfl dL_law_2832 ?_
    refine lq_aload_n C (i := 2) rfl 4 rfl dL_law_2834 ?_
    refine lq_doM C (w4_thrown l (upd v 99 (nI 1)) f g rfl) lM_192 rfl rfl ⟨by decide, by decide⟩ ⟨Nat.le_of_ble_eq_true rfl, Nat.le_of_ble_eq_true rfl⟩ rfl (Nat.le_of_ble_eq_true rfl) dL_law_2835 ?_
    refine lq_iload C 1 rfl dL_law_2838 ?_
    refine lq_icmp_eq C 2845 (by decide) dL_law_2840 (fun _ => ?_) (fun c_ => absurd (by decide) c_)
    refine lq_iload C 1 rfl dL_law_2845 ?_
    refine lq_if_ne C 2862 (by decide) dL_law_2847 (fun _ => ?_) (fun c_ => absurd c_ (by decide))
    refine lq_goto C 3491 (by decide) dL_law_2862 ?_
    exact lq_sub [2, 6] rfl (law_tail C (Nat.le_of_ble_eq_true rfl) (Nat.le_of_ble_eq_true rfl))
set_option maxHeartbeats 8000000 in
set_option maxRecDepth 100000 in
theorem law_case48 (C : lC p l s m meth c b 6 xs D Y tp dp) {S : cS} {a : Nat → Nat} {v : Nat → Int32} {f : Nat → Nat → Int32} {g : Nat → Nat → Int64} {x out q1 q2 q3 q10 q11 q15 q19 q20 q21 q22 q23 q29 q30 q37 : Nat} (F : cFr S dp x out q1 q2 q3 q10 q11 q15 q19 q20 q21 q22 q23 q29 q30 q37) (M : mFr v f g) : lG p l e s m below meth c b D Y 174 409927 2865 [(4, .int (nI 0)), (3, .ref out), (2, .ref (a 0)), (1, .ref x), (0, .ref b)] [] S a v f g := by
  have hlt := C.2.2.2.2.2.2.2.2.2.2.1
  obtain ⟨FeI_q30_0, FeI_q30_1, Fi_195_q23, Fi_289_q11, Fi_289_q15, Fi_289_q2, Fi_33_q37, Fi_361_x, Fi_366_x, Fi_368_x, Fi_369_x, Fi_36_q37, Fi_370_x, Fi_37_q37, Fi_384_q19, Fi_384_q22, Fi_386_q19, Fi_386_q21, Fi_386_q22, Fk_out, Fk_q1, Fk_q10, Fk_q11, Fk_q15, Fk_q19, Fk_q2, Fk_q20, Fk_q21, Fk_q22, Fk_q23, Fk_q29, Fk_q3, Fk_q30, Fk_q37, Fk_x, Fm_out, Fm_q1, Fm_q10, Fm_q11, Fm_q15, Fm_q19, Fm_q2, Fm_q20, Fm_q21, Fm_q22, Fm_q23, Fm_q29, Fm_q3, Fm_q30, Fm_q37, Fm_x, Fn_out, Fn_q3, Fn_q30, Fr_224_q29, Fr_288_q2, Fr_321_q20, Fr_352_x, Fr_353_x, Fr_354_x, Fr_355_x, Fr_356_x, Fr_358_x, Fr_359_x, Fr_360_x, Fr_362_x, Fr_364_x, Fr_365_x, Fr_385_q19, Fr_385_q22, Fr_3_q10, Fr_4_q10, Fr_96_q1⟩ := F
  obtain ⟨Mall_21, Mall_22, Mf_29_0, Mf_29_1, Mf_29_2, Mf_29_3, Mf_29_4, Mf_49_0, Mf_49_1, Mf_8_0, Mf_8_1, Mg_7_0, Mg_7_1, Mg_7_10, Mg_7_11, Mg_7_12, Mg_7_13, Mg_7_14, Mg_7_15, Mg_7_16, Mg_7_17, Mg_7_18, Mg_7_19, Mg_7_2, Mg_7_20, Mg_7_21, Mg_7_22, Mg_7_23, Mg_7_24, Mg_7_25, Mg_7_26, Mg_7_27, Mg_7_28, Mg_7_29, Mg_7_3, Mg_7_30, Mg_7_31, Mg_7_32, Mg_7_33, Mg_7_34, Mg_7_35, Mg_7_36, Mg_7_37, Mg_7_38, Mg_7_39, Mg_7_4, Mg_7_5, Mg_7_6, Mg_7_7, Mg_7_8, Mg_7_9, Mv_13, Mv_14, Mv_2, Mv_20, Mv_29, Mv_34, Mv_35, Mv_40, Mv_48, Mv_49, Mv_72, Mv_88, Mv_89, Mv_90, Mv_96, Mv_97, Mv_98⟩ := M
  obtain ⟨v1, e_v1⟩ : ∃ z : Int32, xs 1 = z := ⟨_, rfl⟩
  obtain ⟨v2, e_v2⟩ : ∃ z : Int32, xs 2 = z := ⟨_, rfl⟩
  obtain ⟨v3, e_v3⟩ : ∃ z : Int32, xs 3 = z := ⟨_, rfl⟩
  obtain ⟨v4, e_v4⟩ : ∃ z : Int32, xs 4 = z := ⟨_, rfl⟩
  obtain ⟨v5, e_v5⟩ : ∃ z : Int32, xs 5 = z := ⟨_, rfl⟩
  refine lq_aload_n C (i := 1) rfl 3 rfl dL_law_2865 ?_
  refine lq_callC C (z434_X11_skipped l hlt S dp x q37 Fr_365_x Fk_x Fm_x Fi_36_q37 Fk_q37 Fm_q37) cc_L_351 Fm_x Fk_x (by decide) rfl rfl ⟨by decide, by decide⟩ ⟨Nat.le_of_ble_eq_true rfl, Nat.le_of_ble_eq_true rfl⟩ rfl (Nat.le_of_ble_eq_true rfl) dL_law_2866 (fun r_2866 u_2866 h_2866 => ?_)
  obtain ⟨hr_2866, hu_2866⟩ := h_2866
  have hw_2866 := hu_2866.symm
  subst hw_2866
  have hx_2866 := hr_2866.symm
  subst hx_2866
  refine lq_aload_n C (i := 2) rfl 2 rfl dL_law_2869 ?_
  refine lq_doM C (w249_skipped l v f g Mv_89) lM_354 rfl rfl ⟨by decide, by decide⟩ ⟨Nat.le_of_ble_eq_true rfl, Nat.le_of_ble_eq_true rfl⟩ rfl (Nat.le_of_ble_eq_true rfl) dL_law_2870 ?_
  refine lq_icmp_eq C 3491 (by decide) dL_law_2873 (fun _ => ?_) (fun c_ => absurd (by decide) c_)
  exact lq_sub [0, 4] rfl (law_tail C (Nat.le_of_ble_eq_true rfl) (Nat.le_of_ble_eq_true rfl))
set_option maxHeartbeats 8000000 in
set_option maxRecDepth 100000 in
theorem law_case49 (C : lC p l s m meth c b 6 xs D Y tp dp) {S : cS} {a : Nat → Nat} {v : Nat → Int32} {f : Nat → Nat → Int32} {g : Nat → Nat → Int64} {x out q1 q2 q3 q10 q11 q15 q19 q20 q21 q22 q23 q29 q30 q37 : Nat} (F : cFr S dp x out q1 q2 q3 q10 q11 q15 q19 q20 q21 q22 q23 q29 q30 q37) (M : mFr v f g) : lG p l e s m below meth c b D Y 174 409927 2878 [(4, .int (nI 0)), (3, .ref out), (2, .ref (a 0)), (1, .ref x), (0, .ref b)] [] S a v f g := by
  have hlt := C.2.2.2.2.2.2.2.2.2.2.1
  obtain ⟨FeI_q30_0, FeI_q30_1, Fi_195_q23, Fi_289_q11, Fi_289_q15, Fi_289_q2, Fi_33_q37, Fi_361_x, Fi_366_x, Fi_368_x, Fi_369_x, Fi_36_q37, Fi_370_x, Fi_37_q37, Fi_384_q19, Fi_384_q22, Fi_386_q19, Fi_386_q21, Fi_386_q22, Fk_out, Fk_q1, Fk_q10, Fk_q11, Fk_q15, Fk_q19, Fk_q2, Fk_q20, Fk_q21, Fk_q22, Fk_q23, Fk_q29, Fk_q3, Fk_q30, Fk_q37, Fk_x, Fm_out, Fm_q1, Fm_q10, Fm_q11, Fm_q15, Fm_q19, Fm_q2, Fm_q20, Fm_q21, Fm_q22, Fm_q23, Fm_q29, Fm_q3, Fm_q30, Fm_q37, Fm_x, Fn_out, Fn_q3, Fn_q30, Fr_224_q29, Fr_288_q2, Fr_321_q20, Fr_352_x, Fr_353_x, Fr_354_x, Fr_355_x, Fr_356_x, Fr_358_x, Fr_359_x, Fr_360_x, Fr_362_x, Fr_364_x, Fr_365_x, Fr_385_q19, Fr_385_q22, Fr_3_q10, Fr_4_q10, Fr_96_q1⟩ := F
  obtain ⟨Mall_21, Mall_22, Mf_29_0, Mf_29_1, Mf_29_2, Mf_29_3, Mf_29_4, Mf_49_0, Mf_49_1, Mf_8_0, Mf_8_1, Mg_7_0, Mg_7_1, Mg_7_10, Mg_7_11, Mg_7_12, Mg_7_13, Mg_7_14, Mg_7_15, Mg_7_16, Mg_7_17, Mg_7_18, Mg_7_19, Mg_7_2, Mg_7_20, Mg_7_21, Mg_7_22, Mg_7_23, Mg_7_24, Mg_7_25, Mg_7_26, Mg_7_27, Mg_7_28, Mg_7_29, Mg_7_3, Mg_7_30, Mg_7_31, Mg_7_32, Mg_7_33, Mg_7_34, Mg_7_35, Mg_7_36, Mg_7_37, Mg_7_38, Mg_7_39, Mg_7_4, Mg_7_5, Mg_7_6, Mg_7_7, Mg_7_8, Mg_7_9, Mv_13, Mv_14, Mv_2, Mv_20, Mv_29, Mv_34, Mv_35, Mv_40, Mv_48, Mv_49, Mv_72, Mv_88, Mv_89, Mv_90, Mv_96, Mv_97, Mv_98⟩ := M
  obtain ⟨v1, e_v1⟩ : ∃ z : Int32, xs 1 = z := ⟨_, rfl⟩
  obtain ⟨v2, e_v2⟩ : ∃ z : Int32, xs 2 = z := ⟨_, rfl⟩
  obtain ⟨v3, e_v3⟩ : ∃ z : Int32, xs 3 = z := ⟨_, rfl⟩
  obtain ⟨v4, e_v4⟩ : ∃ z : Int32, xs 4 = z := ⟨_, rfl⟩
  obtain ⟨v5, e_v5⟩ : ∃ z : Int32, xs 5 = z := ⟨_, rfl⟩
  refine lq_aload_n C (i := 1) rfl 3 rfl dL_law_2878 ?_
  refine lq_callC C (z435_X11_cached l hlt S dp x q37 Fr_365_x Fk_x Fm_x Fi_37_q37 Fk_q37 Fm_q37) cc_L_355 Fm_x Fk_x (by decide) rfl rfl ⟨by decide, by decide⟩ ⟨Nat.le_of_ble_eq_true rfl, Nat.le_of_ble_eq_true rfl⟩ rfl (Nat.le_of_ble_eq_true rfl) dL_law_2879 (fun r_2879 u_2879 h_2879 => ?_)
  obtain ⟨hr_2879, hu_2879⟩ := h_2879
  have hw_2879 := hu_2879.symm
  subst hw_2879
  have hx_2879 := hr_2879.symm
  subst hx_2879
  refine lq_aload_n C (i := 2) rfl 2 rfl dL_law_2882 ?_
  refine lq_doM C (w250_cached l v f g Mv_90) lM_358 rfl rfl ⟨by decide, by decide⟩ ⟨Nat.le_of_ble_eq_true rfl, Nat.le_of_ble_eq_true rfl⟩ rfl (Nat.le_of_ble_eq_true rfl) dL_law_2883 ?_
  refine lq_icmp_eq C 3491 (by decide) dL_law_2886 (fun _ => ?_) (fun c_ => absurd (by decide) c_)
  exact lq_sub [0, 4] rfl (law_tail C (Nat.le_of_ble_eq_true rfl) (Nat.le_of_ble_eq_true rfl))
set_option maxHeartbeats 8000000 in
set_option maxRecDepth 100000 in
theorem law_case50 (C : lC p l s m meth c b 6 xs D Y tp dp) {S : cS} {a : Nat → Nat} {v : Nat → Int32} {f : Nat → Nat → Int32} {g : Nat → Nat → Int64} {x out q1 q2 q3 q10 q11 q15 q19 q20 q21 q22 q23 q29 q30 q37 : Nat} (F : cFr S dp x out q1 q2 q3 q10 q11 q15 q19 q20 q21 q22 q23 q29 q30 q37) (M : mFr v f g) : lG p l e s m below meth c b D Y 174 409927 2891 [(4, .int (nI 0)), (3, .ref out), (2, .ref (a 0)), (1, .ref x), (0, .ref b)] [] S a v f g := by
  have hlt := C.2.2.2.2.2.2.2.2.2.2.1
  obtain ⟨FeI_q30_0, FeI_q30_1, Fi_195_q23, Fi_289_q11, Fi_289_q15, Fi_289_q2, Fi_33_q37, Fi_361_x, Fi_366_x, Fi_368_x, Fi_369_x, Fi_36_q37, Fi_370_x, Fi_37_q37, Fi_384_q19, Fi_384_q22, Fi_386_q19, Fi_386_q21, Fi_386_q22, Fk_out, Fk_q1, Fk_q10, Fk_q11, Fk_q15, Fk_q19, Fk_q2, Fk_q20, Fk_q21, Fk_q22, Fk_q23, Fk_q29, Fk_q3, Fk_q30, Fk_q37, Fk_x, Fm_out, Fm_q1, Fm_q10, Fm_q11, Fm_q15, Fm_q19, Fm_q2, Fm_q20, Fm_q21, Fm_q22, Fm_q23, Fm_q29, Fm_q3, Fm_q30, Fm_q37, Fm_x, Fn_out, Fn_q3, Fn_q30, Fr_224_q29, Fr_288_q2, Fr_321_q20, Fr_352_x, Fr_353_x, Fr_354_x, Fr_355_x, Fr_356_x, Fr_358_x, Fr_359_x, Fr_360_x, Fr_362_x, Fr_364_x, Fr_365_x, Fr_385_q19, Fr_385_q22, Fr_3_q10, Fr_4_q10, Fr_96_q1⟩ := F
  obtain ⟨Mall_21, Mall_22, Mf_29_0, Mf_29_1, Mf_29_2, Mf_29_3, Mf_29_4, Mf_49_0, Mf_49_1, Mf_8_0, Mf_8_1, Mg_7_0, Mg_7_1, Mg_7_10, Mg_7_11, Mg_7_12, Mg_7_13, Mg_7_14, Mg_7_15, Mg_7_16, Mg_7_17, Mg_7_18, Mg_7_19, Mg_7_2, Mg_7_20, Mg_7_21, Mg_7_22, Mg_7_23, Mg_7_24, Mg_7_25, Mg_7_26, Mg_7_27, Mg_7_28, Mg_7_29, Mg_7_3, Mg_7_30, Mg_7_31, Mg_7_32, Mg_7_33, Mg_7_34, Mg_7_35, Mg_7_36, Mg_7_37, Mg_7_38, Mg_7_39, Mg_7_4, Mg_7_5, Mg_7_6, Mg_7_7, Mg_7_8, Mg_7_9, Mv_13, Mv_14, Mv_2, Mv_20, Mv_29, Mv_34, Mv_35, Mv_40, Mv_48, Mv_49, Mv_72, Mv_88, Mv_89, Mv_90, Mv_96, Mv_97, Mv_98⟩ := M
  rcases c_sgn (xs 1) with hneg_v1 | ⟨v1, hr_v1, e_v1⟩
  · obtain ⟨v1, e_v1⟩ : ∃ z : Int32, xs 1 = z := ⟨_, rfl⟩
    rw [e_v1] at hneg_v1
    obtain ⟨v2, e_v2⟩ : ∃ z : Int32, xs 2 = z := ⟨_, rfl⟩
    obtain ⟨v3, e_v3⟩ : ∃ z : Int32, xs 3 = z := ⟨_, rfl⟩
    obtain ⟨v4, e_v4⟩ : ∃ z : Int32, xs 4 = z := ⟨_, rfl⟩
    obtain ⟨v5, e_v5⟩ : ∃ z : Int32, xs 5 = z := ⟨_, rfl⟩
    refine lq_aload_n C (i := 1) rfl 3 rfl dL_law_2891 ?_
    refine lq_aload_n C (i := 0) rfl 4 rfl dL_law_2892 ?_
    refine lq_iload C 0 rfl dL_law_2893 ?_
    refine lq_iconst C (x := nI 1) rfl dL_law_2895 ?_
    refine lq_iadd C dL_law_2896 ?_
    refine lq_cast (.int (nI 1)) (congrArg Value.int (by decide)) ?_
    refine lq_sld C 1 (by decide) (by decide) dL_law_2897 ?_
    refine lq_cast (.int v1) (congrArg Value.int e_v1) ?_
    refine lq_aload_n C (i := 0) rfl 4 rfl dL_law_2898 ?_
    refine lq_iload C 0 rfl dL_law_2899 ?_
    refine lq_iconst C (x := nI 2) rfl dL_law_2901 ?_
    refine lq_iadd C dL_law_2902 ?_
    refine lq_cast (.int (nI 2)) (congrArg Value.int (by decide)) ?_
    refine lq_sld C 2 (by decide) (by decide) dL_law_2903 ?_
    refine lq_cast (.int v2) (congrArg Value.int e_v2) ?_
    refine lq_aload_n C (i := 0) rfl 4 rfl dL_law_2904 ?_
    refine lq_iload C 0 rfl dL_law_2905 ?_
    refine lq_iconst C (x := nI 3) rfl dL_law_2907 ?_
    refine lq_iadd C dL_law_2908 ?_
    refine lq_cast (.int (nI 3)) (congrArg Value.int (by decide)) ?_
    refine lq_sld C 3 (by decide) (by decide) dL_law_2909 ?_
    refine lq_cast (.int v3) (congrArg Value.int e_v3) ?_
    refine lq_aload_n C (i := 3) rfl 1 rfl dL_law_2910 ?_
    refine lq_callW C (z439_L_rankByScan l hlt S dp x out q22 v1 v2 v3 hneg_v1 Fr_360_x Fk_x Fm_x Fi_386_q22 Fk_q22 Fm_q22) lH_359 rfl rfl ⟨by decide, by decide⟩ ⟨Nat.le_of_ble_eq_true rfl, Nat.le_of_ble_eq_true rfl⟩ rfl (Nat.le_of_ble_eq_true rfl) dL_law_2911 (fun r_2911 u_2911 h_2911 => ?_)
    obtain ⟨hr_2911, hu_2911⟩ := h_2911
    have hw_2911 := hu_2911.symm
    subst hw_2911
    have hx_2911 := hr_2911.symm
    subst hx_2911
    refine lq_istore C (lv' := [(5, .int (nI 1)), (4, .int (nI 0)), (3, .ref out), (2, .ref (a 0)), (1, .ref x), (0, .ref b)]) (by decide) rfl dL_law_2914 ?_
    refine lq_aload_n C (i := 2) rfl 3 rfl dL_law_2916 ?_
    refine lq_aload_n C (i := 0) rfl 5 rfl dL_law_2917 ?_
    refine lq_iload C 1 rfl dL_law_2918 ?_
    refine lq_iconst C (x := nI 1) rfl dL_law_2920 ?_
    refine lq_iadd C dL_law_2921 ?_
    refine lq_cast (.int (nI 1)) (congrArg Value.int (by decide)) ?_
    refine lq_sld C 1 (by decide) (by decide) dL_law_2922 ?_
    refine lq_cast (.int v1) (congrArg Value.int e_v1) ?_
    refine lq_aload_n C (i := 0) rfl 5 rfl dL_law_2923 ?_
    refine lq_iload C 1 rfl dL_law_2924 ?_
    refine lq_iconst C (x := nI 2) rfl dL_law_2926 ?_
    refine lq_iadd C dL_law_2927 ?_
    refine lq_cast (.int (nI 2)) (congrArg Value.int (by decide)) ?_
    refine lq_sld C 2 (by decide) (by decide) dL_law_2928 ?_
    refine lq_cast (.int v2) (congrArg Value.int e_v2) ?_
    refine lq_aload_n C (i := 0) rfl 5 rfl dL_law_2929 ?_
    refine lq_iload C 1 rfl dL_law_2930 ?_
    refine lq_iconst C (x := nI 3) rfl dL_law_2932 ?_
    refine lq_iadd C dL_law_2933 ?_
    refine lq_cast (.int (nI 3)) (congrArg Value.int (by decide)) ?_
    refine lq_sld C 3 (by decide) (by decide) dL_law_2934 ?_
    refine lq_cast (.int v3) (congrArg Value.int e_v3) ?_
    refine lq_doM C (w252_rankByScan l v f g v1 v2 v3 hneg_v1) lM_361 rfl rfl ⟨by decide, by decide⟩ ⟨Nat.le_of_ble_eq_true rfl, Nat.le_of_ble_eq_true rfl⟩ rfl (Nat.le_of_ble_eq_true rfl) dL_law_2935 ?_
    refine lq_istore C (lv' := [(6, .int (nI 0)), (5, .int (nI 1)), (4, .int (nI 0)), (3, .ref out), (2, .ref (a 0)), (1, .ref x), (0, .ref b)]) (by decide) rfl dL_law_2938 ?_
    refine lq_aload_n C (i := 2) rfl 4 rfl dL_law_2940 ?_
    refine lq_doM C (w4_thrown l (upd v 99 (nI 1)) f g rfl) lM_192 rfl rfl ⟨by decide, by decide⟩ ⟨Nat.le_of_ble_eq_true rfl, Nat.le_of_ble_eq_true rfl⟩ rfl (Nat.le_of_ble_eq_true rfl) dL_law_2941 ?_
    refine lq_iload C 1 rfl dL_law_2944 ?_
    refine lq_icmp_eq C 2951 (by decide) dL_law_2946 (fun _ => ?_) (fun c_ => absurd (by decide) c_)
    refine lq_iload C 1 rfl dL_law_2951 ?_
    refine lq_if_ne C 2968 (by decide) dL_law_2953 (fun _ => ?_) (fun c_ => absurd c_ (by decide))
    refine lq_goto C 3491 (by decide) dL_law_2968 ?_
    exact lq_sub [2, 6] rfl (law_tail C (Nat.le_of_ble_eq_true rfl) (Nat.le_of_ble_eq_true rfl))
  · obtain ⟨v2, e_v2⟩ : ∃ z : Int32, xs 2 = z := ⟨_, rfl⟩
    obtain ⟨v3, e_v3⟩ : ∃ z : Int32, xs 3 = z := ⟨_, rfl⟩
    obtain ⟨v4, e_v4⟩ : ∃ z : Int32, xs 4 = z := ⟨_, rfl⟩
    obtain ⟨v5, e_v5⟩ : ∃ z : Int32, xs 5 = z := ⟨_, rfl⟩
    refine lq_aload_n C (i := 1) rfl 3 rfl dL_law_2891 ?_
    refine lq_aload_n C (i := 0) rfl 4 rfl dL_law_2892 ?_
    refine lq_iload C 0 rfl dL_law_2893 ?_
    refine lq_iconst C (x := nI 1) rfl dL_law_2895 ?_
    refine lq_iadd C dL_law_2896 ?_
    refine lq_cast (.int (nI 1)) (congrArg Value.int (by decide)) ?_
    refine lq_sld C 1 (by decide) (by decide) dL_law_2897 ?_
    refine lq_cast (.int (nI v1)) (congrArg Value.int e_v1) ?_
    refine lq_aload_n C (i := 0) rfl 4 rfl dL_law_2898 ?_
    refine lq_iload C 0 rfl dL_law_2899 ?_
    refine lq_iconst C (x := nI 2) rfl dL_law_2901 ?_
    refine lq_iadd C dL_law_2902 ?_
    refine lq_cast (.int (nI 2)) (congrArg Value.int (by decide)) ?_
    refine lq_sld C 2 (by decide) (by decide) dL_law_2903 ?_
    refine lq_cast (.int v2) (congrArg Value.int e_v2) ?_
    refine lq_aload_n C (i := 0) rfl 4 rfl dL_law_2904 ?_
    refine lq_iload C 0 rfl dL_law_2905 ?_
    refine lq_iconst C (x := nI 3) rfl dL_law_2907 ?_
    refine lq_iadd C dL_law_2908 ?_
    refine lq_cast (.int (nI 3)) (congrArg Value.int (by decide)) ?_
    refine lq_sld C 3 (by decide) (by decide) dL_law_2909 ?_
    refine lq_cast (.int v3) (congrArg Value.int e_v3) ?_
    refine lq_aload_n C (i := 3) rfl 1 rfl dL_law_2910 ?_
    refine lq_callW C (z441_L_rankByScan l hlt S dp x out q22 v1 v2 v3 (by omega) Fr_360_x Fk_x Fm_x Fi_386_q22 Fk_q22 Fm_q22) lH_359 rfl rfl ⟨by decide, by decide⟩ ⟨Nat.le_of_ble_eq_true rfl, Nat.le_of_ble_eq_true rfl⟩ rfl (Nat.le_of_ble_eq_true rfl) dL_law_2911 (fun r_2911 u_2911 h_2911 => ?_)
    obtain ⟨hr_2911, hu_2911⟩ := h_2911
    have hw_2911 := hu_2911.symm
    subst hw_2911
    have hx_2911 := hr_2911.symm
    subst hx_2911
    refine lq_istore C (lv' := [(5, .int (nI 1)), (4, .int (nI 0)), (3, .ref out), (2, .ref (a 0)), (1, .ref x), (0, .ref b)]) (by decide) rfl dL_law_2914 ?_
    refine lq_aload_n C (i := 2) rfl 3 rfl dL_law_2916 ?_
    refine lq_aload_n C (i := 0) rfl 5 rfl dL_law_2917 ?_
    refine lq_iload C 1 rfl dL_law_2918 ?_
    refine lq_iconst C (x := nI 1) rfl dL_law_2920 ?_
    refine lq_iadd C dL_law_2921 ?_
    refine lq_cast (.int (nI 1)) (congrArg Value.int (by decide)) ?_
    refine lq_sld C 1 (by decide) (by decide) dL_law_2922 ?_
    refine lq_cast (.int (nI v1)) (congrArg Value.int e_v1) ?_
    refine lq_aload_n C (i := 0) rfl 5 rfl dL_law_2923 ?_
    refine lq_iload C 1 rfl dL_law_2924 ?_
    refine lq_iconst C (x := nI 2) rfl dL_law_2926 ?_
    refine lq_iadd C dL_law_2927 ?_
    refine lq_cast (.int (nI 2)) (congrArg Value.int (by decide)) ?_
    refine lq_sld C 2 (by decide) (by decide) dL_law_2928 ?_
    refine lq_cast (.int v2) (congrArg Value.int e_v2) ?_
    refine lq_aload_n C (i := 0) rfl 5 rfl dL_law_2929 ?_
    refine lq_iload C 1 rfl dL_law_2930 ?_
    refine lq_iconst C (x := nI 3) rfl dL_law_2932 ?_
    refine lq_iadd C dL_law_2933 ?_
    refine lq_cast (.int (nI 3)) (congrArg Value.int (by decide)) ?_
    refine lq_sld C 3 (by decide) (by decide) dL_law_2934 ?_
    refine lq_cast (.int v3) (congrArg Value.int e_v3) ?_
    refine lq_doM C (w253_rankByScan l v f g v1 v2 v3 (by omega) Mf_29_0 Mf_29_1 Mf_29_2 Mf_29_3 Mf_29_4) lM_361 rfl rfl ⟨by decide, by decide⟩ ⟨Nat.le_of_ble_eq_true rfl, Nat.le_of_ble_eq_true rfl⟩ rfl (Nat.le_of_ble_eq_true rfl) dL_law_2935 ?_
    refine lq_istore C (lv' := [(6, .int (nI 0)), (5, .int (nI 1)), (4, .int (nI 0)), (3, .ref out), (2, .ref (a 0)), (1, .ref x), (0, .ref b)]) (by decide) rfl dL_law_2938 ?_
    refine lq_aload_n C (i := 2) rfl 4 rfl dL_law_2940 ?_
    refine lq_doM C (w4_thrown l (upd v 99 (nI 1)) f g rfl) lM_192 rfl rfl ⟨by decide, by decide⟩ ⟨Nat.le_of_ble_eq_true rfl, Nat.le_of_ble_eq_true rfl⟩ rfl (Nat.le_of_ble_eq_true rfl) dL_law_2941 ?_
    refine lq_iload C 1 rfl dL_law_2944 ?_
    refine lq_icmp_eq C 2951 (by decide) dL_law_2946 (fun _ => ?_) (fun c_ => absurd (by decide) c_)
    refine lq_iload C 1 rfl dL_law_2951 ?_
    refine lq_if_ne C 2968 (by decide) dL_law_2953 (fun _ => ?_) (fun c_ => absurd c_ (by decide))
    refine lq_goto C 3491 (by decide) dL_law_2968 ?_
    exact lq_sub [2, 6] rfl (law_tail C (Nat.le_of_ble_eq_true rfl) (Nat.le_of_ble_eq_true rfl))
set_option maxHeartbeats 8000000 in
set_option maxRecDepth 100000 in
theorem law_case51 (C : lC p l s m meth c b 6 xs D Y tp dp) {S : cS} {a : Nat → Nat} {v : Nat → Int32} {f : Nat → Nat → Int32} {g : Nat → Nat → Int64} {x out q1 q2 q3 q10 q11 q15 q19 q20 q21 q22 q23 q29 q30 q37 : Nat} (F : cFr S dp x out q1 q2 q3 q10 q11 q15 q19 q20 q21 q22 q23 q29 q30 q37) (M : mFr v f g) : lG p l e s m below meth c b D Y 174 409927 2971 [(4, .int (nI 0)), (3, .ref out), (2, .ref (a 0)), (1, .ref x), (0, .ref b)] [] S a v f g := by
  have hlt := C.2.2.2.2.2.2.2.2.2.2.1
  obtain ⟨FeI_q30_0, FeI_q30_1, Fi_195_q23, Fi_289_q11, Fi_289_q15, Fi_289_q2, Fi_33_q37, Fi_361_x, Fi_366_x, Fi_368_x, Fi_369_x, Fi_36_q37, Fi_370_x, Fi_37_q37, Fi_384_q19, Fi_384_q22, Fi_386_q19, Fi_386_q21, Fi_386_q22, Fk_out, Fk_q1, Fk_q10, Fk_q11, Fk_q15, Fk_q19, Fk_q2, Fk_q20, Fk_q21, Fk_q22, Fk_q23, Fk_q29, Fk_q3, Fk_q30, Fk_q37, Fk_x, Fm_out, Fm_q1, Fm_q10, Fm_q11, Fm_q15, Fm_q19, Fm_q2, Fm_q20, Fm_q21, Fm_q22, Fm_q23, Fm_q29, Fm_q3, Fm_q30, Fm_q37, Fm_x, Fn_out, Fn_q3, Fn_q30, Fr_224_q29, Fr_288_q2, Fr_321_q20, Fr_352_x, Fr_353_x, Fr_354_x, Fr_355_x, Fr_356_x, Fr_358_x, Fr_359_x, Fr_360_x, Fr_362_x, Fr_364_x, Fr_365_x, Fr_385_q19, Fr_385_q22, Fr_3_q10, Fr_4_q10, Fr_96_q1⟩ := F
  obtain ⟨Mall_21, Mall_22, Mf_29_0, Mf_29_1, Mf_29_2, Mf_29_3, Mf_29_4, Mf_49_0, Mf_49_1, Mf_8_0, Mf_8_1, Mg_7_0, Mg_7_1, Mg_7_10, Mg_7_11, Mg_7_12, Mg_7_13, Mg_7_14, Mg_7_15, Mg_7_16, Mg_7_17, Mg_7_18, Mg_7_19, Mg_7_2, Mg_7_20, Mg_7_21, Mg_7_22, Mg_7_23, Mg_7_24, Mg_7_25, Mg_7_26, Mg_7_27, Mg_7_28, Mg_7_29, Mg_7_3, Mg_7_30, Mg_7_31, Mg_7_32, Mg_7_33, Mg_7_34, Mg_7_35, Mg_7_36, Mg_7_37, Mg_7_38, Mg_7_39, Mg_7_4, Mg_7_5, Mg_7_6, Mg_7_7, Mg_7_8, Mg_7_9, Mv_13, Mv_14, Mv_2, Mv_20, Mv_29, Mv_34, Mv_35, Mv_40, Mv_48, Mv_49, Mv_72, Mv_88, Mv_89, Mv_90, Mv_96, Mv_97, Mv_98⟩ := M
  rcases c_sgn (xs 1) with hneg_v1 | ⟨v1, hr_v1, e_v1⟩
  · obtain ⟨v1, e_v1⟩ : ∃ z : Int32, xs 1 = z := ⟨_, rfl⟩
    rw [e_v1] at hneg_v1
    obtain ⟨v2, e_v2⟩ : ∃ z : Int32, xs 2 = z := ⟨_, rfl⟩
    obtain ⟨v3, e_v3⟩ : ∃ z : Int32, xs 3 = z := ⟨_, rfl⟩
    obtain ⟨v4, e_v4⟩ : ∃ z : Int32, xs 4 = z := ⟨_, rfl⟩
    obtain ⟨v5, e_v5⟩ : ∃ z : Int32, xs 5 = z := ⟨_, rfl⟩
    refine lq_aload_n C (i := 1) rfl 3 rfl dL_law_2971 ?_
    refine lq_aload_n C (i := 0) rfl 4 rfl dL_law_2972 ?_
    refine lq_iload C 0 rfl dL_law_2973 ?_
    refine lq_iconst C (x := nI 1) rfl dL_law_2975 ?_
    refine lq_iadd C dL_law_2976 ?_
    refine lq_cast (.int (nI 1)) (congrArg Value.int (by decide)) ?_
    refine lq_sld C 1 (by decide) (by decide) dL_law_2977 ?_
    refine lq_cast (.int v1) (congrArg Value.int e_v1) ?_
    refine lq_aload_n C (i := 0) rfl 4 rfl dL_law_2978 ?_
    refine lq_iload C 0 rfl dL_law_2979 ?_
    refine lq_iconst C (x := nI 2) rfl dL_law_2981 ?_
    refine lq_iadd C dL_law_2982 ?_
    refine lq_cast (.int (nI 2)) (congrArg Value.int (by decide)) ?_
    refine lq_sld C 2 (by decide) (by decide) dL_law_2983 ?_
    refine lq_cast (.int v2) (congrArg Value.int e_v2) ?_
    refine lq_aload_n C (i := 3) rfl 1 rfl dL_law_2984 ?_
    refine lq_callW C (z445_L_matches l hlt S dp x out q22 v1 v2 hneg_v1 Fr_360_x Fk_x Fm_x Fi_386_q22 Fk_q22 Fm_q22) lH_362 rfl rfl ⟨by decide, by decide⟩ ⟨Nat.le_of_ble_eq_true rfl, Nat.le_of_ble_eq_true rfl⟩ rfl (Nat.le_of_ble_eq_true rfl) dL_law_2985 (fun r_2985 u_2985 h_2985 => ?_)
    obtain ⟨hr_2985, hu_2985⟩ := h_2985
    have hw_2985 := hu_2985.symm
    subst hw_2985
    have hx_2985 := hr_2985.symm
    subst hx_2985
    refine lq_istore C (lv' := [(5, .int (nI 1)), (4, .int (nI 0)), (3, .ref out), (2, .ref (a 0)), (1, .ref x), (0, .ref b)]) (by decide) rfl dL_law_2988 ?_
    refine lq_aload_n C (i := 2) rfl 3 rfl dL_law_2990 ?_
    refine lq_aload_n C (i := 0) rfl 5 rfl dL_law_2991 ?_
    refine lq_iload C 1 rfl dL_law_2992 ?_
    refine lq_iconst C (x := nI 1) rfl dL_law_2994 ?_
    refine lq_iadd C dL_law_2995 ?_
    refine lq_cast (.int (nI 1)) (congrArg Value.int (by decide)) ?_
    refine lq_sld C 1 (by decide) (by decide) dL_law_2996 ?_
    refine lq_cast (.int v1) (congrArg Value.int e_v1) ?_
    refine lq_aload_n C (i := 0) rfl 5 rfl dL_law_2997 ?_
    refine lq_iload C 1 rfl dL_law_2998 ?_
    refine lq_iconst C (x := nI 2) rfl dL_law_3000 ?_
    refine lq_iadd C dL_law_3001 ?_
    refine lq_cast (.int (nI 2)) (congrArg Value.int (by decide)) ?_
    refine lq_sld C 2 (by decide) (by decide) dL_law_3002 ?_
    refine lq_cast (.int v2) (congrArg Value.int e_v2) ?_
    refine lq_doM C (w254_matches l v f g v1 v2 hneg_v1) lM_364 rfl rfl ⟨by decide, by decide⟩ ⟨Nat.le_of_ble_eq_true rfl, Nat.le_of_ble_eq_true rfl⟩ rfl (Nat.le_of_ble_eq_true rfl) dL_law_3003 ?_
    refine lq_istore C (lv' := [(6, .int (nI 0)), (5, .int (nI 1)), (4, .int (nI 0)), (3, .ref out), (2, .ref (a 0)), (1, .ref x), (0, .ref b)]) (by decide) rfl dL_law_3006 ?_
    refine lq_aload_n C (i := 2) rfl 4 rfl dL_law_3008 ?_
    refine lq_doM C (w4_thrown l (upd v 99 (nI 1)) f g rfl) lM_192 rfl rfl ⟨by decide, by decide⟩ ⟨Nat.le_of_ble_eq_true rfl, Nat.le_of_ble_eq_true rfl⟩ rfl (Nat.le_of_ble_eq_true rfl) dL_law_3009 ?_
    refine lq_iload C 1 rfl dL_law_3012 ?_
    refine lq_icmp_eq C 3019 (by decide) dL_law_3014 (fun _ => ?_) (fun c_ => absurd (by decide) c_)
    refine lq_iload C 1 rfl dL_law_3019 ?_
    refine lq_if_ne C 3036 (by decide) dL_law_3021 (fun _ => ?_) (fun c_ => absurd c_ (by decide))
    refine lq_goto C 3491 (by decide) dL_law_3036 ?_
    exact lq_sub [2, 6] rfl (law_tail C (Nat.le_of_ble_eq_true rfl) (Nat.le_of_ble_eq_true rfl))
  · obtain ⟨v2, e_v2⟩ : ∃ z : Int32, xs 2 = z := ⟨_, rfl⟩
    obtain ⟨v3, e_v3⟩ : ∃ z : Int32, xs 3 = z := ⟨_, rfl⟩
    obtain ⟨v4, e_v4⟩ : ∃ z : Int32, xs 4 = z := ⟨_, rfl⟩
    obtain ⟨v5, e_v5⟩ : ∃ z : Int32, xs 5 = z := ⟨_, rfl⟩
    refine lq_aload_n C (i := 1) rfl 3 rfl dL_law_2971 ?_
    refine lq_aload_n C (i := 0) rfl 4 rfl dL_law_2972 ?_
    refine lq_iload C 0 rfl dL_law_2973 ?_
    refine lq_iconst C (x := nI 1) rfl dL_law_2975 ?_
    refine lq_iadd C dL_law_2976 ?_
    refine lq_cast (.int (nI 1)) (congrArg Value.int (by decide)) ?_
    refine lq_sld C 1 (by decide) (by decide) dL_law_2977 ?_
    refine lq_cast (.int (nI v1)) (congrArg Value.int e_v1) ?_
    refine lq_aload_n C (i := 0) rfl 4 rfl dL_law_2978 ?_
    refine lq_iload C 0 rfl dL_law_2979 ?_
    refine lq_iconst C (x := nI 2) rfl dL_law_2981 ?_
    refine lq_iadd C dL_law_2982 ?_
    refine lq_cast (.int (nI 2)) (congrArg Value.int (by decide)) ?_
    refine lq_sld C 2 (by decide) (by decide) dL_law_2983 ?_
    refine lq_cast (.int v2) (congrArg Value.int e_v2) ?_
    refine lq_aload_n C (i := 3) rfl 1 rfl dL_law_2984 ?_
    refine lq_callW C (z447_L_matches l hlt S dp x out q22 v1 v2 (by omega) Fr_360_x Fk_x Fm_x Fi_386_q22 Fk_q22 Fm_q22) lH_362 rfl rfl ⟨by decide, by decide⟩ ⟨Nat.le_of_ble_eq_true rfl, Nat.le_of_ble_eq_true rfl⟩ rfl (Nat.le_of_ble_eq_true rfl) dL_law_2985 (fun r_2985 u_2985 h_2985 => ?_)
    obtain ⟨hr_2985, hu_2985⟩ := h_2985
    have hw_2985 := hu_2985.symm
    subst hw_2985
    have hx_2985 := hr_2985.symm
    subst hx_2985
    refine lq_istore C (lv' := [(5, .int (nI 1)), (4, .int (nI 0)), (3, .ref out), (2, .ref (a 0)), (1, .ref x), (0, .ref b)]) (by decide) rfl dL_law_2988 ?_
    refine lq_aload_n C (i := 2) rfl 3 rfl dL_law_2990 ?_
    refine lq_aload_n C (i := 0) rfl 5 rfl dL_law_2991 ?_
    refine lq_iload C 1 rfl dL_law_2992 ?_
    refine lq_iconst C (x := nI 1) rfl dL_law_2994 ?_
    refine lq_iadd C dL_law_2995 ?_
    refine lq_cast (.int (nI 1)) (congrArg Value.int (by decide)) ?_
    refine lq_sld C 1 (by decide) (by decide) dL_law_2996 ?_
    refine lq_cast (.int (nI v1)) (congrArg Value.int e_v1) ?_
    refine lq_aload_n C (i := 0) rfl 5 rfl dL_law_2997 ?_
    refine lq_iload C 1 rfl dL_law_2998 ?_
    refine lq_iconst C (x := nI 2) rfl dL_law_3000 ?_
    refine lq_iadd C dL_law_3001 ?_
    refine lq_cast (.int (nI 2)) (congrArg Value.int (by decide)) ?_
    refine lq_sld C 2 (by decide) (by decide) dL_law_3002 ?_
    refine lq_cast (.int v2) (congrArg Value.int e_v2) ?_
    refine lq_doM C (w255_matches l v f g v1 v2 (by omega) Mf_29_0 Mf_29_1 Mf_29_2 Mf_29_3 Mf_29_4) lM_364 rfl rfl ⟨by decide, by decide⟩ ⟨Nat.le_of_ble_eq_true rfl, Nat.le_of_ble_eq_true rfl⟩ rfl (Nat.le_of_ble_eq_true rfl) dL_law_3003 ?_
    refine lq_istore C (lv' := [(6, .int (nI 0)), (5, .int (nI 1)), (4, .int (nI 0)), (3, .ref out), (2, .ref (a 0)), (1, .ref x), (0, .ref b)]) (by decide) rfl dL_law_3006 ?_
    refine lq_aload_n C (i := 2) rfl 4 rfl dL_law_3008 ?_
    refine lq_doM C (w4_thrown l (upd v 99 (nI 1)) f g rfl) lM_192 rfl rfl ⟨by decide, by decide⟩ ⟨Nat.le_of_ble_eq_true rfl, Nat.le_of_ble_eq_true rfl⟩ rfl (Nat.le_of_ble_eq_true rfl) dL_law_3009 ?_
    refine lq_iload C 1 rfl dL_law_3012 ?_
    refine lq_icmp_eq C 3019 (by decide) dL_law_3014 (fun _ => ?_) (fun c_ => absurd (by decide) c_)
    refine lq_iload C 1 rfl dL_law_3019 ?_
    refine lq_if_ne C 3036 (by decide) dL_law_3021 (fun _ => ?_) (fun c_ => absurd c_ (by decide))
    refine lq_goto C 3491 (by decide) dL_law_3036 ?_
    exact lq_sub [2, 6] rfl (law_tail C (Nat.le_of_ble_eq_true rfl) (Nat.le_of_ble_eq_true rfl))
set_option maxHeartbeats 8000000 in
set_option maxRecDepth 100000 in
theorem law_case52 (C : lC p l s m meth c b 6 xs D Y tp dp) {S : cS} {a : Nat → Nat} {v : Nat → Int32} {f : Nat → Nat → Int32} {g : Nat → Nat → Int64} {x out q1 q2 q3 q10 q11 q15 q19 q20 q21 q22 q23 q29 q30 q37 : Nat} (F : cFr S dp x out q1 q2 q3 q10 q11 q15 q19 q20 q21 q22 q23 q29 q30 q37) (M : mFr v f g) : lG p l e s m below meth c b D Y 174 409927 3039 [(4, .int (nI 0)), (3, .ref out), (2, .ref (a 0)), (1, .ref x), (0, .ref b)] [] S a v f g := by
  have hlt := C.2.2.2.2.2.2.2.2.2.2.1
  obtain ⟨FeI_q30_0, FeI_q30_1, Fi_195_q23, Fi_289_q11, Fi_289_q15, Fi_289_q2, Fi_33_q37, Fi_361_x, Fi_366_x, Fi_368_x, Fi_369_x, Fi_36_q37, Fi_370_x, Fi_37_q37, Fi_384_q19, Fi_384_q22, Fi_386_q19, Fi_386_q21, Fi_386_q22, Fk_out, Fk_q1, Fk_q10, Fk_q11, Fk_q15, Fk_q19, Fk_q2, Fk_q20, Fk_q21, Fk_q22, Fk_q23, Fk_q29, Fk_q3, Fk_q30, Fk_q37, Fk_x, Fm_out, Fm_q1, Fm_q10, Fm_q11, Fm_q15, Fm_q19, Fm_q2, Fm_q20, Fm_q21, Fm_q22, Fm_q23, Fm_q29, Fm_q3, Fm_q30, Fm_q37, Fm_x, Fn_out, Fn_q3, Fn_q30, Fr_224_q29, Fr_288_q2, Fr_321_q20, Fr_352_x, Fr_353_x, Fr_354_x, Fr_355_x, Fr_356_x, Fr_358_x, Fr_359_x, Fr_360_x, Fr_362_x, Fr_364_x, Fr_365_x, Fr_385_q19, Fr_385_q22, Fr_3_q10, Fr_4_q10, Fr_96_q1⟩ := F
  obtain ⟨Mall_21, Mall_22, Mf_29_0, Mf_29_1, Mf_29_2, Mf_29_3, Mf_29_4, Mf_49_0, Mf_49_1, Mf_8_0, Mf_8_1, Mg_7_0, Mg_7_1, Mg_7_10, Mg_7_11, Mg_7_12, Mg_7_13, Mg_7_14, Mg_7_15, Mg_7_16, Mg_7_17, Mg_7_18, Mg_7_19, Mg_7_2, Mg_7_20, Mg_7_21, Mg_7_22, Mg_7_23, Mg_7_24, Mg_7_25, Mg_7_26, Mg_7_27, Mg_7_28, Mg_7_29, Mg_7_3, Mg_7_30, Mg_7_31, Mg_7_32, Mg_7_33, Mg_7_34, Mg_7_35, Mg_7_36, Mg_7_37, Mg_7_38, Mg_7_39, Mg_7_4, Mg_7_5, Mg_7_6, Mg_7_7, Mg_7_8, Mg_7_9, Mv_13, Mv_14, Mv_2, Mv_20, Mv_29, Mv_34, Mv_35, Mv_40, Mv_48, Mv_49, Mv_72, Mv_88, Mv_89, Mv_90, Mv_96, Mv_97, Mv_98⟩ := M
  rcases c_sgn (xs 1) with hneg_v1 | ⟨v1, hr_v1, e_v1⟩
  · obtain ⟨v1, e_v1⟩ : ∃ z : Int32, xs 1 = z := ⟨_, rfl⟩
    rw [e_v1] at hneg_v1
    obtain ⟨v2, e_v2⟩ : ∃ z : Int32, xs 2 = z := ⟨_, rfl⟩
    obtain ⟨v3, e_v3⟩ : ∃ z : Int32, xs 3 = z := ⟨_, rfl⟩
    obtain ⟨v4, e_v4⟩ : ∃ z : Int32, xs 4 = z := ⟨_, rfl⟩
    obtain ⟨v5, e_v5⟩ : ∃ z : Int32, xs 5 = z := ⟨_, rfl⟩
    refine lq_aload_n C (i := 1) rfl 3 rfl dL_law_3039 ?_
    refine lq_aload_n C (i := 0) rfl 4 rfl dL_law_3040 ?_
    refine lq_iload C 0 rfl dL_law_3041 ?_
    refine lq_iconst C (x := nI 1) rfl dL_law_3043 ?_
    refine lq_iadd C dL_law_3044 ?_
    refine lq_cast (.int (nI 1)) (congrArg Value.int (by decide)) ?_
    refine lq_sld C 1 (by decide) (by decide) dL_law_3045 ?_
    refine lq_cast (.int v1) (congrArg Value.int e_v1) ?_
    refine lq_aload_n C (i := 0) rfl 4 rfl dL_law_3046 ?_
    refine lq_iload C 0 rfl dL_law_3047 ?_
    refine lq_iconst C (x := nI 2) rfl dL_law_3049 ?_
    refine lq_iadd C dL_law_3050 ?_
    refine lq_cast (.int (nI 2)) (congrArg Value.int (by decide)) ?_
    refine lq_sld C 2 (by decide) (by decide) dL_law_3051 ?_
    refine lq_cast (.int v2) (congrArg Value.int e_v2) ?_
    refine lq_aload_n C (i := 3) rfl 1 rfl dL_law_3052 ?_
    refine lq_callW C (z451_L_matchesByScan l hlt S dp x out q22 v1 v2 hneg_v1 Fr_360_x Fk_x Fm_x Fi_386_q22 Fk_q22 Fm_q22) lH_365 rfl rfl ⟨by decide, by decide⟩ ⟨Nat.le_of_ble_eq_true rfl, Nat.le_of_ble_eq_true rfl⟩ rfl (Nat.le_of_ble_eq_true rfl) dL_law_3053 (fun r_3053 u_3053 h_3053 => ?_)
    obtain ⟨hr_3053, hu_3053⟩ := h_3053
    have hw_3053 := hu_3053.symm
    subst hw_3053
    have hx_3053 := hr_3053.symm
    subst hx_3053
    refine lq_istore C (lv' := [(5, .int (nI 1)), (4, .int (nI 0)), (3, .ref out), (2, .ref (a 0)), (1, .ref x), (0, .ref b)]) (by decide) rfl dL_law_3056 ?_
    refine lq_aload_n C (i := 2) rfl 3 rfl dL_law_3058 ?_
    refine lq_aload_n C (i := 0) rfl 5 rfl dL_law_3059 ?_
    refine lq_iload C 1 rfl dL_law_3060 ?_
    refine lq_iconst C (x := nI 1) rfl dL_law_3062 ?_
    refine lq_iadd C dL_law_3063 ?_
    refine lq_cast (.int (nI 1)) (congrArg Value.int (by decide)) ?_
    refine lq_sld C 1 (by decide) (by decide) dL_law_3064 ?_
    refine lq_cast (.int v1) (congrArg Value.int e_v1) ?_
    refine lq_aload_n C (i := 0) rfl 5 rfl dL_law_3065 ?_
    refine lq_iload C 1 rfl dL_law_3066 ?_
    refine lq_iconst C (x := nI 2) rfl dL_law_3068 ?_
    refine lq_iadd C dL_law_3069 ?_
    refine lq_cast (.int (nI 2)) (congrArg Value.int (by decide)) ?_
    refine lq_sld C 2 (by decide) (by decide) dL_law_3070 ?_
    refine lq_cast (.int v2) (congrArg Value.int e_v2) ?_
    refine lq_doM C (w256_matchesByScan l v f g v1 v2 hneg_v1) lM_367 rfl rfl ⟨by decide, by decide⟩ ⟨Nat.le_of_ble_eq_true rfl, Nat.le_of_ble_eq_true rfl⟩ rfl (Nat.le_of_ble_eq_true rfl) dL_law_3071 ?_
    refine lq_istore C (lv' := [(6, .int (nI 0)), (5, .int (nI 1)), (4, .int (nI 0)), (3, .ref out), (2, .ref (a 0)), (1, .ref x), (0, .ref b)]) (by decide) rfl dL_law_3074 ?_
    refine lq_aload_n C (i := 2) rfl 4 rfl dL_law_3076 ?_
    refine lq_doM C (w4_thrown l (upd v 99 (nI 1)) f g rfl) lM_192 rfl rfl ⟨by decide, by decide⟩ ⟨Nat.le_of_ble_eq_true rfl, Nat.le_of_ble_eq_true rfl⟩ rfl (Nat.le_of_ble_eq_true rfl) dL_law_3077 ?_
    refine lq_iload C 1 rfl dL_law_3080 ?_
    refine lq_icmp_eq C 3087 (by decide) dL_law_3082 (fun _ => ?_) (fun c_ => absurd (by decide) c_)
    refine lq_iload C 1 rfl dL_law_3087 ?_
    refine lq_if_ne C 3104 (by decide) dL_law_3089 (fun _ => ?_) (fun c_ => absurd c_ (by decide))
    refine lq_goto C 3491 (by decide) dL_law_3104 ?_
    exact lq_sub [2, 6] rfl (law_tail C (Nat.le_of_ble_eq_true rfl) (Nat.le_of_ble_eq_true rfl))
  · obtain ⟨v2, e_v2⟩ : ∃ z : Int32, xs 2 = z := ⟨_, rfl⟩
    obtain ⟨v3, e_v3⟩ : ∃ z : Int32, xs 3 = z := ⟨_, rfl⟩
    obtain ⟨v4, e_v4⟩ : ∃ z : Int32, xs 4 = z := ⟨_, rfl⟩
    obtain ⟨v5, e_v5⟩ : ∃ z : Int32, xs 5 = z := ⟨_, rfl⟩
    refine lq_aload_n C (i := 1) rfl 3 rfl dL_law_3039 ?_
    refine lq_aload_n C (i := 0) rfl 4 rfl dL_law_3040 ?_
    refine lq_iload C 0 rfl dL_law_3041 ?_
    refine lq_iconst C (x := nI 1) rfl dL_law_3043 ?_
    refine lq_iadd C dL_law_3044 ?_
    refine lq_cast (.int (nI 1)) (congrArg Value.int (by decide)) ?_
    refine lq_sld C 1 (by decide) (by decide) dL_law_3045 ?_
    refine lq_cast (.int (nI v1)) (congrArg Value.int e_v1) ?_
    refine lq_aload_n C (i := 0) rfl 4 rfl dL_law_3046 ?_
    refine lq_iload C 0 rfl dL_law_3047 ?_
    refine lq_iconst C (x := nI 2) rfl dL_law_3049 ?_
    refine lq_iadd C dL_law_3050 ?_
    refine lq_cast (.int (nI 2)) (congrArg Value.int (by decide)) ?_
    refine lq_sld C 2 (by decide) (by decide) dL_law_3051 ?_
    refine lq_cast (.int v2) (congrArg Value.int e_v2) ?_
    refine lq_aload_n C (i := 3) rfl 1 rfl dL_law_3052 ?_
    refine lq_callW C (z453_L_matchesByScan l hlt S dp x out q22 v1 v2 (by omega) Fr_360_x Fk_x Fm_x Fi_386_q22 Fk_q22 Fm_q22) lH_365 rfl rfl ⟨by decide, by decide⟩ ⟨Nat.le_of_ble_eq_true rfl, Nat.le_of_ble_eq_true rfl⟩ rfl (Nat.le_of_ble_eq_true rfl) dL_law_3053 (fun r_3053 u_3053 h_3053 => ?_)
    obtain ⟨hr_3053, hu_3053⟩ := h_3053
    have hw_3053 := hu_3053.symm
    subst hw_3053
    have hx_3053 := hr_3053.symm
    subst hx_3053
    refine lq_istore C (lv' := [(5, .int (nI 1)), (4, .int (nI 0)), (3, .ref out), (2, .ref (a 0)), (1, .ref x), (0, .ref b)]) (by decide) rfl dL_law_3056 ?_
    refine lq_aload_n C (i := 2) rfl 3 rfl dL_law_3058 ?_
    refine lq_aload_n C (i := 0) rfl 5 rfl dL_law_3059 ?_
    refine lq_iload C 1 rfl dL_law_3060 ?_
    refine lq_iconst C (x := nI 1) rfl dL_law_3062 ?_
    refine lq_iadd C dL_law_3063 ?_
    refine lq_cast (.int (nI 1)) (congrArg Value.int (by decide)) ?_
    refine lq_sld C 1 (by decide) (by decide) dL_law_3064 ?_
    refine lq_cast (.int (nI v1)) (congrArg Value.int e_v1) ?_
    refine lq_aload_n C (i := 0) rfl 5 rfl dL_law_3065 ?_
    refine lq_iload C 1 rfl dL_law_3066 ?_
    refine lq_iconst C (x := nI 2) rfl dL_law_3068 ?_
    refine lq_iadd C dL_law_3069 ?_
    refine lq_cast (.int (nI 2)) (congrArg Value.int (by decide)) ?_
    refine lq_sld C 2 (by decide) (by decide) dL_law_3070 ?_
    refine lq_cast (.int v2) (congrArg Value.int e_v2) ?_
    refine lq_doM C (w257_matchesByScan l v f g v1 v2 (by omega) Mf_29_0 Mf_29_1 Mf_29_2 Mf_29_3 Mf_29_4) lM_367 rfl rfl ⟨by decide, by decide⟩ ⟨Nat.le_of_ble_eq_true rfl, Nat.le_of_ble_eq_true rfl⟩ rfl (Nat.le_of_ble_eq_true rfl) dL_law_3071 ?_
    refine lq_istore C (lv' := [(6, .int (nI 0)), (5, .int (nI 1)), (4, .int (nI 0)), (3, .ref out), (2, .ref (a 0)), (1, .ref x), (0, .ref b)]) (by decide) rfl dL_law_3074 ?_
    refine lq_aload_n C (i := 2) rfl 4 rfl dL_law_3076 ?_
    refine lq_doM C (w4_thrown l (upd v 99 (nI 1)) f g rfl) lM_192 rfl rfl ⟨by decide, by decide⟩ ⟨Nat.le_of_ble_eq_true rfl, Nat.le_of_ble_eq_true rfl⟩ rfl (Nat.le_of_ble_eq_true rfl) dL_law_3077 ?_
    refine lq_iload C 1 rfl dL_law_3080 ?_
    refine lq_icmp_eq C 3087 (by decide) dL_law_3082 (fun _ => ?_) (fun c_ => absurd (by decide) c_)
    refine lq_iload C 1 rfl dL_law_3087 ?_
    refine lq_if_ne C 3104 (by decide) dL_law_3089 (fun _ => ?_) (fun c_ => absurd c_ (by decide))
    refine lq_goto C 3491 (by decide) dL_law_3104 ?_
    exact lq_sub [2, 6] rfl (law_tail C (Nat.le_of_ble_eq_true rfl) (Nat.le_of_ble_eq_true rfl))
set_option maxHeartbeats 8000000 in
set_option maxRecDepth 100000 in
theorem law_case53 (C : lC p l s m meth c b 6 xs D Y tp dp) {S : cS} {a : Nat → Nat} {v : Nat → Int32} {f : Nat → Nat → Int32} {g : Nat → Nat → Int64} {x out q1 q2 q3 q10 q11 q15 q19 q20 q21 q22 q23 q29 q30 q37 : Nat} (F : cFr S dp x out q1 q2 q3 q10 q11 q15 q19 q20 q21 q22 q23 q29 q30 q37) (M : mFr v f g) : lG p l e s m below meth c b D Y 174 409927 3107 [(4, .int (nI 0)), (3, .ref out), (2, .ref (a 0)), (1, .ref x), (0, .ref b)] [] S a v f g := by
  have hlt := C.2.2.2.2.2.2.2.2.2.2.1
  obtain ⟨FeI_q30_0, FeI_q30_1, Fi_195_q23, Fi_289_q11, Fi_289_q15, Fi_289_q2, Fi_33_q37, Fi_361_x, Fi_366_x, Fi_368_x, Fi_369_x, Fi_36_q37, Fi_370_x, Fi_37_q37, Fi_384_q19, Fi_384_q22, Fi_386_q19, Fi_386_q21, Fi_386_q22, Fk_out, Fk_q1, Fk_q10, Fk_q11, Fk_q15, Fk_q19, Fk_q2, Fk_q20, Fk_q21, Fk_q22, Fk_q23, Fk_q29, Fk_q3, Fk_q30, Fk_q37, Fk_x, Fm_out, Fm_q1, Fm_q10, Fm_q11, Fm_q15, Fm_q19, Fm_q2, Fm_q20, Fm_q21, Fm_q22, Fm_q23, Fm_q29, Fm_q3, Fm_q30, Fm_q37, Fm_x, Fn_out, Fn_q3, Fn_q30, Fr_224_q29, Fr_288_q2, Fr_321_q20, Fr_352_x, Fr_353_x, Fr_354_x, Fr_355_x, Fr_356_x, Fr_358_x, Fr_359_x, Fr_360_x, Fr_362_x, Fr_364_x, Fr_365_x, Fr_385_q19, Fr_385_q22, Fr_3_q10, Fr_4_q10, Fr_96_q1⟩ := F
  obtain ⟨Mall_21, Mall_22, Mf_29_0, Mf_29_1, Mf_29_2, Mf_29_3, Mf_29_4, Mf_49_0, Mf_49_1, Mf_8_0, Mf_8_1, Mg_7_0, Mg_7_1, Mg_7_10, Mg_7_11, Mg_7_12, Mg_7_13, Mg_7_14, Mg_7_15, Mg_7_16, Mg_7_17, Mg_7_18, Mg_7_19, Mg_7_2, Mg_7_20, Mg_7_21, Mg_7_22, Mg_7_23, Mg_7_24, Mg_7_25, Mg_7_26, Mg_7_27, Mg_7_28, Mg_7_29, Mg_7_3, Mg_7_30, Mg_7_31, Mg_7_32, Mg_7_33, Mg_7_34, Mg_7_35, Mg_7_36, Mg_7_37, Mg_7_38, Mg_7_39, Mg_7_4, Mg_7_5, Mg_7_6, Mg_7_7, Mg_7_8, Mg_7_9, Mv_13, Mv_14, Mv_2, Mv_20, Mv_29, Mv_34, Mv_35, Mv_40, Mv_48, Mv_49, Mv_72, Mv_88, Mv_89, Mv_90, Mv_96, Mv_97, Mv_98⟩ := M
  rcases c_sgn (xs 1) with hneg_v1 | ⟨v1, hr_v1, e_v1⟩
  · obtain ⟨v1, e_v1⟩ : ∃ z : Int32, xs 1 = z := ⟨_, rfl⟩
    rw [e_v1] at hneg_v1
    rcases c_sgn (xs 3) with hneg_v3 | ⟨v3, hr_v3, e_v3⟩
    · obtain ⟨v3, e_v3⟩ : ∃ z : Int32, xs 3 = z := ⟨_, rfl⟩
      rw [e_v3] at hneg_v3
      obtain ⟨v2, e_v2⟩ : ∃ z : Int32, xs 2 = z := ⟨_, rfl⟩
      obtain ⟨v4, e_v4⟩ : ∃ z : Int32, xs 4 = z := ⟨_, rfl⟩
      obtain ⟨v5, e_v5⟩ : ∃ z : Int32, xs 5 = z := ⟨_, rfl⟩
      refine lq_aload_n C (i := 1) rfl 3 rfl dL_law_3107 ?_
      refine lq_aload_n C (i := 0) rfl 4 rfl dL_law_3108 ?_
      refine lq_iload C 0 rfl dL_law_3109 ?_
      refine lq_iconst C (x := nI 1) rfl dL_law_3111 ?_
      refine lq_iadd C dL_law_3112 ?_
      refine lq_cast (.int (nI 1)) (congrArg Value.int (by decide)) ?_
      refine lq_sld C 1 (by decide) (by decide) dL_law_3113 ?_
      refine lq_cast (.int v1) (congrArg Value.int e_v1) ?_
      refine lq_aload_n C (i := 0) rfl 4 rfl dL_law_3114 ?_
      refine lq_iload C 0 rfl dL_law_3115 ?_
      refine lq_iconst C (x := nI 2) rfl dL_law_3117 ?_
      refine lq_iadd C dL_law_3118 ?_
      refine lq_cast (.int (nI 2)) (congrArg Value.int (by decide)) ?_
      refine lq_sld C 2 (by decide) (by decide) dL_law_3119 ?_
      refine lq_cast (.int v2) (congrArg Value.int e_v2) ?_
      refine lq_aload_n C (i := 0) rfl 4 rfl dL_law_3120 ?_
      refine lq_iload C 0 rfl dL_law_3121 ?_
      refine lq_iconst C (x := nI 3) rfl dL_law_3123 ?_
      refine lq_iadd C dL_law_3124 ?_
      refine lq_cast (.int (nI 3)) (congrArg Value.int (by decide)) ?_
      refine lq_sld C 3 (by decide) (by decide) dL_law_3125 ?_
      refine lq_cast (.int v3) (congrArg Value.int e_v3) ?_
      refine lq_aload_n C (i := 3) rfl 1 rfl dL_law_3126 ?_
      refine lq_callW C (z459_L_facet l hlt S dp x out q22 v1 v2 v3 hneg_v1 hneg_v3 Fr_360_x Fk_x Fm_x Fi_386_q22 Fk_q22 Fm_q22) lH_368 rfl rfl ⟨by decide, by decide⟩ ⟨Nat.le_of_ble_eq_true rfl, Nat.le_of_ble_eq_true rfl⟩ rfl (Nat.le_of_ble_eq_true rfl) dL_law_3127 (fun r_3127 u_3127 h_3127 => ?_)
      obtain ⟨hr_3127, hu_3127⟩ := h_3127
      have hw_3127 := hu_3127.symm
      subst hw_3127
      have hx_3127 := hr_3127.symm
      subst hx_3127
      refine lq_istore C (lv' := [(5, .int (nI 1)), (4, .int (nI 0)), (3, .ref out), (2, .ref (a 0)), (1, .ref x), (0, .ref b)]) (by decide) rfl dL_law_3130 ?_
      refine lq_aload_n C (i := 2) rfl 3 rfl dL_law_3132 ?_
      refine lq_aload_n C (i := 0) rfl 5 rfl dL_law_3133 ?_
      refine lq_iload C 1 rfl dL_law_3134 ?_
      refine lq_iconst C (x := nI 1) rfl dL_law_3136 ?_
      refine lq_iadd C dL_law_3137 ?_
      refine lq_cast (.int (nI 1)) (congrArg Value.int (by decide)) ?_
      refine lq_sld C 1 (by decide) (by decide) dL_law_3138 ?_
      refine lq_cast (.int v1) (congrArg Value.int e_v1) ?_
      refine lq_aload_n C (i := 0) rfl 5 rfl dL_law_3139 ?_
      refine lq_iload C 1 rfl dL_law_3140 ?_
      refine lq_iconst C (x := nI 2) rfl dL_law_3142 ?_
      refine lq_iadd C dL_law_3143 ?_
      refine lq_cast (.int (nI 2)) (congrArg Value.int (by decide)) ?_
      refine lq_sld C 2 (by decide) (by decide) dL_law_3144 ?_
      refine lq_cast (.int v2) (congrArg Value.int e_v2) ?_
      refine lq_aload_n C (i := 0) rfl 5 rfl dL_law_3145 ?_
      refine lq_iload C 1 rfl dL_law_3146 ?_
      refine lq_iconst C (x := nI 3) rfl dL_law_3148 ?_
      refine lq_iadd C dL_law_3149 ?_
      refine lq_cast (.int (nI 3)) (congrArg Value.int (by decide)) ?_
      refine lq_sld C 3 (by decide) (by decide) dL_law_3150 ?_
      refine lq_cast (.int v3) (congrArg Value.int e_v3) ?_
      refine lq_doM C (w258_facet l v f g v1 v2 v3 hneg_v1 hneg_v3) lM_370 rfl rfl ⟨by decide, by decide⟩ ⟨Nat.le_of_ble_eq_true rfl, Nat.le_of_ble_eq_true rfl⟩ rfl (Nat.le_of_ble_eq_true rfl) dL_law_3151 ?_
      refine lq_istore C (lv' := [(6, .int (nI 0)), (5, .int (nI 1)), (4, .int (nI 0)), (3, .ref out), (2, .ref (a 0)), (1, .ref x), (0, .ref b)]) (by decide) rfl dL_law_3154 ?_
      refine lq_aload_n C (i := 2) rfl 4 rfl dL_law_3156 ?_
      refine lq_doM C (w4_thrown l (upd v 99 (nI 1)) f g rfl) lM_192 rfl rfl ⟨by decide, by decide⟩ ⟨Nat.le_of_ble_eq_true rfl, Nat.le_of_ble_eq_true rfl⟩ rfl (Nat.le_of_ble_eq_true rfl) dL_law_3157 ?_
      refine lq_iload C 1 rfl dL_law_3160 ?_
      refine lq_icmp_eq C 3167 (by decide) dL_law_3162 (fun _ => ?_) (fun c_ => absurd (by decide) c_)
      refine lq_iload C 1 rfl dL_law_3167 ?_
      refine lq_if_ne C 3184 (by decide) dL_law_3169 (fun _ => ?_) (fun c_ => absurd c_ (by decide))
      refine lq_goto C 3491 (by decide) dL_law_3184 ?_
      exact lq_sub [2, 6] rfl (law_tail C (Nat.le_of_ble_eq_true rfl) (Nat.le_of_ble_eq_true rfl))
    · rcases Nat.lt_or_ge v3 10 with hlt_v3 | hlt_v3
      · obtain ⟨v2, e_v2⟩ : ∃ z : Int32, xs 2 = z := ⟨_, rfl⟩
        obtain ⟨v4, e_v4⟩ : ∃ z : Int32, xs 4 = z := ⟨_, rfl⟩
        obtain ⟨v5, e_v5⟩ : ∃ z : Int32, xs 5 = z := ⟨_, rfl⟩
        refine lq_aload_n C (i := 1) rfl 3 rfl dL_law_3107 ?_
        refine lq_aload_n C (i := 0) rfl 4 rfl dL_law_3108 ?_
        refine lq_iload C 0 rfl dL_law_3109 ?_
        refine lq_iconst C (x := nI 1) rfl dL_law_3111 ?_
        refine lq_iadd C dL_law_3112 ?_
        refine lq_cast (.int (nI 1)) (congrArg Value.int (by decide)) ?_
        refine lq_sld C 1 (by decide) (by decide) dL_law_3113 ?_
        refine lq_cast (.int v1) (congrArg Value.int e_v1) ?_
        refine lq_aload_n C (i := 0) rfl 4 rfl dL_law_3114 ?_
        refine lq_iload C 0 rfl dL_law_3115 ?_
        refine lq_iconst C (x := nI 2) rfl dL_law_3117 ?_
        refine lq_iadd C dL_law_3118 ?_
        refine lq_cast (.int (nI 2)) (congrArg Value.int (by decide)) ?_
        refine lq_sld C 2 (by decide) (by decide) dL_law_3119 ?_
        refine lq_cast (.int v2) (congrArg Value.int e_v2) ?_
        refine lq_aload_n C (i := 0) rfl 4 rfl dL_law_3120 ?_
        refine lq_iload C 0 rfl dL_law_3121 ?_
        refine lq_iconst C (x := nI 3) rfl dL_law_3123 ?_
        refine lq_iadd C dL_law_3124 ?_
        refine lq_cast (.int (nI 3)) (congrArg Value.int (by decide)) ?_
        refine lq_sld C 3 (by decide) (by decide) dL_law_3125 ?_
        refine lq_cast (.int (nI v3)) (congrArg Value.int e_v3) ?_
        refine lq_aload_n C (i := 3) rfl 1 rfl dL_law_3126 ?_
        refine lq_callW C (z463_L_facet l hlt S dp x out q22 v3 v1 v2 hneg_v1 (by omega) Fr_360_x Fk_x Fm_x Fi_386_q22 Fk_q22 Fm_q22) lH_368 rfl rfl ⟨by decide, by decide⟩ ⟨Nat.le_of_ble_eq_true rfl, Nat.le_of_ble_eq_true rfl⟩ rfl (Nat.le_of_ble_eq_true rfl) dL_law_3127 (fun r_3127 u_3127 h_3127 => ?_)
        obtain ⟨hr_3127, hu_3127⟩ := h_3127
        have hw_3127 := hu_3127.symm
        subst hw_3127
        have hx_3127 := hr_3127.symm
        subst hx_3127
        refine lq_istore C (lv' := [(5, .int (nI 1)), (4, .int (nI 0)), (3, .ref out), (2, .ref (a 0)), (1, .ref x), (0, .ref b)]) (by decide) rfl dL_law_3130 ?_
        refine lq_aload_n C (i := 2) rfl 3 rfl dL_law_3132 ?_
        refine lq_aload_n C (i := 0) rfl 5 rfl dL_law_3133 ?_
        refine lq_iload C 1 rfl dL_law_3134 ?_
        refine lq_iconst C (x := nI 1) rfl dL_law_3136 ?_
        refine lq_iadd C dL_law_3137 ?_
        refine lq_cast (.int (nI 1)) (congrArg Value.int (by decide)) ?_
        refine lq_sld C 1 (by decide) (by decide) dL_law_3138 ?_
        refine lq_cast (.int v1) (congrArg Value.int e_v1) ?_
        refine lq_aload_n C (i := 0) rfl 5 rfl dL_law_3139 ?_
        refine lq_iload C 1 rfl dL_law_3140 ?_
        refine lq_iconst C (x := nI 2) rfl dL_law_3142 ?_
        refine lq_iadd C dL_law_3143 ?_
        refine lq_cast (.int (nI 2)) (congrArg Value.int (by decide)) ?_
        refine lq_sld C 2 (by decide) (by decide) dL_law_3144 ?_
        refine lq_cast (.int v2) (congrArg Value.int e_v2) ?_
        refine lq_aload_n C (i := 0) rfl 5 rfl dL_law_3145 ?_
        refine lq_iload C 1 rfl dL_law_3146 ?_
        refine lq_iconst C (x := nI 3) rfl dL_law_3148 ?_
        refine lq_iadd C dL_law_3149 ?_
        refine lq_cast (.int (nI 3)) (congrArg Value.int (by decide)) ?_
        refine lq_sld C 3 (by decide) (by decide) dL_law_3150 ?_
        refine lq_cast (.int (nI v3)) (congrArg Value.int e_v3) ?_
        refine lq_doM C (w259_facet l v f g v3 v1 v2 hneg_v1 (by omega)) lM_370 rfl rfl ⟨by decide, by decide⟩ ⟨Nat.le_of_ble_eq_true rfl, Nat.le_of_ble_eq_true rfl⟩ rfl (Nat.le_of_ble_eq_true rfl) dL_law_3151 ?_
        refine lq_istore C (lv' := [(6, .int (nI 0)), (5, .int (nI 1)), (4, .int (nI 0)), (3, .ref out), (2, .ref (a 0)), (1, .ref x), (0, .ref b)]) (by decide) rfl dL_law_3154 ?_
        refine lq_aload_n C (i := 2) rfl 4 rfl dL_law_3156 ?_
        refine lq_doM C (w4_thrown l (upd v 99 (nI 1)) f g rfl) lM_192 rfl rfl ⟨by decide, by decide⟩ ⟨Nat.le_of_ble_eq_true rfl, Nat.le_of_ble_eq_true rfl⟩ rfl (Nat.le_of_ble_eq_true rfl) dL_law_3157 ?_
        refine lq_iload C 1 rfl dL_law_3160 ?_
        refine lq_icmp_eq C 3167 (by decide) dL_law_3162 (fun _ => ?_) (fun c_ => absurd (by decide) c_)
        refine lq_iload C 1 rfl dL_law_3167 ?_
        refine lq_if_ne C 3184 (by decide) dL_law_3169 (fun _ => ?_) (fun c_ => absurd c_ (by decide))
        refine lq_goto C 3491 (by decide) dL_law_3184 ?_
        exact lq_sub [2, 6] rfl (law_tail C (Nat.le_of_ble_eq_true rfl) (Nat.le_of_ble_eq_true rfl))
      · obtain ⟨v2, e_v2⟩ : ∃ z : Int32, xs 2 = z := ⟨_, rfl⟩
        obtain ⟨v4, e_v4⟩ : ∃ z : Int32, xs 4 = z := ⟨_, rfl⟩
        obtain ⟨v5, e_v5⟩ : ∃ z : Int32, xs 5 = z := ⟨_, rfl⟩
        refine lq_aload_n C (i := 1) rfl 3 rfl dL_law_3107 ?_
        refine lq_aload_n C (i := 0) rfl 4 rfl dL_law_3108 ?_
        refine lq_iload C 0 rfl dL_law_3109 ?_
        refine lq_iconst C (x := nI 1) rfl dL_law_3111 ?_
        refine lq_iadd C dL_law_3112 ?_
        refine lq_cast (.int (nI 1)) (congrArg Value.int (by decide)) ?_
        refine lq_sld C 1 (by decide) (by decide) dL_law_3113 ?_
        refine lq_cast (.int v1) (congrArg Value.int e_v1) ?_
        refine lq_aload_n C (i := 0) rfl 4 rfl dL_law_3114 ?_
        refine lq_iload C 0 rfl dL_law_3115 ?_
        refine lq_iconst C (x := nI 2) rfl dL_law_3117 ?_
        refine lq_iadd C dL_law_3118 ?_
        refine lq_cast (.int (nI 2)) (congrArg Value.int (by decide)) ?_
        refine lq_sld C 2 (by decide) (by decide) dL_law_3119 ?_
        refine lq_cast (.int v2) (congrArg Value.int e_v2) ?_
        refine lq_aload_n C (i := 0) rfl 4 rfl dL_law_3120 ?_
        refine lq_iload C 0 rfl dL_law_3121 ?_
        refine lq_iconst C (x := nI 3) rfl dL_law_3123 ?_
        refine lq_iadd C dL_law_3124 ?_
        refine lq_cast (.int (nI 3)) (congrArg Value.int (by decide)) ?_
        refine lq_sld C 3 (by decide) (by decide) dL_law_3125 ?_
        refine lq_cast (.int (nI v3)) (congrArg Value.int e_v3) ?_
        refine lq_aload_n C (i := 3) rfl 1 rfl dL_law_3126 ?_
        refine lq_callW C (z465_L_facet l hlt S dp x out q22 v3 v1 v2 hneg_v1 (by omega) (by omega) Fr_360_x Fk_x Fm_x Fi_386_q22 Fk_q22 Fm_q22) lH_368 rfl rfl ⟨by decide, by decide⟩ ⟨Nat.le_of_ble_eq_true rfl, Nat.le_of_ble_eq_true rfl⟩ rfl (Nat.le_of_ble_eq_true rfl) dL_law_3127 (fun r_3127 u_3127 h_3127 => ?_)
        obtain ⟨hr_3127, hu_3127⟩ := h_3127
        have hw_3127 := hu_3127.symm
        subst hw_3127
        have hx_3127 := hr_3127.symm
        subst hx_3127
        refine lq_istore C (lv' := [(5, .int (nI 1)), (4, .int (nI 0)), (3, .ref out), (2, .ref (a 0)), (1, .ref x), (0, .ref b)]) (by decide) rfl dL_law_3130 ?_
        refine lq_aload_n C (i := 2) rfl 3 rfl dL_law_3132 ?_
        refine lq_aload_n C (i := 0) rfl 5 rfl dL_law_3133 ?_
        refine lq_iload C 1 rfl dL_law_3134 ?_
        refine lq_iconst C (x := nI 1) rfl dL_law_3136 ?_
        refine lq_iadd C dL_law_3137 ?_
        refine lq_cast (.int (nI 1)) (congrArg Value.int (by decide)) ?_
        refine lq_sld C 1 (by decide) (by decide) dL_law_3138 ?_
        refine lq_cast (.int v1) (congrArg Value.int e_v1) ?_
        refine lq_aload_n C (i := 0) rfl 5 rfl dL_law_3139 ?_
        refine lq_iload C 1 rfl dL_law_3140 ?_
        refine lq_iconst C (x := nI 2) rfl dL_law_3142 ?_
        refine lq_iadd C dL_law_3143 ?_
        refine lq_cast (.int (nI 2)) (congrArg Value.int (by decide)) ?_
        refine lq_sld C 2 (by decide) (by decide) dL_law_3144 ?_
        refine lq_cast (.int v2) (congrArg Value.int e_v2) ?_
        refine lq_aload_n C (i := 0) rfl 5 rfl dL_law_3145 ?_
        refine lq_iload C 1 rfl dL_law_3146 ?_
        refine lq_iconst C (x := nI 3) rfl dL_law_3148 ?_
        refine lq_iadd C dL_law_3149 ?_
        refine lq_cast (.int (nI 3)) (congrArg Value.int (by decide)) ?_
        refine lq_sld C 3 (by decide) (by decide) dL_law_3150 ?_
        refine lq_cast (.int (nI v3)) (congrArg Value.int e_v3) ?_
        refine lq_doM C (w260_facet l v f g v3 v1 v2 hneg_v1 (by omega) (by omega)) lM_370 rfl rfl ⟨by decide, by decide⟩ ⟨Nat.le_of_ble_eq_true rfl, Nat.le_of_ble_eq_true rfl⟩ rfl (Nat.le_of_ble_eq_true rfl) dL_law_3151 ?_
        refine lq_istore C (lv' := [(6, .int (nI 0)), (5, .int (nI 1)), (4, .int (nI 0)), (3, .ref out), (2, .ref (a 0)), (1, .ref x), (0, .ref b)]) (by decide) rfl dL_law_3154 ?_
        refine lq_aload_n C (i := 2) rfl 4 rfl dL_law_3156 ?_
        refine lq_doM C (w4_thrown l (upd v 99 (nI 1)) f g rfl) lM_192 rfl rfl ⟨by decide, by decide⟩ ⟨Nat.le_of_ble_eq_true rfl, Nat.le_of_ble_eq_true rfl⟩ rfl (Nat.le_of_ble_eq_true rfl) dL_law_3157 ?_
        refine lq_iload C 1 rfl dL_law_3160 ?_
        refine lq_icmp_eq C 3167 (by decide) dL_law_3162 (fun _ => ?_) (fun c_ => absurd (by decide) c_)
        refine lq_iload C 1 rfl dL_law_3167 ?_
        refine lq_if_ne C 3184 (by decide) dL_law_3169 (fun _ => ?_) (fun c_ => absurd c_ (by decide))
        refine lq_goto C 3491 (by decide) dL_law_3184 ?_
        exact lq_sub [2, 6] rfl (law_tail C (Nat.le_of_ble_eq_true rfl) (Nat.le_of_ble_eq_true rfl))
  · rcases c_sgn (xs 3) with hneg_v3 | ⟨v3, hr_v3, e_v3⟩
    · obtain ⟨v3, e_v3⟩ : ∃ z : Int32, xs 3 = z := ⟨_, rfl⟩
      rw [e_v3] at hneg_v3
      obtain ⟨v2, e_v2⟩ : ∃ z : Int32, xs 2 = z := ⟨_, rfl⟩
      obtain ⟨v4, e_v4⟩ : ∃ z : Int32, xs 4 = z := ⟨_, rfl⟩
      obtain ⟨v5, e_v5⟩ : ∃ z : Int32, xs 5 = z := ⟨_, rfl⟩
      refine lq_aload_n C (i := 1) rfl 3 rfl dL_law_3107 ?_
      refine lq_aload_n C (i := 0) rfl 4 rfl dL_law_3108 ?_
      refine lq_iload C 0 rfl dL_law_3109 ?_
      refine lq_iconst C (x := nI 1) rfl dL_law_3111 ?_
      refine lq_iadd C dL_law_3112 ?_
      refine lq_cast (.int (nI 1)) (congrArg Value.int (by decide)) ?_
      refine lq_sld C 1 (by decide) (by decide) dL_law_3113 ?_
      refine lq_cast (.int (nI v1)) (congrArg Value.int e_v1) ?_
      refine lq_aload_n C (i := 0) rfl 4 rfl dL_law_3114 ?_
      refine lq_iload C 0 rfl dL_law_3115 ?_
      refine lq_iconst C (x := nI 2) rfl dL_law_3117 ?_
      refine lq_iadd C dL_law_3118 ?_
      refine lq_cast (.int (nI 2)) (congrArg Value.int (by decide)) ?_
      refine lq_sld C 2 (by decide) (by decide) dL_law_3119 ?_
      refine lq_cast (.int v2) (congrArg Value.int e_v2) ?_
      refine lq_aload_n C (i := 0) rfl 4 rfl dL_law_3120 ?_
      refine lq_iload C 0 rfl dL_law_3121 ?_
      refine lq_iconst C (x := nI 3) rfl dL_law_3123 ?_
      refine lq_iadd C dL_law_3124 ?_
      refine lq_cast (.int (nI 3)) (congrArg Value.int (by decide)) ?_
      refine lq_sld C 3 (by decide) (by decide) dL_law_3125 ?_
      refine lq_cast (.int v3) (congrArg Value.int e_v3) ?_
      refine lq_aload_n C (i := 3) rfl 1 rfl dL_law_3126 ?_
      refine lq_callW C (z469_L_facet l hlt S dp x out q22 v1 v2 v3 (by omega) hneg_v3 Fr_360_x Fk_x Fm_x Fi_386_q22 Fk_q22 Fm_q22) lH_368 rfl rfl ⟨by decide, by decide⟩ ⟨Nat.le_of_ble_eq_true rfl, Nat.le_of_ble_eq_true rfl⟩ rfl (Nat.le_of_ble_eq_true rfl) dL_law_3127 (fun r_3127 u_3127 h_3127 => ?_)
      obtain ⟨hr_3127, hu_3127⟩ := h_3127
      have hw_3127 := hu_3127.symm
      subst hw_3127
      have hx_3127 := hr_3127.symm
      subst hx_3127
      refine lq_istore C (lv' := [(5, .int (nI 1)), (4, .int (nI 0)), (3, .ref out), (2, .ref (a 0)), (1, .ref x), (0, .ref b)]) (by decide) rfl dL_law_3130 ?_
      refine lq_aload_n C (i := 2) rfl 3 rfl dL_law_3132 ?_
      refine lq_aload_n C (i := 0) rfl 5 rfl dL_law_3133 ?_
      refine lq_iload C 1 rfl dL_law_3134 ?_
      refine lq_iconst C (x := nI 1) rfl dL_law_3136 ?_
      refine lq_iadd C dL_law_3137 ?_
      refine lq_cast (.int (nI 1)) (congrArg Value.int (by decide)) ?_
      refine lq_sld C 1 (by decide) (by decide) dL_law_3138 ?_
      refine lq_cast (.int (nI v1)) (congrArg Value.int e_v1) ?_
      refine lq_aload_n C (i := 0) rfl 5 rfl dL_law_3139 ?_
      refine lq_iload C 1 rfl dL_law_3140 ?_
      refine lq_iconst C (x := nI 2) rfl dL_law_3142 ?_
      refine lq_iadd C dL_law_3143 ?_
      refine lq_cast (.int (nI 2)) (congrArg Value.int (by decide)) ?_
      refine lq_sld C 2 (by decide) (by decide) dL_law_3144 ?_
      refine lq_cast (.int v2) (congrArg Value.int e_v2) ?_
      refine lq_aload_n C (i := 0) rfl 5 rfl dL_law_3145 ?_
      refine lq_iload C 1 rfl dL_law_3146 ?_
      refine lq_iconst C (x := nI 3) rfl dL_law_3148 ?_
      refine lq_iadd C dL_law_3149 ?_
      refine lq_cast (.int (nI 3)) (congrArg Value.int (by decide)) ?_
      refine lq_sld C 3 (by decide) (by decide) dL_law_3150 ?_
      refine lq_cast (.int v3) (congrArg Value.int e_v3) ?_
      refine lq_doM C (w261_facet l v f g v1 v2 v3 (by omega) hneg_v3 Mf_29_0 Mf_29_1 Mf_29_2 Mf_29_3 Mf_29_4) lM_370 rfl rfl ⟨by decide, by decide⟩ ⟨Nat.le_of_ble_eq_true rfl, Nat.le_of_ble_eq_true rfl⟩ rfl (Nat.le_of_ble_eq_true rfl) dL_law_3151 ?_
      refine lq_istore C (lv' := [(6, .int (nI 0)), (5, .int (nI 1)), (4, .int (nI 0)), (3, .ref out), (2, .ref (a 0)), (1, .ref x), (0, .ref b)]) (by decide) rfl dL_law_3154 ?_
      refine lq_aload_n C (i := 2) rfl 4 rfl dL_law_3156 ?_
      refine lq_doM C (w4_thrown l (upd v 99 (nI 1)) f g rfl) lM_192 rfl rfl ⟨by decide, by decide⟩ ⟨Nat.le_of_ble_eq_true rfl, Nat.le_of_ble_eq_true rfl⟩ rfl (Nat.le_of_ble_eq_true rfl) dL_law_3157 ?_
      refine lq_iload C 1 rfl dL_law_3160 ?_
      refine lq_icmp_eq C 3167 (by decide) dL_law_3162 (fun _ => ?_) (fun c_ => absurd (by decide) c_)
      refine lq_iload C 1 rfl dL_law_3167 ?_
      refine lq_if_ne C 3184 (by decide) dL_law_3169 (fun _ => ?_) (fun c_ => absurd c_ (by decide))
      refine lq_goto C 3491 (by decide) dL_law_3184 ?_
      exact lq_sub [2, 6] rfl (law_tail C (Nat.le_of_ble_eq_true rfl) (Nat.le_of_ble_eq_true rfl))
    · rcases Nat.lt_or_ge v3 10 with hlt_v3 | hlt_v3
      · obtain ⟨v2, e_v2⟩ : ∃ z : Int32, xs 2 = z := ⟨_, rfl⟩
        obtain ⟨v4, e_v4⟩ : ∃ z : Int32, xs 4 = z := ⟨_, rfl⟩
        obtain ⟨v5, e_v5⟩ : ∃ z : Int32, xs 5 = z := ⟨_, rfl⟩
        refine lq_aload_n C (i := 1) rfl 3 rfl dL_law_3107 ?_
        refine lq_aload_n C (i := 0) rfl 4 rfl dL_law_3108 ?_
        refine lq_iload C 0 rfl dL_law_3109 ?_
        refine lq_iconst C (x := nI 1) rfl dL_law_3111 ?_
        refine lq_iadd C dL_law_3112 ?_
        refine lq_cast (.int (nI 1)) (congrArg Value.int (by decide)) ?_
        refine lq_sld C 1 (by decide) (by decide) dL_law_3113 ?_
        refine lq_cast (.int (nI v1)) (congrArg Value.int e_v1) ?_
        refine lq_aload_n C (i := 0) rfl 4 rfl dL_law_3114 ?_
        refine lq_iload C 0 rfl dL_law_3115 ?_
        refine lq_iconst C (x := nI 2) rfl dL_law_3117 ?_
        refine lq_iadd C dL_law_3118 ?_
        refine lq_cast (.int (nI 2)) (congrArg Value.int (by decide)) ?_
        refine lq_sld C 2 (by decide) (by decide) dL_law_3119 ?_
        refine lq_cast (.int v2) (congrArg Value.int e_v2) ?_
        refine lq_aload_n C (i := 0) rfl 4 rfl dL_law_3120 ?_
        refine lq_iload C 0 rfl dL_law_3121 ?_
        refine lq_iconst C (x := nI 3) rfl dL_law_3123 ?_
        refine lq_iadd C dL_law_3124 ?_
        refine lq_cast (.int (nI 3)) (congrArg Value.int (by decide)) ?_
        refine lq_sld C 3 (by decide) (by decide) dL_law_3125 ?_
        refine lq_cast (.int (nI v3)) (congrArg Value.int e_v3) ?_
        refine lq_aload_n C (i := 3) rfl 1 rfl dL_law_3126 ?_
        refine lq_callW C (z473_L_facet l hlt S dp x out q22 v1 v3 v2 (by omega) (by omega) Fr_360_x Fk_x Fm_x Fi_386_q22 Fk_q22 Fm_q22) lH_368 rfl rfl ⟨by decide, by decide⟩ ⟨Nat.le_of_ble_eq_true rfl, Nat.le_of_ble_eq_true rfl⟩ rfl (Nat.le_of_ble_eq_true rfl) dL_law_3127 (fun r_3127 u_3127 h_3127 => ?_)
        obtain ⟨hr_3127, hu_3127⟩ := h_3127
        have hw_3127 := hu_3127.symm
        subst hw_3127
        have hx_3127 := hr_3127.symm
        subst hx_3127
        refine lq_istore C (lv' := [(5, .int (nI 1)), (4, .int (nI 0)), (3, .ref out), (2, .ref (a 0)), (1, .ref x), (0, .ref b)]) (by decide) rfl dL_law_3130 ?_
        refine lq_aload_n C (i := 2) rfl 3 rfl dL_law_3132 ?_
        refine lq_aload_n C (i := 0) rfl 5 rfl dL_law_3133 ?_
        refine lq_iload C 1 rfl dL_law_3134 ?_
        refine lq_iconst C (x := nI 1) rfl dL_law_3136 ?_
        refine lq_iadd C dL_law_3137 ?_
        refine lq_cast (.int (nI 1)) (congrArg Value.int (by decide)) ?_
        refine lq_sld C 1 (by decide) (by decide) dL_law_3138 ?_
        refine lq_cast (.int (nI v1)) (congrArg Value.int e_v1) ?_
        refine lq_aload_n C (i := 0) rfl 5 rfl dL_law_3139 ?_
        refine lq_iload C 1 rfl dL_law_3140 ?_
        refine lq_iconst C (x := nI 2) rfl dL_law_3142 ?_
        refine lq_iadd C dL_law_3143 ?_
        refine lq_cast (.int (nI 2)) (congrArg Value.int (by decide)) ?_
        refine lq_sld C 2 (by decide) (by decide) dL_law_3144 ?_
        refine lq_cast (.int v2) (congrArg Value.int e_v2) ?_
        refine lq_aload_n C (i := 0) rfl 5 rfl dL_law_3145 ?_
        refine lq_iload C 1 rfl dL_law_3146 ?_
        refine lq_iconst C (x := nI 3) rfl dL_law_3148 ?_
        refine lq_iadd C dL_law_3149 ?_
        refine lq_cast (.int (nI 3)) (congrArg Value.int (by decide)) ?_
        refine lq_sld C 3 (by decide) (by decide) dL_law_3150 ?_
        refine lq_cast (.int (nI v3)) (congrArg Value.int e_v3) ?_
        refine lq_doM C (w262_facet l v f g v1 v3 v2 (by omega) (by omega) Mf_29_0 Mf_29_1 Mf_29_2 Mf_29_3 Mf_29_4) lM_370 rfl rfl ⟨by decide, by decide⟩ ⟨Nat.le_of_ble_eq_true rfl, Nat.le_of_ble_eq_true rfl⟩ rfl (Nat.le_of_ble_eq_true rfl) dL_law_3151 ?_
        refine lq_istore C (lv' := [(6, .int (nI 0)), (5, .int (nI 1)), (4, .int (nI 0)), (3, .ref out), (2, .ref (a 0)), (1, .ref x), (0, .ref b)]) (by decide) rfl dL_law_3154 ?_
        refine lq_aload_n C (i := 2) rfl 4 rfl dL_law_3156 ?_
        refine lq_doM C (w4_thrown l (upd v 99 (nI 1)) f g rfl) lM_192 rfl rfl ⟨by decide, by decide⟩ ⟨Nat.le_of_ble_eq_true rfl, Nat.le_of_ble_eq_true rfl⟩ rfl (Nat.le_of_ble_eq_true rfl) dL_law_3157 ?_
        refine lq_iload C 1 rfl dL_law_3160 ?_
        refine lq_icmp_eq C 3167 (by decide) dL_law_3162 (fun _ => ?_) (fun c_ => absurd (by decide) c_)
        refine lq_iload C 1 rfl dL_law_3167 ?_
        refine lq_if_ne C 3184 (by decide) dL_law_3169 (fun _ => ?_) (fun c_ => absurd c_ (by decide))
        refine lq_goto C 3491 (by decide) dL_law_3184 ?_
        exact lq_sub [2, 6] rfl (law_tail C (Nat.le_of_ble_eq_true rfl) (Nat.le_of_ble_eq_true rfl))
      · obtain ⟨v2, e_v2⟩ : ∃ z : Int32, xs 2 = z := ⟨_, rfl⟩
        obtain ⟨v4, e_v4⟩ : ∃ z : Int32, xs 4 = z := ⟨_, rfl⟩
        obtain ⟨v5, e_v5⟩ : ∃ z : Int32, xs 5 = z := ⟨_, rfl⟩
        refine lq_aload_n C (i := 1) rfl 3 rfl dL_law_3107 ?_
        refine lq_aload_n C (i := 0) rfl 4 rfl dL_law_3108 ?_
        refine lq_iload C 0 rfl dL_law_3109 ?_
        refine lq_iconst C (x := nI 1) rfl dL_law_3111 ?_
        refine lq_iadd C dL_law_3112 ?_
        refine lq_cast (.int (nI 1)) (congrArg Value.int (by decide)) ?_
        refine lq_sld C 1 (by decide) (by decide) dL_law_3113 ?_
        refine lq_cast (.int (nI v1)) (congrArg Value.int e_v1) ?_
        refine lq_aload_n C (i := 0) rfl 4 rfl dL_law_3114 ?_
        refine lq_iload C 0 rfl dL_law_3115 ?_
        refine lq_iconst C (x := nI 2) rfl dL_law_3117 ?_
        refine lq_iadd C dL_law_3118 ?_
        refine lq_cast (.int (nI 2)) (congrArg Value.int (by decide)) ?_
        refine lq_sld C 2 (by decide) (by decide) dL_law_3119 ?_
        refine lq_cast (.int v2) (congrArg Value.int e_v2) ?_
        refine lq_aload_n C (i := 0) rfl 4 rfl dL_law_3120 ?_
        refine lq_iload C 0 rfl dL_law_3121 ?_
        refine lq_iconst C (x := nI 3) rfl dL_law_3123 ?_
        refine lq_iadd C dL_law_3124 ?_
        refine lq_cast (.int (nI 3)) (congrArg Value.int (by decide)) ?_
        refine lq_sld C 3 (by decide) (by decide) dL_law_3125 ?_
        refine lq_cast (.int (nI v3)) (congrArg Value.int e_v3) ?_
        refine lq_aload_n C (i := 3) rfl 1 rfl dL_law_3126 ?_
        refine lq_callW C (z475_L_facet l hlt S dp x out q22 v1 v3 v2 (by omega) (by omega) (by omega) Fr_360_x Fk_x Fm_x Fi_386_q22 Fk_q22 Fm_q22) lH_368 rfl rfl ⟨by decide, by decide⟩ ⟨Nat.le_of_ble_eq_true rfl, Nat.le_of_ble_eq_true rfl⟩ rfl (Nat.le_of_ble_eq_true rfl) dL_law_3127 (fun r_3127 u_3127 h_3127 => ?_)
        obtain ⟨hr_3127, hu_3127⟩ := h_3127
        have hw_3127 := hu_3127.symm
        subst hw_3127
        have hx_3127 := hr_3127.symm
        subst hx_3127
        refine lq_istore C (lv' := [(5, .int (nI 1)), (4, .int (nI 0)), (3, .ref out), (2, .ref (a 0)), (1, .ref x), (0, .ref b)]) (by decide) rfl dL_law_3130 ?_
        refine lq_aload_n C (i := 2) rfl 3 rfl dL_law_3132 ?_
        refine lq_aload_n C (i := 0) rfl 5 rfl dL_law_3133 ?_
        refine lq_iload C 1 rfl dL_law_3134 ?_
        refine lq_iconst C (x := nI 1) rfl dL_law_3136 ?_
        refine lq_iadd C dL_law_3137 ?_
        refine lq_cast (.int (nI 1)) (congrArg Value.int (by decide)) ?_
        refine lq_sld C 1 (by decide) (by decide) dL_law_3138 ?_
        refine lq_cast (.int (nI v1)) (congrArg Value.int e_v1) ?_
        refine lq_aload_n C (i := 0) rfl 5 rfl dL_law_3139 ?_
        refine lq_iload C 1 rfl dL_law_3140 ?_
        refine lq_iconst C (x := nI 2) rfl dL_law_3142 ?_
        refine lq_iadd C dL_law_3143 ?_
        refine lq_cast (.int (nI 2)) (congrArg Value.int (by decide)) ?_
        refine lq_sld C 2 (by decide) (by decide) dL_law_3144 ?_
        refine lq_cast (.int v2) (congrArg Value.int e_v2) ?_
        refine lq_aload_n C (i := 0) rfl 5 rfl dL_law_3145 ?_
        refine lq_iload C 1 rfl dL_law_3146 ?_
        refine lq_iconst C (x := nI 3) rfl dL_law_3148 ?_
        refine lq_iadd C dL_law_3149 ?_
        refine lq_cast (.int (nI 3)) (congrArg Value.int (by decide)) ?_
        refine lq_sld C 3 (by decide) (by decide) dL_law_3150 ?_
        refine lq_cast (.int (nI v3)) (congrArg Value.int e_v3) ?_
        refine lq_doM C (w263_facet l v f g v1 v3 v2 (by omega) (by omega) (by omega) Mf_29_0 Mf_29_1 Mf_29_2 Mf_29_3 Mf_29_4) lM_370 rfl rfl ⟨by decide, by decide⟩ ⟨Nat.le_of_ble_eq_true rfl, Nat.le_of_ble_eq_true rfl⟩ rfl (Nat.le_of_ble_eq_true rfl) dL_law_3151 ?_
        refine lq_istore C (lv' := [(6, .int (nI 0)), (5, .int (nI 1)), (4, .int (nI 0)), (3, .ref out), (2, .ref (a 0)), (1, .ref x), (0, .ref b)]) (by decide) rfl dL_law_3154 ?_
        refine lq_aload_n C (i := 2) rfl 4 rfl dL_law_3156 ?_
        refine lq_doM C (w4_thrown l (upd v 99 (nI 1)) f g rfl) lM_192 rfl rfl ⟨by decide, by decide⟩ ⟨Nat.le_of_ble_eq_true rfl, Nat.le_of_ble_eq_true rfl⟩ rfl (Nat.le_of_ble_eq_true rfl) dL_law_3157 ?_
        refine lq_iload C 1 rfl dL_law_3160 ?_
        refine lq_icmp_eq C 3167 (by decide) dL_law_3162 (fun _ => ?_) (fun c_ => absurd (by decide) c_)
        refine lq_iload C 1 rfl dL_law_3167 ?_
        refine lq_if_ne C 3184 (by decide) dL_law_3169 (fun _ => ?_) (fun c_ => absurd c_ (by decide))
        refine lq_goto C 3491 (by decide) dL_law_3184 ?_
        exact lq_sub [2, 6] rfl (law_tail C (Nat.le_of_ble_eq_true rfl) (Nat.le_of_ble_eq_true rfl))
set_option maxHeartbeats 8000000 in
set_option maxRecDepth 100000 in
theorem law_case54 (C : lC p l s m meth c b 6 xs D Y tp dp) {S : cS} {a : Nat → Nat} {v : Nat → Int32} {f : Nat → Nat → Int32} {g : Nat → Nat → Int64} {x out q1 q2 q3 q10 q11 q15 q19 q20 q21 q22 q23 q29 q30 q37 : Nat} (F : cFr S dp x out q1 q2 q3 q10 q11 q15 q19 q20 q21 q22 q23 q29 q30 q37) (M : mFr v f g) : lG p l e s m below meth c b D Y 174 409927 3187 [(4, .int (nI 0)), (3, .ref out), (2, .ref (a 0)), (1, .ref x), (0, .ref b)] [] S a v f g := by
  have hlt := C.2.2.2.2.2.2.2.2.2.2.1
  obtain ⟨FeI_q30_0, FeI_q30_1, Fi_195_q23, Fi_289_q11, Fi_289_q15, Fi_289_q2, Fi_33_q37, Fi_361_x, Fi_366_x, Fi_368_x, Fi_369_x, Fi_36_q37, Fi_370_x, Fi_37_q37, Fi_384_q19, Fi_384_q22, Fi_386_q19, Fi_386_q21, Fi_386_q22, Fk_out, Fk_q1, Fk_q10, Fk_q11, Fk_q15, Fk_q19, Fk_q2, Fk_q20, Fk_q21, Fk_q22, Fk_q23, Fk_q29, Fk_q3, Fk_q30, Fk_q37, Fk_x, Fm_out, Fm_q1, Fm_q10, Fm_q11, Fm_q15, Fm_q19, Fm_q2, Fm_q20, Fm_q21, Fm_q22, Fm_q23, Fm_q29, Fm_q3, Fm_q30, Fm_q37, Fm_x, Fn_out, Fn_q3, Fn_q30, Fr_224_q29, Fr_288_q2, Fr_321_q20, Fr_352_x, Fr_353_x, Fr_354_x, Fr_355_x, Fr_356_x, Fr_358_x, Fr_359_x, Fr_360_x, Fr_362_x, Fr_364_x, Fr_365_x, Fr_385_q19, Fr_385_q22, Fr_3_q10, Fr_4_q10, Fr_96_q1⟩ := F
  obtain ⟨Mall_21, Mall_22, Mf_29_0, Mf_29_1, Mf_29_2, Mf_29_3, Mf_29_4, Mf_49_0, Mf_49_1, Mf_8_0, Mf_8_1, Mg_7_0, Mg_7_1, Mg_7_10, Mg_7_11, Mg_7_12, Mg_7_13, Mg_7_14, Mg_7_15, Mg_7_16, Mg_7_17, Mg_7_18, Mg_7_19, Mg_7_2, Mg_7_20, Mg_7_21, Mg_7_22, Mg_7_23, Mg_7_24, Mg_7_25, Mg_7_26, Mg_7_27, Mg_7_28, Mg_7_29, Mg_7_3, Mg_7_30, Mg_7_31, Mg_7_32, Mg_7_33, Mg_7_34, Mg_7_35, Mg_7_36, Mg_7_37, Mg_7_38, Mg_7_39, Mg_7_4, Mg_7_5, Mg_7_6, Mg_7_7, Mg_7_8, Mg_7_9, Mv_13, Mv_14, Mv_2, Mv_20, Mv_29, Mv_34, Mv_35, Mv_40, Mv_48, Mv_49, Mv_72, Mv_88, Mv_89, Mv_90, Mv_96, Mv_97, Mv_98⟩ := M
  rcases c_sgn (xs 3) with hneg_v3 | ⟨v3, hr_v3, e_v3⟩
  · obtain ⟨v3, e_v3⟩ : ∃ z : Int32, xs 3 = z := ⟨_, rfl⟩
    rw [e_v3] at hneg_v3
    rcases c_sgn (xs 1) with hneg_v1 | ⟨v1, hr_v1, e_v1⟩
    · obtain ⟨v1, e_v1⟩ : ∃ z : Int32, xs 1 = z := ⟨_, rfl⟩
      rw [e_v1] at hneg_v1
      rcases c_sgn (xs 4) with hneg_v4 | ⟨v4, hr_v4, e_v4⟩
      · obtain ⟨v4, e_v4⟩ : ∃ z : Int32, xs 4 = z := ⟨_, rfl⟩
        rw [e_v4] at hneg_v4
        obtain ⟨v2, e_v2⟩ : ∃ z : Int32, xs 2 = z := ⟨_, rfl⟩
        obtain ⟨v5, e_v5⟩ : ∃ z : Int32, xs 5 = z := ⟨_, rfl⟩
        refine lq_aload_n C (i := 1) rfl 3 rfl dL_law_3187 ?_
        refine lq_aload_n C (i := 0) rfl 4 rfl dL_law_3188 ?_
        refine lq_iload C 0 rfl dL_law_3189 ?_
        refine lq_iconst C (x := nI 1) rfl dL_law_3191 ?_
        refine lq_iadd C dL_law_3192 ?_
        refine lq_cast (.int (nI 1)) (congrArg Value.int (by decide)) ?_
        refine lq_sld C 1 (by decide) (by decide) dL_law_3193 ?_
        refine lq_cast (.int v1) (congrArg Value.int e_v1) ?_
        refine lq_aload_n C (i := 0) rfl 4 rfl dL_law_3194 ?_
        refine lq_iload C 0 rfl dL_law_3195 ?_
        refine lq_iconst C (x := nI 2) rfl dL_law_3197 ?_
        refine lq_iadd C dL_law_3198 ?_
        refine lq_cast (.int (nI 2)) (congrArg Value.int (by decide)) ?_
        refine lq_sld C 2 (by decide) (by decide) dL_law_3199 ?_
        refine lq_cast (.int v2) (congrArg Value.int e_v2) ?_
        refine lq_aload_n C (i := 0) rfl 4 rfl dL_law_3200 ?_
        refine lq_iload C 0 rfl dL_law_3201 ?_
        refine lq_iconst C (x := nI 3) rfl dL_law_3203 ?_
        refine lq_iadd C dL_law_3204 ?_
        refine lq_cast (.int (nI 3)) (congrArg Value.int (by decide)) ?_
        refine lq_sld C 3 (by decide) (by decide) dL_law_3205 ?_
        refine lq_cast (.int v3) (congrArg Value.int e_v3) ?_
        refine lq_if_eq C 3213 (by decide) dL_law_3206 (fun c_ => absurd c_ (cneg0_ne hneg_v3)) (fun _ => ?_)
        refine lq_iconst C (x := nI 1) rfl dL_law_3209 ?_
        refine lq_goto C 3214 (by decide) dL_law_3210 ?_
        refine lq_aload_n C (i := 0) rfl 4 rfl dL_law_3214 ?_
        refine lq_iload C 0 rfl dL_law_3215 ?_
        refine lq_iconst C (x := nI 4) rfl dL_law_3217 ?_
        refine lq_iadd C dL_law_3218 ?_
        refine lq_cast (.int (nI 4)) (congrArg Value.int (by decide)) ?_
        refine lq_sld C 4 (by decide) (by decide) dL_law_3219 ?_
        refine lq_cast (.int v4) (congrArg Value.int e_v4) ?_
        refine lq_aload_n C (i := 3) rfl 1 rfl dL_law_3220 ?_
        refine lq_callW C (z481_L_sortedAt l hlt S dp x out q22 v1 v2 v4 hneg_v1 hneg_v4 Fr_360_x Fk_x Fm_x Fi_386_q22 Fk_q22 Fm_q22) lH_371 rfl rfl ⟨by decide, by decide⟩ ⟨Nat.le_of_ble_eq_true rfl, Nat.le_of_ble_eq_true rfl⟩ rfl (Nat.le_of_ble_eq_true rfl) dL_law_3221 (fun r_3221 u_3221 h_3221 => ?_)
        obtain ⟨hr_3221, hu_3221⟩ := h_3221
        have hw_3221 := hu_3221.symm
        subst hw_3221
        have hx_3221 := hr_3221.symm
        subst hx_3221
        refine lq_istore C (lv' := [(5, .int (nI 1)), (4, .int (nI 0)), (3, .ref out), (2, .ref (a 0)), (1, .ref x), (0, .ref b)]) (by decide) rfl dL_law_3224 ?_
        refine lq_aload_n C (i := 2) rfl 3 rfl dL_law_3226 ?_
        refine lq_aload_n C (i := 0) rfl 5 rfl dL_law_3227 ?_
        refine lq_iload C 1 rfl dL_law_3228 ?_
        refine lq_iconst C (x := nI 1) rfl dL_law_3230 ?_
        refine lq_iadd C dL_law_3231 ?_
        refine lq_cast (.int (nI 1)) (congrArg Value.int (by decide)) ?_
        refine lq_sld C 1 (by decide) (by decide) dL_law_3232 ?_
        refine lq_cast (.int v1) (congrArg Value.int e_v1) ?_
        refine lq_aload_n C (i := 0) rfl 5 rfl dL_law_3233 ?_
        refine lq_iload C 1 rfl dL_law_3234 ?_
        refine lq_iconst C (x := nI 2) rfl dL_law_3236 ?_
        refine lq_iadd C dL_law_3237 ?_
        refine lq_cast (.int (nI 2)) (congrArg Value.int (by decide)) ?_
        refine lq_sld C 2 (by decide) (by decide) dL_law_3238 ?_
        refine lq_cast (.int v2) (congrArg Value.int e_v2) ?_
        refine lq_aload_n C (i := 0) rfl 5 rfl dL_law_3239 ?_
        refine lq_iload C 1 rfl dL_law_3240 ?_
        refine lq_iconst C (x := nI 3) rfl dL_law_3242 ?_
        refine lq_iadd C dL_law_3243 ?_
        refine lq_cast (.int (nI 3)) (congrArg Value.int (by decide)) ?_
        refine lq_sld C 3 (by decide) (by decide) dL_law_3244 ?_
        refine lq_cast (.int v3) (congrArg Value.int e_v3) ?_
        refine lq_if_eq C 3252 (by decide) dL_law_3245 (fun c_ => absurd c_ (cneg0_ne hneg_v3)) (fun _ => ?_)
        refine lq_iconst C (x := nI 1) rfl dL_law_3248 ?_
        refine lq_goto C 3253 (by decide) dL_law_3249 ?_
        refine lq_aload_n C (i := 0) rfl 5 rfl dL_law_3253 ?_
        refine lq_iload C 1 rfl dL_law_3254 ?_
        refine lq_iconst C (x := nI 4) rfl dL_law_3256 ?_
        refine lq_iadd C dL_law_3257 ?_
        refine lq_cast (.int (nI 4)) (congrArg Value.int (by decide)) ?_
        refine lq_sld C 4 (by decide) (by decide) dL_law_3258 ?_
        refine lq_cast (.int v4) (congrArg Value.int e_v4) ?_
        refine lq_doM C (w264_sortedAt l v f g v1 v2 v4 hneg_v1 hneg_v4) lM_374 rfl rfl ⟨by decide, by decide⟩ ⟨Nat.le_of_ble_eq_true rfl, Nat.le_of_ble_eq_true rfl⟩ rfl (Nat.le_of_ble_eq_true rfl) dL_law_3259 ?_
        refine lq_istore C (lv' := [(6, .int (nI 0)), (5, .int (nI 1)), (4, .int (nI 0)), (3, .ref out), (2, .ref (a 0)), (1, .ref x), (0, .ref b)]) (by decide) rfl dL_law_3262 ?_
        refine lq_aload_n C (i := 2) rfl 4 rfl dL_law_3264 ?_
        refine lq_doM C (w4_thrown l (upd v 99 (nI 1)) f g rfl) lM_192 rfl rfl ⟨by decide, by decide⟩ ⟨Nat.le_of_ble_eq_true rfl, Nat.le_of_ble_eq_true rfl⟩ rfl (Nat.le_of_ble_eq_true rfl) dL_law_3265 ?_
        refine lq_iload C 1 rfl dL_law_3268 ?_
        refine lq_icmp_eq C 3275 (by decide) dL_law_3270 (fun _ => ?_) (fun c_ => absurd (by decide) c_)
        refine lq_iload C 1 rfl dL_law_3275 ?_
        refine lq_if_ne C 3292 (by decide) dL_law_3277 (fun _ => ?_) (fun c_ => absurd c_ (by decide))
        refine lq_goto C 3491 (by decide) dL_law_3292 ?_
        exact lq_sub [2, 6] rfl (law_tail C (Nat.le_of_ble_eq_true rfl) (Nat.le_of_ble_eq_true rfl))
      · obtain ⟨v2, e_v2⟩ : ∃ z : Int32, xs 2 = z := ⟨_, rfl⟩
        obtain ⟨v5, e_v5⟩ : ∃ z : Int32, xs 5 = z := ⟨_, rfl⟩
        refine lq_aload_n C (i := 1) rfl 3 rfl dL_law_3187 ?_
        refine lq_aload_n C (i := 0) rfl 4 rfl dL_law_3188 ?_
        refine lq_iload C 0 rfl dL_law_3189 ?_
        refine lq_iconst C (x := nI 1) rfl dL_law_3191 ?_
        refine lq_iadd C dL_law_3192 ?_
        refine lq_cast (.int (nI 1)) (congrArg Value.int (by decide)) ?_
        refine lq_sld C 1 (by decide) (by decide) dL_law_3193 ?_
        refine lq_cast (.int v1) (congrArg Value.int e_v1) ?_
        refine lq_aload_n C (i := 0) rfl 4 rfl dL_law_3194 ?_
        refine lq_iload C 0 rfl dL_law_3195 ?_
        refine lq_iconst C (x := nI 2) rfl dL_law_3197 ?_
        refine lq_iadd C dL_law_3198 ?_
        refine lq_cast (.int (nI 2)) (congrArg Value.int (by decide)) ?_
        refine lq_sld C 2 (by decide) (by decide) dL_law_3199 ?_
        refine lq_cast (.int v2) (congrArg Value.int e_v2) ?_
        refine lq_aload_n C (i := 0) rfl 4 rfl dL_law_3200 ?_
        refine lq_iload C 0 rfl dL_law_3201 ?_
        refine lq_iconst C (x := nI 3) rfl dL_law_3203 ?_
        refine lq_iadd C dL_law_3204 ?_
        refine lq_cast (.int (nI 3)) (congrArg Value.int (by decide)) ?_
        refine lq_sld C 3 (by decide) (by decide) dL_law_3205 ?_
        refine lq_cast (.int v3) (congrArg Value.int e_v3) ?_
        refine lq_if_eq C 3213 (by decide) dL_law_3206 (fun c_ => absurd c_ (cneg0_ne hneg_v3)) (fun _ => ?_)
        refine lq_iconst C (x := nI 1) rfl dL_law_3209 ?_
        refine lq_goto C 3214 (by decide) dL_law_3210 ?_
        refine lq_aload_n C (i := 0) rfl 4 rfl dL_law_3214 ?_
        refine lq_iload C 0 rfl dL_law_3215 ?_
        refine lq_iconst C (x := nI 4) rfl dL_law_3217 ?_
        refine lq_iadd C dL_law_3218 ?_
        refine lq_cast (.int (nI 4)) (congrArg Value.int (by decide)) ?_
        refine lq_sld C 4 (by decide) (by decide) dL_law_3219 ?_
        refine lq_cast (.int (nI v4)) (congrArg Value.int e_v4) ?_
        refine lq_aload_n C (i := 3) rfl 1 rfl dL_law_3220 ?_
        refine lq_callW C (z483_L_sortedAt l hlt S dp x out q22 v4 v1 v2 hneg_v1 (by omega) Fr_360_x Fk_x Fm_x Fi_386_q22 Fk_q22 Fm_q22) lH_371 rfl rfl ⟨by decide, by decide⟩ ⟨Nat.le_of_ble_eq_true rfl, Nat.le_of_ble_eq_true rfl⟩ rfl (Nat.le_of_ble_eq_true rfl) dL_law_3221 (fun r_3221 u_3221 h_3221 => ?_)
        obtain ⟨hr_3221, hu_3221⟩ := h_3221
        have hw_3221 := hu_3221.symm
        subst hw_3221
        have hx_3221 := hr_3221.symm
        subst hx_3221
        refine lq_istore C (lv' := [(5, .int (nI 1)), (4, .int (nI 0)), (3, .ref out), (2, .ref (a 0)), (1, .ref x), (0, .ref b)]) (by decide) rfl dL_law_3224 ?_
        refine lq_aload_n C (i := 2) rfl 3 rfl dL_law_3226 ?_
        refine lq_aload_n C (i := 0) rfl 5 rfl dL_law_3227 ?_
        refine lq_iload C 1 rfl dL_law_3228 ?_
        refine lq_iconst C (x := nI 1) rfl dL_law_3230 ?_
        refine lq_iadd C dL_law_3231 ?_
        refine lq_cast (.int (nI 1)) (congrArg Value.int (by decide)) ?_
        refine lq_sld C 1 (by decide) (by decide) dL_law_3232 ?_
        refine lq_cast (.int v1) (congrArg Value.int e_v1) ?_
        refine lq_aload_n C (i := 0) rfl 5 rfl dL_law_3233 ?_
        refine lq_iload C 1 rfl dL_law_3234 ?_
        refine lq_iconst C (x := nI 2) rfl dL_law_3236 ?_
        refine lq_iadd C dL_law_3237 ?_
        refine lq_cast (.int (nI 2)) (congrArg Value.int (by decide)) ?_
        refine lq_sld C 2 (by decide) (by decide) dL_law_3238 ?_
        refine lq_cast (.int v2) (congrArg Value.int e_v2) ?_
        refine lq_aload_n C (i := 0) rfl 5 rfl dL_law_3239 ?_
        refine lq_iload C 1 rfl dL_law_3240 ?_
        refine lq_iconst C (x := nI 3) rfl dL_law_3242 ?_
        refine lq_iadd C dL_law_3243 ?_
        refine lq_cast (.int (nI 3)) (congrArg Value.int (by decide)) ?_
        refine lq_sld C 3 (by decide) (by decide) dL_law_3244 ?_
        refine lq_cast (.int v3) (congrArg Value.int e_v3) ?_
        refine lq_if_eq C 3252 (by decide) dL_law_3245 (fun c_ => absurd c_ (cneg0_ne hneg_v3)) (fun _ => ?_)
        refine lq_iconst C (x := nI 1) rfl dL_law_3248 ?_
        refine lq_goto C 3253 (by decide) dL_law_3249 ?_
        refine lq_aload_n C (i := 0) rfl 5 rfl dL_law_3253 ?_
        refine lq_iload C 1 rfl dL_law_3254 ?_
        refine lq_iconst C (x := nI 4) rfl dL_law_3256 ?_
        refine lq_iadd C dL_law_3257 ?_
        refine lq_cast (.int (nI 4)) (congrArg Value.int (by decide)) ?_
        refine lq_sld C 4 (by decide) (by decide) dL_law_3258 ?_
        refine lq_cast (.int (nI v4)) (congrArg Value.int e_v4) ?_
        refine lq_doM C (w265_sortedAt l v f g v4 v1 v2 hneg_v1 (by omega)) lM_374 rfl rfl ⟨by decide, by decide⟩ ⟨Nat.le_of_ble_eq_true rfl, Nat.le_of_ble_eq_true rfl⟩ rfl (Nat.le_of_ble_eq_true rfl) dL_law_3259 ?_
        refine lq_istore C (lv' := [(6, .int (nI 0)), (5, .int (nI 1)), (4, .int (nI 0)), (3, .ref out), (2, .ref (a 0)), (1, .ref x), (0, .ref b)]) (by decide) rfl dL_law_3262 ?_
        refine lq_aload_n C (i := 2) rfl 4 rfl dL_law_3264 ?_
        refine lq_doM C (w4_thrown l (upd v 99 (nI 1)) f g rfl) lM_192 rfl rfl ⟨by decide, by decide⟩ ⟨Nat.le_of_ble_eq_true rfl, Nat.le_of_ble_eq_true rfl⟩ rfl (Nat.le_of_ble_eq_true rfl) dL_law_3265 ?_
        refine lq_iload C 1 rfl dL_law_3268 ?_
        refine lq_icmp_eq C 3275 (by decide) dL_law_3270 (fun _ => ?_) (fun c_ => absurd (by decide) c_)
        refine lq_iload C 1 rfl dL_law_3275 ?_
        refine lq_if_ne C 3292 (by decide) dL_law_3277 (fun _ => ?_) (fun c_ => absurd c_ (by decide))
        refine lq_goto C 3491 (by decide) dL_law_3292 ?_
        exact lq_sub [2, 6] rfl (law_tail C (Nat.le_of_ble_eq_true rfl) (Nat.le_of_ble_eq_true rfl))
    · rcases c_sgn (xs 4) with hneg_v4 | ⟨v4, hr_v4, e_v4⟩
      · obtain ⟨v4, e_v4⟩ : ∃ z : Int32, xs 4 = z := ⟨_, rfl⟩
        rw [e_v4] at hneg_v4
        obtain ⟨v2, e_v2⟩ : ∃ z : Int32, xs 2 = z := ⟨_, rfl⟩
        obtain ⟨v5, e_v5⟩ : ∃ z : Int32, xs 5 = z := ⟨_, rfl⟩
        refine lq_aload_n C (i := 1) rfl 3 rfl dL_law_3187 ?_
        refine lq_aload_n C (i := 0) rfl 4 rfl dL_law_3188 ?_
        refine lq_iload C 0 rfl dL_law_3189 ?_
        refine lq_iconst C (x := nI 1) rfl dL_law_3191 ?_
        refine lq_iadd C dL_law_3192 ?_
        refine lq_cast (.int (nI 1)) (congrArg Value.int (by decide)) ?_
        refine lq_sld C 1 (by decide) (by decide) dL_law_3193 ?_
        refine lq_cast (.int (nI v1)) (congrArg Value.int e_v1) ?_
        refine lq_aload_n C (i := 0) rfl 4 rfl dL_law_3194 ?_
        refine lq_iload C 0 rfl dL_law_3195 ?_
        refine lq_iconst C (x := nI 2) rfl dL_law_3197 ?_
        refine lq_iadd C dL_law_3198 ?_
        refine lq_cast (.int (nI 2)) (congrArg Value.int (by decide)) ?_
        refine lq_sld C 2 (by decide) (by decide) dL_law_3199 ?_
        refine lq_cast (.int v2) (congrArg Value.int e_v2) ?_
        refine lq_aload_n C (i := 0) rfl 4 rfl dL_law_3200 ?_
        refine lq_iload C 0 rfl dL_law_3201 ?_
        refine lq_iconst C (x := nI 3) rfl dL_law_3203 ?_
        refine lq_iadd C dL_law_3204 ?_
        refine lq_cast (.int (nI 3)) (congrArg Value.int (by decide)) ?_
        refine lq_sld C 3 (by decide) (by decide) dL_law_3205 ?_
        refine lq_cast (.int v3) (congrArg Value.int e_v3) ?_
        refine lq_if_eq C 3213 (by decide) dL_law_3206 (fun c_ => absurd c_ (cneg0_ne hneg_v3)) (fun _ => ?_)
        refine lq_iconst C (x := nI 1) rfl dL_law_3209 ?_
        refine lq_goto C 3214 (by decide) dL_law_3210 ?_
        refine lq_aload_n C (i := 0) rfl 4 rfl dL_law_3214 ?_
        refine lq_iload C 0 rfl dL_law_3215 ?_
        refine lq_iconst C (x := nI 4) rfl dL_law_3217 ?_
        refine lq_iadd C dL_law_3218 ?_
        refine lq_cast (.int (nI 4)) (congrArg Value.int (by decide)) ?_
        refine lq_sld C 4 (by decide) (by decide) dL_law_3219 ?_
        refine lq_cast (.int v4) (congrArg Value.int e_v4) ?_
        refine lq_aload_n C (i := 3) rfl 1 rfl dL_law_3220 ?_
        refine lq_callW C (z487_L_sortedAt l hlt S dp x out q22 v1 v2 v4 (by omega) hneg_v4 Fr_360_x Fk_x Fm_x Fi_386_q22 Fk_q22 Fm_q22) lH_371 rfl rfl ⟨by decide, by decide⟩ ⟨Nat.le_of_ble_eq_true rfl, Nat.le_of_ble_eq_true rfl⟩ rfl (Nat.le_of_ble_eq_true rfl) dL_law_3221 (fun r_3221 u_3221 h_3221 => ?_)
        obtain ⟨hr_3221, hu_3221⟩ := h_3221
        have hw_3221 := hu_3221.symm
        subst hw_3221
        have hx_3221 := hr_3221.symm
        subst hx_3221
        refine lq_istore C (lv' := [(5, .int (nI 1)), (4, .int (nI 0)), (3, .ref out), (2, .ref (a 0)), (1, .ref x), (0, .ref b)]) (by decide) rfl dL_law_3224 ?_
        refine lq_aload_n C (i := 2) rfl 3 rfl dL_law_3226 ?_
        refine lq_aload_n C (i := 0) rfl 5 rfl dL_law_3227 ?_
        refine lq_iload C 1 rfl dL_law_3228 ?_
        refine lq_iconst C (x := nI 1) rfl dL_law_3230 ?_
        refine lq_iadd C dL_law_3231 ?_
        refine lq_cast (.int (nI 1)) (congrArg Value.int (by decide)) ?_
        refine lq_sld C 1 (by decide) (by decide) dL_law_3232 ?_
        refine lq_cast (.int (nI v1)) (congrArg Value.int e_v1) ?_
        refine lq_aload_n C (i := 0) rfl 5 rfl dL_law_3233 ?_
        refine lq_iload C 1 rfl dL_law_3234 ?_
        refine lq_iconst C (x := nI 2) rfl dL_law_3236 ?_
        refine lq_iadd C dL_law_3237 ?_
        refine lq_cast (.int (nI 2)) (congrArg Value.int (by decide)) ?_
        refine lq_sld C 2 (by decide) (by decide) dL_law_3238 ?_
        refine lq_cast (.int v2) (congrArg Value.int e_v2) ?_
        refine lq_aload_n C (i := 0) rfl 5 rfl dL_law_3239 ?_
        refine lq_iload C 1 rfl dL_law_3240 ?_
        refine lq_iconst C (x := nI 3) rfl dL_law_3242 ?_
        refine lq_iadd C dL_law_3243 ?_
        refine lq_cast (.int (nI 3)) (congrArg Value.int (by decide)) ?_
        refine lq_sld C 3 (by decide) (by decide) dL_law_3244 ?_
        refine lq_cast (.int v3) (congrArg Value.int e_v3) ?_
        refine lq_if_eq C 3252 (by decide) dL_law_3245 (fun c_ => absurd c_ (cneg0_ne hneg_v3)) (fun _ => ?_)
        refine lq_iconst C (x := nI 1) rfl dL_law_3248 ?_
        refine lq_goto C 3253 (by decide) dL_law_3249 ?_
        refine lq_aload_n C (i := 0) rfl 5 rfl dL_law_3253 ?_
        refine lq_iload C 1 rfl dL_law_3254 ?_
        refine lq_iconst C (x := nI 4) rfl dL_law_3256 ?_
        refine lq_iadd C dL_law_3257 ?_
        refine lq_cast (.int (nI 4)) (congrArg Value.int (by decide)) ?_
        refine lq_sld C 4 (by decide) (by decide) dL_law_3258 ?_
        refine lq_cast (.int v4) (congrArg Value.int e_v4) ?_
        refine lq_doM C (w266_sortedAt l v f g v1 v2 v4 (by omega) hneg_v4 Mf_29_0 Mf_29_1 Mf_29_2 Mf_29_3 Mf_29_4) lM_374 rfl rfl ⟨by decide, by decide⟩ ⟨Nat.le_of_ble_eq_true rfl, Nat.le_of_ble_eq_true rfl⟩ rfl (Nat.le_of_ble_eq_true rfl) dL_law_3259 ?_
        refine lq_istore C (lv' := [(6, .int (nI 0)), (5, .int (nI 1)), (4, .int (nI 0)), (3, .ref out), (2, .ref (a 0)), (1, .ref x), (0, .ref b)]) (by decide) rfl dL_law_3262 ?_
        refine lq_aload_n C (i := 2) rfl 4 rfl dL_law_3264 ?_
        refine lq_doM C (w4_thrown l (upd v 99 (nI 1)) f g rfl) lM_192 rfl rfl ⟨by decide, by decide⟩ ⟨Nat.le_of_ble_eq_true rfl, Nat.le_of_ble_eq_true rfl⟩ rfl (Nat.le_of_ble_eq_true rfl) dL_law_3265 ?_
        refine lq_iload C 1 rfl dL_law_3268 ?_
        refine lq_icmp_eq C 3275 (by decide) dL_law_3270 (fun _ => ?_) (fun c_ => absurd (by decide) c_)
        refine lq_iload C 1 rfl dL_law_3275 ?_
        refine lq_if_ne C 3292 (by decide) dL_law_3277 (fun _ => ?_) (fun c_ => absurd c_ (by decide))
        refine lq_goto C 3491 (by decide) dL_law_3292 ?_
        exact lq_sub [2, 6] rfl (law_tail C (Nat.le_of_ble_eq_true rfl) (Nat.le_of_ble_eq_true rfl))
      · obtain ⟨v2, e_v2⟩ : ∃ z : Int32, xs 2 = z := ⟨_, rfl⟩
        obtain ⟨v5, e_v5⟩ : ∃ z : Int32, xs 5 = z := ⟨_, rfl⟩
        refine lq_aload_n C (i := 1) rfl 3 rfl dL_law_3187 ?_
        refine lq_aload_n C (i := 0) rfl 4 rfl dL_law_3188 ?_
        refine lq_iload C 0 rfl dL_law_3189 ?_
        refine lq_iconst C (x := nI 1) rfl dL_law_3191 ?_
        refine lq_iadd C dL_law_3192 ?_
        refine lq_cast (.int (nI 1)) (congrArg Value.int (by decide)) ?_
        refine lq_sld C 1 (by decide) (by decide) dL_law_3193 ?_
        refine lq_cast (.int (nI v1)) (congrArg Value.int e_v1) ?_
        refine lq_aload_n C (i := 0) rfl 4 rfl dL_law_3194 ?_
        refine lq_iload C 0 rfl dL_law_3195 ?_
        refine lq_iconst C (x := nI 2) rfl dL_law_3197 ?_
        refine lq_iadd C dL_law_3198 ?_
        refine lq_cast (.int (nI 2)) (congrArg Value.int (by decide)) ?_
        refine lq_sld C 2 (by decide) (by decide) dL_law_3199 ?_
        refine lq_cast (.int v2) (congrArg Value.int e_v2) ?_
        refine lq_aload_n C (i := 0) rfl 4 rfl dL_law_3200 ?_
        refine lq_iload C 0 rfl dL_law_3201 ?_
        refine lq_iconst C (x := nI 3) rfl dL_law_3203 ?_
        refine lq_iadd C dL_law_3204 ?_
        refine lq_cast (.int (nI 3)) (congrArg Value.int (by decide)) ?_
        refine lq_sld C 3 (by decide) (by decide) dL_law_3205 ?_
        refine lq_cast (.int v3) (congrArg Value.int e_v3) ?_
        refine lq_if_eq C 3213 (by decide) dL_law_3206 (fun c_ => absurd c_ (cneg0_ne hneg_v3)) (fun _ => ?_)
        refine lq_iconst C (x := nI 1) rfl dL_law_3209 ?_
        refine lq_goto C 3214 (by decide) dL_law_3210 ?_
        refine lq_aload_n C (i := 0) rfl 4 rfl dL_law_3214 ?_
        refine lq_iload C 0 rfl dL_law_3215 ?_
        refine lq_iconst C (x := nI 4) rfl dL_law_3217 ?_
        refine lq_iadd C dL_law_3218 ?_
        refine lq_cast (.int (nI 4)) (congrArg Value.int (by decide)) ?_
        refine lq_sld C 4 (by decide) (by decide) dL_law_3219 ?_
        refine lq_cast (.int (nI v4)) (congrArg Value.int e_v4) ?_
        refine lq_aload_n C (i := 3) rfl 1 rfl dL_law_3220 ?_
        refine lq_callW C (z489_L_sortedAt l hlt S dp x out q22 v1 v4 v2 (by omega) (by omega) Fr_360_x Fk_x Fm_x Fi_386_q22 Fk_q22 Fm_q22) lH_371 rfl rfl ⟨by decide, by decide⟩ ⟨Nat.le_of_ble_eq_true rfl, Nat.le_of_ble_eq_true rfl⟩ rfl (Nat.le_of_ble_eq_true rfl) dL_law_3221 (fun r_3221 u_3221 h_3221 => ?_)
        obtain ⟨hr_3221, hu_3221⟩ := h_3221
        have hw_3221 := hu_3221.symm
        subst hw_3221
        have hx_3221 := hr_3221.symm
        subst hx_3221
        refine lq_istore C (lv' := [(5, .int (nI 1)), (4, .int (nI 0)), (3, .ref out), (2, .ref (a 0)), (1, .ref x), (0, .ref b)]) (by decide) rfl dL_law_3224 ?_
        refine lq_aload_n C (i := 2) rfl 3 rfl dL_law_3226 ?_
        refine lq_aload_n C (i := 0) rfl 5 rfl dL_law_3227 ?_
        refine lq_iload C 1 rfl dL_law_3228 ?_
        refine lq_iconst C (x := nI 1) rfl dL_law_3230 ?_
        refine lq_iadd C dL_law_3231 ?_
        refine lq_cast (.int (nI 1)) (congrArg Value.int (by decide)) ?_
        refine lq_sld C 1 (by decide) (by decide) dL_law_3232 ?_
        refine lq_cast (.int (nI v1)) (congrArg Value.int e_v1) ?_
        refine lq_aload_n C (i := 0) rfl 5 rfl dL_law_3233 ?_
        refine lq_iload C 1 rfl dL_law_3234 ?_
        refine lq_iconst C (x := nI 2) rfl dL_law_3236 ?_
        refine lq_iadd C dL_law_3237 ?_
        refine lq_cast (.int (nI 2)) (congrArg Value.int (by decide)) ?_
        refine lq_sld C 2 (by decide) (by decide) dL_law_3238 ?_
        refine lq_cast (.int v2) (congrArg Value.int e_v2) ?_
        refine lq_aload_n C (i := 0) rfl 5 rfl dL_law_3239 ?_
        refine lq_iload C 1 rfl dL_law_3240 ?_
        refine lq_iconst C (x := nI 3) rfl dL_law_3242 ?_
        refine lq_iadd C dL_law_3243 ?_
        refine lq_cast (.int (nI 3)) (congrArg Value.int (by decide)) ?_
        refine lq_sld C 3 (by decide) (by decide) dL_law_3244 ?_
        refine lq_cast (.int v3) (congrArg Value.int e_v3) ?_
        refine lq_if_eq C 3252 (by decide) dL_law_3245 (fun c_ => absurd c_ (cneg0_ne hneg_v3)) (fun _ => ?_)
        refine lq_iconst C (x := nI 1) rfl dL_law_3248 ?_
        refine lq_goto C 3253 (by decide) dL_law_3249 ?_
        refine lq_aload_n C (i := 0) rfl 5 rfl dL_law_3253 ?_
        refine lq_iload C 1 rfl dL_law_3254 ?_
        refine lq_iconst C (x := nI 4) rfl dL_law_3256 ?_
        refine lq_iadd C dL_law_3257 ?_
        refine lq_cast (.int (nI 4)) (congrArg Value.int (by decide)) ?_
        refine lq_sld C 4 (by decide) (by decide) dL_law_3258 ?_
        refine lq_cast (.int (nI v4)) (congrArg Value.int e_v4) ?_
        refine lq_doM C (w267_sortedAt l v f g v1 v4 v2 (by omega) (by omega) Mf_29_0 Mf_29_1 Mf_29_2 Mf_29_3 Mf_29_4) lM_374 rfl rfl ⟨by decide, by decide⟩ ⟨Nat.le_of_ble_eq_true rfl, Nat.le_of_ble_eq_true rfl⟩ rfl (Nat.le_of_ble_eq_true rfl) dL_law_3259 ?_
        refine lq_istore C (lv' := [(6, .int (nI 0)), (5, .int (nI 1)), (4, .int (nI 0)), (3, .ref out), (2, .ref (a 0)), (1, .ref x), (0, .ref b)]) (by decide) rfl dL_law_3262 ?_
        refine lq_aload_n C (i := 2) rfl 4 rfl dL_law_3264 ?_
        refine lq_doM C (w4_thrown l (upd v 99 (nI 1)) f g rfl) lM_192 rfl rfl ⟨by decide, by decide⟩ ⟨Nat.le_of_ble_eq_true rfl, Nat.le_of_ble_eq_true rfl⟩ rfl (Nat.le_of_ble_eq_true rfl) dL_law_3265 ?_
        refine lq_iload C 1 rfl dL_law_3268 ?_
        refine lq_icmp_eq C 3275 (by decide) dL_law_3270 (fun _ => ?_) (fun c_ => absurd (by decide) c_)
        refine lq_iload C 1 rfl dL_law_3275 ?_
        refine lq_if_ne C 3292 (by decide) dL_law_3277 (fun _ => ?_) (fun c_ => absurd c_ (by decide))
        refine lq_goto C 3491 (by decide) dL_law_3292 ?_
        exact lq_sub [2, 6] rfl (law_tail C (Nat.le_of_ble_eq_true rfl) (Nat.le_of_ble_eq_true rfl))
  · rcases Nat.lt_or_ge v3 1 with hlt_v3 | hlt_v3
    · obtain rfl : v3 = 0 := by omega
      rcases c_sgn (xs 1) with hneg_v1 | ⟨v1, hr_v1, e_v1⟩
      · obtain ⟨v1, e_v1⟩ : ∃ z : Int32, xs 1 = z := ⟨_, rfl⟩
        rw [e_v1] at hneg_v1
        rcases c_sgn (xs 4) with hneg_v4 | ⟨v4, hr_v4, e_v4⟩
        · obtain ⟨v4, e_v4⟩ : ∃ z : Int32, xs 4 = z := ⟨_, rfl⟩
          rw [e_v4] at hneg_v4
          obtain ⟨v2, e_v2⟩ : ∃ z : Int32, xs 2 = z := ⟨_, rfl⟩
          obtain ⟨v5, e_v5⟩ : ∃ z : Int32, xs 5 = z := ⟨_, rfl⟩
          refine lq_aload_n C (i := 1) rfl 3 rfl dL_law_3187 ?_
          refine lq_aload_n C (i := 0) rfl 4 rfl dL_law_3188 ?_
          refine lq_iload C 0 rfl dL_law_3189 ?_
          refine lq_iconst C (x := nI 1) rfl dL_law_3191 ?_
          refine lq_iadd C dL_law_3192 ?_
          refine lq_cast (.int (nI 1)) (congrArg Value.int (by decide)) ?_
          refine lq_sld C 1 (by decide) (by decide) dL_law_3193 ?_
          refine lq_cast (.int v1) (congrArg Value.int e_v1) ?_
          refine lq_aload_n C (i := 0) rfl 4 rfl dL_law_3194 ?_
          refine lq_iload C 0 rfl dL_law_3195 ?_
          refine lq_iconst C (x := nI 2) rfl dL_law_3197 ?_
          refine lq_iadd C dL_law_3198 ?_
          refine lq_cast (.int (nI 2)) (congrArg Value.int (by decide)) ?_
          refine lq_sld C 2 (by decide) (by decide) dL_law_3199 ?_
          refine lq_cast (.int v2) (congrArg Value.int e_v2) ?_
          refine lq_aload_n C (i := 0) rfl 4 rfl dL_law_3200 ?_
          refine lq_iload C 0 rfl dL_law_3201 ?_
          refine lq_iconst C (x := nI 3) rfl dL_law_3203 ?_
          refine lq_iadd C dL_law_3204 ?_
          refine lq_cast (.int (nI 3)) (congrArg Value.int (by decide)) ?_
          refine lq_sld C 3 (by decide) (by decide) dL_law_3205 ?_
          refine lq_cast (.int (nI 0)) (congrArg Value.int e_v3) ?_
          refine lq_if_eq C 3213 (by decide) dL_law_3206 (fun _ => ?_) (fun c_ => absurd (by decide) c_)
          refine lq_iconst C (x := nI 0) rfl dL_law_3213 ?_
          refine lq_aload_n C (i := 0) rfl 4 rfl dL_law_3214 ?_
          refine lq_iload C 0 rfl dL_law_3215 ?_
          refine lq_iconst C (x := nI 4) rfl dL_law_3217 ?_
          refine lq_iadd C dL_law_3218 ?_
          refine lq_cast (.int (nI 4)) (congrArg Value.int (by decide)) ?_
          refine lq_sld C 4 (by decide) (by decide) dL_law_3219 ?_
          refine lq_cast (.int v4) (congrArg Value.int e_v4) ?_
          refine lq_aload_n C (i := 3) rfl 1 rfl dL_law_3220 ?_
          refine lq_callW C (z495_L_sortedAt l hlt S dp x out q22 v1 v2 v4 hneg_v1 hneg_v4 Fr_360_x Fk_x Fm_x Fi_386_q22 Fk_q22 Fm_q22) lH_371 rfl rfl ⟨by decide, by decide⟩ ⟨Nat.le_of_ble_eq_true rfl, Nat.le_of_ble_eq_true rfl⟩ rfl (Nat.le_of_ble_eq_true rfl) dL_law_3221 (fun r_3221 u_3221 h_3221 => ?_)
          obtain ⟨hr_3221, hu_3221⟩ := h_3221
          have hw_3221 := hu_3221.symm
          subst hw_3221
          have hx_3221 := hr_3221.symm
          subst hx_3221
          refine lq_istore C (lv' := [(5, .int (nI 1)), (4, .int (nI 0)), (3, .ref out), (2, .ref (a 0)), (1, .ref x), (0, .ref b)]) (by decide) rfl dL_law_3224 ?_
          refine lq_aload_n C (i := 2) rfl 3 rfl dL_law_3226 ?_
          refine lq_aload_n C (i := 0) rfl 5 rfl dL_law_3227 ?_
          refine lq_iload C 1 rfl dL_law_3228 ?_
          refine lq_iconst C (x := nI 1) rfl dL_law_3230 ?_
          refine lq_iadd C dL_law_3231 ?_
          refine lq_cast (.int (nI 1)) (congrArg Value.int (by decide)) ?_
          refine lq_sld C 1 (by decide) (by decide) dL_law_3232 ?_
          refine lq_cast (.int v1) (congrArg Value.int e_v1) ?_
          refine lq_aload_n C (i := 0) rfl 5 rfl dL_law_3233 ?_
          refine lq_iload C 1 rfl dL_law_3234 ?_
          refine lq_iconst C (x := nI 2) rfl dL_law_3236 ?_
          refine lq_iadd C dL_law_3237 ?_
          refine lq_cast (.int (nI 2)) (congrArg Value.int (by decide)) ?_
          refine lq_sld C 2 (by decide) (by decide) dL_law_3238 ?_
          refine lq_cast (.int v2) (congrArg Value.int e_v2) ?_
          refine lq_aload_n C (i := 0) rfl 5 rfl dL_law_3239 ?_
          refine lq_iload C 1 rfl dL_law_3240 ?_
          refine lq_iconst C (x := nI 3) rfl dL_law_3242 ?_
          refine lq_iadd C dL_law_3243 ?_
          refine lq_cast (.int (nI 3)) (congrArg Value.int (by decide)) ?_
          refine lq_sld C 3 (by decide) (by decide) dL_law_3244 ?_
          refine lq_cast (.int (nI 0)) (congrArg Value.int e_v3) ?_
          refine lq_if_eq C 3252 (by decide) dL_law_3245 (fun _ => ?_) (fun c_ => absurd (by decide) c_)
          refine lq_iconst C (x := nI 0) rfl dL_law_3252 ?_
          refine lq_aload_n C (i := 0) rfl 5 rfl dL_law_3253 ?_
          refine lq_iload C 1 rfl dL_law_3254 ?_
          refine lq_iconst C (x := nI 4) rfl dL_law_3256 ?_
          refine lq_iadd C dL_law_3257 ?_
          refine lq_cast (.int (nI 4)) (congrArg Value.int (by decide)) ?_
          refine lq_sld C 4 (by decide) (by decide) dL_law_3258 ?_
          refine lq_cast (.int v4) (congrArg Value.int e_v4) ?_
          refine lq_doM C (w268_sortedAt l v f g v1 v2 v4 hneg_v1 hneg_v4) lM_374 rfl rfl ⟨by decide, by decide⟩ ⟨Nat.le_of_ble_eq_true rfl, Nat.le_of_ble_eq_true rfl⟩ rfl (Nat.le_of_ble_eq_true rfl) dL_law_3259 ?_
          refine lq_istore C (lv' := [(6, .int (nI 0)), (5, .int (nI 1)), (4, .int (nI 0)), (3, .ref out), (2, .ref (a 0)), (1, .ref x), (0, .ref b)]) (by decide) rfl dL_law_3262 ?_
          refine lq_aload_n C (i := 2) rfl 4 rfl dL_law_3264 ?_
          refine lq_doM C (w4_thrown l (upd v 99 (nI 1)) f g rfl) lM_192 rfl rfl ⟨by decide, by decide⟩ ⟨Nat.le_of_ble_eq_true rfl, Nat.le_of_ble_eq_true rfl⟩ rfl (Nat.le_of_ble_eq_true rfl) dL_law_3265 ?_
          refine lq_iload C 1 rfl dL_law_3268 ?_
          refine lq_icmp_eq C 3275 (by decide) dL_law_3270 (fun _ => ?_) (fun c_ => absurd (by decide) c_)
          refine lq_iload C 1 rfl dL_law_3275 ?_
          refine lq_if_ne C 3292 (by decide) dL_law_3277 (fun _ => ?_) (fun c_ => absurd c_ (by decide))
          refine lq_goto C 3491 (by decide) dL_law_3292 ?_
          exact lq_sub [2, 6] rfl (law_tail C (Nat.le_of_ble_eq_true rfl) (Nat.le_of_ble_eq_true rfl))
        · obtain ⟨v2, e_v2⟩ : ∃ z : Int32, xs 2 = z := ⟨_, rfl⟩
          obtain ⟨v5, e_v5⟩ : ∃ z : Int32, xs 5 = z := ⟨_, rfl⟩
          refine lq_aload_n C (i := 1) rfl 3 rfl dL_law_3187 ?_
          refine lq_aload_n C (i := 0) rfl 4 rfl dL_law_3188 ?_
          refine lq_iload C 0 rfl dL_law_3189 ?_
          refine lq_iconst C (x := nI 1) rfl dL_law_3191 ?_
          refine lq_iadd C dL_law_3192 ?_
          refine lq_cast (.int (nI 1)) (congrArg Value.int (by decide)) ?_
          refine lq_sld C 1 (by decide) (by decide) dL_law_3193 ?_
          refine lq_cast (.int v1) (congrArg Value.int e_v1) ?_
          refine lq_aload_n C (i := 0) rfl 4 rfl dL_law_3194 ?_
          refine lq_iload C 0 rfl dL_law_3195 ?_
          refine lq_iconst C (x := nI 2) rfl dL_law_3197 ?_
          refine lq_iadd C dL_law_3198 ?_
          refine lq_cast (.int (nI 2)) (congrArg Value.int (by decide)) ?_
          refine lq_sld C 2 (by decide) (by decide) dL_law_3199 ?_
          refine lq_cast (.int v2) (congrArg Value.int e_v2) ?_
          refine lq_aload_n C (i := 0) rfl 4 rfl dL_law_3200 ?_
          refine lq_iload C 0 rfl dL_law_3201 ?_
          refine lq_iconst C (x := nI 3) rfl dL_law_3203 ?_
          refine lq_iadd C dL_law_3204 ?_
          refine lq_cast (.int (nI 3)) (congrArg Value.int (by decide)) ?_
          refine lq_sld C 3 (by decide) (by decide) dL_law_3205 ?_
          refine lq_cast (.int (nI 0)) (congrArg Value.int e_v3) ?_
          refine lq_if_eq C 3213 (by decide) dL_law_3206 (fun _ => ?_) (fun c_ => absurd (by decide) c_)
          refine lq_iconst C (x := nI 0) rfl dL_law_3213 ?_
          refine lq_aload_n C (i := 0) rfl 4 rfl dL_law_3214 ?_
          refine lq_iload C 0 rfl dL_law_3215 ?_
          refine lq_iconst C (x := nI 4) rfl dL_law_3217 ?_
          refine lq_iadd C dL_law_3218 ?_
          refine lq_cast (.int (nI 4)) (congrArg Value.int (by decide)) ?_
          refine lq_sld C 4 (by decide) (by decide) dL_law_3219 ?_
          refine lq_cast (.int (nI v4)) (congrArg Value.int e_v4) ?_
          refine lq_aload_n C (i := 3) rfl 1 rfl dL_law_3220 ?_
          refine lq_callW C (z497_L_sortedAt l hlt S dp x out q22 v4 v1 v2 hneg_v1 (by omega) Fr_360_x Fk_x Fm_x Fi_386_q22 Fk_q22 Fm_q22) lH_371 rfl rfl ⟨by decide, by decide⟩ ⟨Nat.le_of_ble_eq_true rfl, Nat.le_of_ble_eq_true rfl⟩ rfl (Nat.le_of_ble_eq_true rfl) dL_law_3221 (fun r_3221 u_3221 h_3221 => ?_)
          obtain ⟨hr_3221, hu_3221⟩ := h_3221
          have hw_3221 := hu_3221.symm
          subst hw_3221
          have hx_3221 := hr_3221.symm
          subst hx_3221
          refine lq_istore C (lv' := [(5, .int (nI 1)), (4, .int (nI 0)), (3, .ref out), (2, .ref (a 0)), (1, .ref x), (0, .ref b)]) (by decide) rfl dL_law_3224 ?_
          refine lq_aload_n C (i := 2) rfl 3 rfl dL_law_3226 ?_
          refine lq_aload_n C (i := 0) rfl 5 rfl dL_law_3227 ?_
          refine lq_iload C 1 rfl dL_law_3228 ?_
          refine lq_iconst C (x := nI 1) rfl dL_law_3230 ?_
          refine lq_iadd C dL_law_3231 ?_
          refine lq_cast (.int (nI 1)) (congrArg Value.int (by decide)) ?_
          refine lq_sld C 1 (by decide) (by decide) dL_law_3232 ?_
          refine lq_cast (.int v1) (congrArg Value.int e_v1) ?_
          refine lq_aload_n C (i := 0) rfl 5 rfl dL_law_3233 ?_
          refine lq_iload C 1 rfl dL_law_3234 ?_
          refine lq_iconst C (x := nI 2) rfl dL_law_3236 ?_
          refine lq_iadd C dL_law_3237 ?_
          refine lq_cast (.int (nI 2)) (congrArg Value.int (by decide)) ?_
          refine lq_sld C 2 (by decide) (by decide) dL_law_3238 ?_
          refine lq_cast (.int v2) (congrArg Value.int e_v2) ?_
          refine lq_aload_n C (i := 0) rfl 5 rfl dL_law_3239 ?_
          refine lq_iload C 1 rfl dL_law_3240 ?_
          refine lq_iconst C (x := nI 3) rfl dL_law_3242 ?_
          refine lq_iadd C dL_law_3243 ?_
          refine lq_cast (.int (nI 3)) (congrArg Value.int (by decide)) ?_
          refine lq_sld C 3 (by decide) (by decide) dL_law_3244 ?_
          refine lq_cast (.int (nI 0)) (congrArg Value.int e_v3) ?_
          refine lq_if_eq C 3252 (by decide) dL_law_3245 (fun _ => ?_) (fun c_ => absurd (by decide) c_)
          refine lq_iconst C (x := nI 0) rfl dL_law_3252 ?_
          refine lq_aload_n C (i := 0) rfl 5 rfl dL_law_3253 ?_
          refine lq_iload C 1 rfl dL_law_3254 ?_
          refine lq_iconst C (x := nI 4) rfl dL_law_3256 ?_
          refine lq_iadd C dL_law_3257 ?_
          refine lq_cast (.int (nI 4)) (congrArg Value.int (by decide)) ?_
          refine lq_sld C 4 (by decide) (by decide) dL_law_3258 ?_
          refine lq_cast (.int (nI v4)) (congrArg Value.int e_v4) ?_
          refine lq_doM C (w269_sortedAt l v f g v4 v1 v2 hneg_v1 (by omega)) lM_374 rfl rfl ⟨by decide, by decide⟩ ⟨Nat.le_of_ble_eq_true rfl, Nat.le_of_ble_eq_true rfl⟩ rfl (Nat.le_of_ble_eq_true rfl) dL_law_3259 ?_
          refine lq_istore C (lv' := [(6, .int (nI 0)), (5, .int (nI 1)), (4, .int (nI 0)), (3, .ref out), (2, .ref (a 0)), (1, .ref x), (0, .ref b)]) (by decide) rfl dL_law_3262 ?_
          refine lq_aload_n C (i := 2) rfl 4 rfl dL_law_3264 ?_
          refine lq_doM C (w4_thrown l (upd v 99 (nI 1)) f g rfl) lM_192 rfl rfl ⟨by decide, by decide⟩ ⟨Nat.le_of_ble_eq_true rfl, Nat.le_of_ble_eq_true rfl⟩ rfl (Nat.le_of_ble_eq_true rfl) dL_law_3265 ?_
          refine lq_iload C 1 rfl dL_law_3268 ?_
          refine lq_icmp_eq C 3275 (by decide) dL_law_3270 (fun _ => ?_) (fun c_ => absurd (by decide) c_)
          refine lq_iload C 1 rfl dL_law_3275 ?_
          refine lq_if_ne C 3292 (by decide) dL_law_3277 (fun _ => ?_) (fun c_ => absurd c_ (by decide))
          refine lq_goto C 3491 (by decide) dL_law_3292 ?_
          exact lq_sub [2, 6] rfl (law_tail C (Nat.le_of_ble_eq_true rfl) (Nat.le_of_ble_eq_true rfl))
      · rcases c_sgn (xs 4) with hneg_v4 | ⟨v4, hr_v4, e_v4⟩
        · obtain ⟨v4, e_v4⟩ : ∃ z : Int32, xs 4 = z := ⟨_, rfl⟩
          rw [e_v4] at hneg_v4
          obtain ⟨v2, e_v2⟩ : ∃ z : Int32, xs 2 = z := ⟨_, rfl⟩
          obtain ⟨v5, e_v5⟩ : ∃ z : Int32, xs 5 = z := ⟨_, rfl⟩
          refine lq_aload_n C (i := 1) rfl 3 rfl dL_law_3187 ?_
          refine lq_aload_n C (i := 0) rfl 4 rfl dL_law_3188 ?_
          refine lq_iload C 0 rfl dL_law_3189 ?_
          refine lq_iconst C (x := nI 1) rfl dL_law_3191 ?_
          refine lq_iadd C dL_law_3192 ?_
          refine lq_cast (.int (nI 1)) (congrArg Value.int (by decide)) ?_
          refine lq_sld C 1 (by decide) (by decide) dL_law_3193 ?_
          refine lq_cast (.int (nI v1)) (congrArg Value.int e_v1) ?_
          refine lq_aload_n C (i := 0) rfl 4 rfl dL_law_3194 ?_
          refine lq_iload C 0 rfl dL_law_3195 ?_
          refine lq_iconst C (x := nI 2) rfl dL_law_3197 ?_
          refine lq_iadd C dL_law_3198 ?_
          refine lq_cast (.int (nI 2)) (congrArg Value.int (by decide)) ?_
          refine lq_sld C 2 (by decide) (by decide) dL_law_3199 ?_
          refine lq_cast (.int v2) (congrArg Value.int e_v2) ?_
          refine lq_aload_n C (i := 0) rfl 4 rfl dL_law_3200 ?_
          refine lq_iload C 0 rfl dL_law_3201 ?_
          refine lq_iconst C (x := nI 3) rfl dL_law_3203 ?_
          refine lq_iadd C dL_law_3204 ?_
          refine lq_cast (.int (nI 3)) (congrArg Value.int (by decide)) ?_
          refine lq_sld C 3 (by decide) (by decide) dL_law_3205 ?_
          refine lq_cast (.int (nI 0)) (congrArg Value.int e_v3) ?_
          refine lq_if_eq C 3213 (by decide) dL_law_3206 (fun _ => ?_) (fun c_ => absurd (by decide) c_)
          refine lq_iconst C (x := nI 0) rfl dL_law_3213 ?_
          refine lq_aload_n C (i := 0) rfl 4 rfl dL_law_3214 ?_
          refine lq_iload C 0 rfl dL_law_3215 ?_
          refine lq_iconst C (x := nI 4) rfl dL_law_3217 ?_
          refine lq_iadd C dL_law_3218 ?_
          refine lq_cast (.int (nI 4)) (congrArg Value.int (by decide)) ?_
          refine lq_sld C 4 (by decide) (by decide) dL_law_3219 ?_
          refine lq_cast (.int v4) (congrArg Value.int e_v4) ?_
          refine lq_aload_n C (i := 3) rfl 1 rfl dL_law_3220 ?_
          refine lq_callW C (z501_L_sortedAt l hlt S dp x out q22 v1 v2 v4 (by omega) hneg_v4 Fr_360_x Fk_x Fm_x Fi_386_q22 Fk_q22 Fm_q22) lH_371 rfl rfl ⟨by decide, by decide⟩ ⟨Nat.le_of_ble_eq_true rfl, Nat.le_of_ble_eq_true rfl⟩ rfl (Nat.le_of_ble_eq_true rfl) dL_law_3221 (fun r_3221 u_3221 h_3221 => ?_)
          obtain ⟨hr_3221, hu_3221⟩ := h_3221
          have hw_3221 := hu_3221.symm
          subst hw_3221
          have hx_3221 := hr_3221.symm
          subst hx_3221
          refine lq_istore C (lv' := [(5, .int (nI 1)), (4, .int (nI 0)), (3, .ref out), (2, .ref (a 0)), (1, .ref x), (0, .ref b)]) (by decide) rfl dL_law_3224 ?_
          refine lq_aload_n C (i := 2) rfl 3 rfl dL_law_3226 ?_
          refine lq_aload_n C (i := 0) rfl 5 rfl dL_law_3227 ?_
          refine lq_iload C 1 rfl dL_law_3228 ?_
          refine lq_iconst C (x := nI 1) rfl dL_law_3230 ?_
          refine lq_iadd C dL_law_3231 ?_
          refine lq_cast (.int (nI 1)) (congrArg Value.int (by decide)) ?_
          refine lq_sld C 1 (by decide) (by decide) dL_law_3232 ?_
          refine lq_cast (.int (nI v1)) (congrArg Value.int e_v1) ?_
          refine lq_aload_n C (i := 0) rfl 5 rfl dL_law_3233 ?_
          refine lq_iload C 1 rfl dL_law_3234 ?_
          refine lq_iconst C (x := nI 2) rfl dL_law_3236 ?_
          refine lq_iadd C dL_law_3237 ?_
          refine lq_cast (.int (nI 2)) (congrArg Value.int (by decide)) ?_
          refine lq_sld C 2 (by decide) (by decide) dL_law_3238 ?_
          refine lq_cast (.int v2) (congrArg Value.int e_v2) ?_
          refine lq_aload_n C (i := 0) rfl 5 rfl dL_law_3239 ?_
          refine lq_iload C 1 rfl dL_law_3240 ?_
          refine lq_iconst C (x := nI 3) rfl dL_law_3242 ?_
          refine lq_iadd C dL_law_3243 ?_
          refine lq_cast (.int (nI 3)) (congrArg Value.int (by decide)) ?_
          refine lq_sld C 3 (by decide) (by decide) dL_law_3244 ?_
          refine lq_cast (.int (nI 0)) (congrArg Value.int e_v3) ?_
          refine lq_if_eq C 3252 (by decide) dL_law_3245 (fun _ => ?_) (fun c_ => absurd (by decide) c_)
          refine lq_iconst C (x := nI 0) rfl dL_law_3252 ?_
          refine lq_aload_n C (i := 0) rfl 5 rfl dL_law_3253 ?_
          refine lq_iload C 1 rfl dL_law_3254 ?_
          refine lq_iconst C (x := nI 4) rfl dL_law_3256 ?_
          refine lq_iadd C dL_law_3257 ?_
          refine lq_cast (.int (nI 4)) (congrArg Value.int (by decide)) ?_
          refine lq_sld C 4 (by decide) (by decide) dL_law_3258 ?_
          refine lq_cast (.int v4) (congrArg Value.int e_v4) ?_
          refine lq_doM C (w270_sortedAt l v f g v1 v2 v4 (by omega) hneg_v4 Mf_29_0 Mf_29_1 Mf_29_2 Mf_29_3 Mf_29_4) lM_374 rfl rfl ⟨by decide, by decide⟩ ⟨Nat.le_of_ble_eq_true rfl, Nat.le_of_ble_eq_true rfl⟩ rfl (Nat.le_of_ble_eq_true rfl) dL_law_3259 ?_
          refine lq_istore C (lv' := [(6, .int (nI 0)), (5, .int (nI 1)), (4, .int (nI 0)), (3, .ref out), (2, .ref (a 0)), (1, .ref x), (0, .ref b)]) (by decide) rfl dL_law_3262 ?_
          refine lq_aload_n C (i := 2) rfl 4 rfl dL_law_3264 ?_
          refine lq_doM C (w4_thrown l (upd v 99 (nI 1)) f g rfl) lM_192 rfl rfl ⟨by decide, by decide⟩ ⟨Nat.le_of_ble_eq_true rfl, Nat.le_of_ble_eq_true rfl⟩ rfl (Nat.le_of_ble_eq_true rfl) dL_law_3265 ?_
          refine lq_iload C 1 rfl dL_law_3268 ?_
          refine lq_icmp_eq C 3275 (by decide) dL_law_3270 (fun _ => ?_) (fun c_ => absurd (by decide) c_)
          refine lq_iload C 1 rfl dL_law_3275 ?_
          refine lq_if_ne C 3292 (by decide) dL_law_3277 (fun _ => ?_) (fun c_ => absurd c_ (by decide))
          refine lq_goto C 3491 (by decide) dL_law_3292 ?_
          exact lq_sub [2, 6] rfl (law_tail C (Nat.le_of_ble_eq_true rfl) (Nat.le_of_ble_eq_true rfl))
        · obtain ⟨v2, e_v2⟩ : ∃ z : Int32, xs 2 = z := ⟨_, rfl⟩
          obtain ⟨v5, e_v5⟩ : ∃ z : Int32, xs 5 = z := ⟨_, rfl⟩
          refine lq_aload_n C (i := 1) rfl 3 rfl dL_law_3187 ?_
          refine lq_aload_n C (i := 0) rfl 4 rfl dL_law_3188 ?_
          refine lq_iload C 0 rfl dL_law_3189 ?_
          refine lq_iconst C (x := nI 1) rfl dL_law_3191 ?_
          refine lq_iadd C dL_law_3192 ?_
          refine lq_cast (.int (nI 1)) (congrArg Value.int (by decide)) ?_
          refine lq_sld C 1 (by decide) (by decide) dL_law_3193 ?_
          refine lq_cast (.int (nI v1)) (congrArg Value.int e_v1) ?_
          refine lq_aload_n C (i := 0) rfl 4 rfl dL_law_3194 ?_
          refine lq_iload C 0 rfl dL_law_3195 ?_
          refine lq_iconst C (x := nI 2) rfl dL_law_3197 ?_
          refine lq_iadd C dL_law_3198 ?_
          refine lq_cast (.int (nI 2)) (congrArg Value.int (by decide)) ?_
          refine lq_sld C 2 (by decide) (by decide) dL_law_3199 ?_
          refine lq_cast (.int v2) (congrArg Value.int e_v2) ?_
          refine lq_aload_n C (i := 0) rfl 4 rfl dL_law_3200 ?_
          refine lq_iload C 0 rfl dL_law_3201 ?_
          refine lq_iconst C (x := nI 3) rfl dL_law_3203 ?_
          refine lq_iadd C dL_law_3204 ?_
          refine lq_cast (.int (nI 3)) (congrArg Value.int (by decide)) ?_
          refine lq_sld C 3 (by decide) (by decide) dL_law_3205 ?_
          refine lq_cast (.int (nI 0)) (congrArg Value.int e_v3) ?_
          refine lq_if_eq C 3213 (by decide) dL_law_3206 (fun _ => ?_) (fun c_ => absurd (by decide) c_)
          refine lq_iconst C (x := nI 0) rfl dL_law_3213 ?_
          refine lq_aload_n C (i := 0) rfl 4 rfl dL_law_3214 ?_
          refine lq_iload C 0 rfl dL_law_3215 ?_
          refine lq_iconst C (x := nI 4) rfl dL_law_3217 ?_
          refine lq_iadd C dL_law_3218 ?_
          refine lq_cast (.int (nI 4)) (congrArg Value.int (by decide)) ?_
          refine lq_sld C 4 (by decide) (by decide) dL_law_3219 ?_
          refine lq_cast (.int (nI v4)) (congrArg Value.int e_v4) ?_
          refine lq_aload_n C (i := 3) rfl 1 rfl dL_law_3220 ?_
          refine lq_callW C (z503_L_sortedAt l hlt S dp x out q22 v1 v4 v2 (by omega) (by omega) Fr_360_x Fk_x Fm_x Fi_386_q22 Fk_q22 Fm_q22) lH_371 rfl rfl ⟨by decide, by decide⟩ ⟨Nat.le_of_ble_eq_true rfl, Nat.le_of_ble_eq_true rfl⟩ rfl (Nat.le_of_ble_eq_true rfl) dL_law_3221 (fun r_3221 u_3221 h_3221 => ?_)
          obtain ⟨hr_3221, hu_3221⟩ := h_3221
          have hw_3221 := hu_3221.symm
          subst hw_3221
          have hx_3221 := hr_3221.symm
          subst hx_3221
          refine lq_istore C (lv' := [(5, .int (nI 1)), (4, .int (nI 0)), (3, .ref out), (2, .ref (a 0)), (1, .ref x), (0, .ref b)]) (by decide) rfl dL_law_3224 ?_
          refine lq_aload_n C (i := 2) rfl 3 rfl dL_law_3226 ?_
          refine lq_aload_n C (i := 0) rfl 5 rfl dL_law_3227 ?_
          refine lq_iload C 1 rfl dL_law_3228 ?_
          refine lq_iconst C (x := nI 1) rfl dL_law_3230 ?_
          refine lq_iadd C dL_law_3231 ?_
          refine lq_cast (.int (nI 1)) (congrArg Value.int (by decide)) ?_
          refine lq_sld C 1 (by decide) (by decide) dL_law_3232 ?_
          refine lq_cast (.int (nI v1)) (congrArg Value.int e_v1) ?_
          refine lq_aload_n C (i := 0) rfl 5 rfl dL_law_3233 ?_
          refine lq_iload C 1 rfl dL_law_3234 ?_
          refine lq_iconst C (x := nI 2) rfl dL_law_3236 ?_
          refine lq_iadd C dL_law_3237 ?_
          refine lq_cast (.int (nI 2)) (congrArg Value.int (by decide)) ?_
          refine lq_sld C 2 (by decide) (by decide) dL_law_3238 ?_
          refine lq_cast (.int v2) (congrArg Value.int e_v2) ?_
          refine lq_aload_n C (i := 0) rfl 5 rfl dL_law_3239 ?_
          refine lq_iload C 1 rfl dL_law_3240 ?_
          refine lq_iconst C (x := nI 3) rfl dL_law_3242 ?_
          refine lq_iadd C dL_law_3243 ?_
          refine lq_cast (.int (nI 3)) (congrArg Value.int (by decide)) ?_
          refine lq_sld C 3 (by decide) (by decide) dL_law_3244 ?_
          refine lq_cast (.int (nI 0)) (congrArg Value.int e_v3) ?_
          refine lq_if_eq C 3252 (by decide) dL_law_3245 (fun _ => ?_) (fun c_ => absurd (by decide) c_)
          refine lq_iconst C (x := nI 0) rfl dL_law_3252 ?_
          refine lq_aload_n C (i := 0) rfl 5 rfl dL_law_3253 ?_
          refine lq_iload C 1 rfl dL_law_3254 ?_
          refine lq_iconst C (x := nI 4) rfl dL_law_3256 ?_
          refine lq_iadd C dL_law_3257 ?_
          refine lq_cast (.int (nI 4)) (congrArg Value.int (by decide)) ?_
          refine lq_sld C 4 (by decide) (by decide) dL_law_3258 ?_
          refine lq_cast (.int (nI v4)) (congrArg Value.int e_v4) ?_
          refine lq_doM C (w271_sortedAt l v f g v1 v4 v2 (by omega) (by omega) Mf_29_0 Mf_29_1 Mf_29_2 Mf_29_3 Mf_29_4) lM_374 rfl rfl ⟨by decide, by decide⟩ ⟨Nat.le_of_ble_eq_true rfl, Nat.le_of_ble_eq_true rfl⟩ rfl (Nat.le_of_ble_eq_true rfl) dL_law_3259 ?_
          refine lq_istore C (lv' := [(6, .int (nI 0)), (5, .int (nI 1)), (4, .int (nI 0)), (3, .ref out), (2, .ref (a 0)), (1, .ref x), (0, .ref b)]) (by decide) rfl dL_law_3262 ?_
          refine lq_aload_n C (i := 2) rfl 4 rfl dL_law_3264 ?_
          refine lq_doM C (w4_thrown l (upd v 99 (nI 1)) f g rfl) lM_192 rfl rfl ⟨by decide, by decide⟩ ⟨Nat.le_of_ble_eq_true rfl, Nat.le_of_ble_eq_true rfl⟩ rfl (Nat.le_of_ble_eq_true rfl) dL_law_3265 ?_
          refine lq_iload C 1 rfl dL_law_3268 ?_
          refine lq_icmp_eq C 3275 (by decide) dL_law_3270 (fun _ => ?_) (fun c_ => absurd (by decide) c_)
          refine lq_iload C 1 rfl dL_law_3275 ?_
          refine lq_if_ne C 3292 (by decide) dL_law_3277 (fun _ => ?_) (fun c_ => absurd c_ (by decide))
          refine lq_goto C 3491 (by decide) dL_law_3292 ?_
          exact lq_sub [2, 6] rfl (law_tail C (Nat.le_of_ble_eq_true rfl) (Nat.le_of_ble_eq_true rfl))
    · rcases c_sgn (xs 1) with hneg_v1 | ⟨v1, hr_v1, e_v1⟩
      · obtain ⟨v1, e_v1⟩ : ∃ z : Int32, xs 1 = z := ⟨_, rfl⟩
        rw [e_v1] at hneg_v1
        rcases c_sgn (xs 4) with hneg_v4 | ⟨v4, hr_v4, e_v4⟩
        · obtain ⟨v4, e_v4⟩ : ∃ z : Int32, xs 4 = z := ⟨_, rfl⟩
          rw [e_v4] at hneg_v4
          obtain ⟨v2, e_v2⟩ : ∃ z : Int32, xs 2 = z := ⟨_, rfl⟩
          obtain ⟨v5, e_v5⟩ : ∃ z : Int32, xs 5 = z := ⟨_, rfl⟩
          refine lq_aload_n C (i := 1) rfl 3 rfl dL_law_3187 ?_
          refine lq_aload_n C (i := 0) rfl 4 rfl dL_law_3188 ?_
          refine lq_iload C 0 rfl dL_law_3189 ?_
          refine lq_iconst C (x := nI 1) rfl dL_law_3191 ?_
          refine lq_iadd C dL_law_3192 ?_
          refine lq_cast (.int (nI 1)) (congrArg Value.int (by decide)) ?_
          refine lq_sld C 1 (by decide) (by decide) dL_law_3193 ?_
          refine lq_cast (.int v1) (congrArg Value.int e_v1) ?_
          refine lq_aload_n C (i := 0) rfl 4 rfl dL_law_3194 ?_
          refine lq_iload C 0 rfl dL_law_3195 ?_
          refine lq_iconst C (x := nI 2) rfl dL_law_3197 ?_
          refine lq_iadd C dL_law_3198 ?_
          refine lq_cast (.int (nI 2)) (congrArg Value.int (by decide)) ?_
          refine lq_sld C 2 (by decide) (by decide) dL_law_3199 ?_
          refine lq_cast (.int v2) (congrArg Value.int e_v2) ?_
          refine lq_aload_n C (i := 0) rfl 4 rfl dL_law_3200 ?_
          refine lq_iload C 0 rfl dL_law_3201 ?_
          refine lq_iconst C (x := nI 3) rfl dL_law_3203 ?_
          refine lq_iadd C dL_law_3204 ?_
          refine lq_cast (.int (nI 3)) (congrArg Value.int (by decide)) ?_
          refine lq_sld C 3 (by decide) (by decide) dL_law_3205 ?_
          refine lq_cast (.int (nI v3)) (congrArg Value.int e_v3) ?_
          refine lq_if_eq C 3213 (by decide) dL_law_3206 (fun c_ => absurd c_ (nI_ne0 (by omega) (by omega))) (fun _ => ?_)
          refine lq_iconst C (x := nI 1) rfl dL_law_3209 ?_
          refine lq_goto C 3214 (by decide) dL_law_3210 ?_
          refine lq_aload_n C (i := 0) rfl 4 rfl dL_law_3214 ?_
          refine lq_iload C 0 rfl dL_law_3215 ?_
          refine lq_iconst C (x := nI 4) rfl dL_law_3217 ?_
          refine lq_iadd C dL_law_3218 ?_
          refine lq_cast (.int (nI 4)) (congrArg Value.int (by decide)) ?_
          refine lq_sld C 4 (by decide) (by decide) dL_law_3219 ?_
          refine lq_cast (.int v4) (congrArg Value.int e_v4) ?_
          refine lq_aload_n C (i := 3) rfl 1 rfl dL_law_3220 ?_
          refine lq_callW C (z481_L_sortedAt l hlt S dp x out q22 v1 v2 v4 hneg_v1 hneg_v4 Fr_360_x Fk_x Fm_x Fi_386_q22 Fk_q22 Fm_q22) lH_371 rfl rfl ⟨by decide, by decide⟩ ⟨Nat.le_of_ble_eq_true rfl, Nat.le_of_ble_eq_true rfl⟩ rfl (Nat.le_of_ble_eq_true rfl) dL_law_3221 (fun r_3221 u_3221 h_3221 => ?_)
          obtain ⟨hr_3221, hu_3221⟩ := h_3221
          have hw_3221 := hu_3221.symm
          subst hw_3221
          have hx_3221 := hr_3221.symm
          subst hx_3221
          refine lq_istore C (lv' := [(5, .int (nI 1)), (4, .int (nI 0)), (3, .ref out), (2, .ref (a 0)), (1, .ref x), (0, .ref b)]) (by decide) rfl dL_law_3224 ?_
          refine lq_aload_n C (i := 2) rfl 3 rfl dL_law_3226 ?_
          refine lq_aload_n C (i := 0) rfl 5 rfl dL_law_3227 ?_
          refine lq_iload C 1 rfl dL_law_3228 ?_
          refine lq_iconst C (x := nI 1) rfl dL_law_3230 ?_
          refine lq_iadd C dL_law_3231 ?_
          refine lq_cast (.int (nI 1)) (congrArg Value.int (by decide)) ?_
          refine lq_sld C 1 (by decide) (by decide) dL_law_3232 ?_
          refine lq_cast (.int v1) (congrArg Value.int e_v1) ?_
          refine lq_aload_n C (i := 0) rfl 5 rfl dL_law_3233 ?_
          refine lq_iload C 1 rfl dL_law_3234 ?_
          refine lq_iconst C (x := nI 2) rfl dL_law_3236 ?_
          refine lq_iadd C dL_law_3237 ?_
          refine lq_cast (.int (nI 2)) (congrArg Value.int (by decide)) ?_
          refine lq_sld C 2 (by decide) (by decide) dL_law_3238 ?_
          refine lq_cast (.int v2) (congrArg Value.int e_v2) ?_
          refine lq_aload_n C (i := 0) rfl 5 rfl dL_law_3239 ?_
          refine lq_iload C 1 rfl dL_law_3240 ?_
          refine lq_iconst C (x := nI 3) rfl dL_law_3242 ?_
          refine lq_iadd C dL_law_3243 ?_
          refine lq_cast (.int (nI 3)) (congrArg Value.int (by decide)) ?_
          refine lq_sld C 3 (by decide) (by decide) dL_law_3244 ?_
          refine lq_cast (.int (nI v3)) (congrArg Value.int e_v3) ?_
          refine lq_if_eq C 3252 (by decide) dL_law_3245 (fun c_ => absurd c_ (nI_ne0 (by omega) (by omega))) (fun _ => ?_)
          refine lq_iconst C (x := nI 1) rfl dL_law_3248 ?_
          refine lq_goto C 3253 (by decide) dL_law_3249 ?_
          refine lq_aload_n C (i := 0) rfl 5 rfl dL_law_3253 ?_
          refine lq_iload C 1 rfl dL_law_3254 ?_
          refine lq_iconst C (x := nI 4) rfl dL_law_3256 ?_
          refine lq_iadd C dL_law_3257 ?_
          refine lq_cast (.int (nI 4)) (congrArg Value.int (by decide)) ?_
          refine lq_sld C 4 (by decide) (by decide) dL_law_3258 ?_
          refine lq_cast (.int v4) (congrArg Value.int e_v4) ?_
          refine lq_doM C (w264_sortedAt l v f g v1 v2 v4 hneg_v1 hneg_v4) lM_374 rfl rfl ⟨by decide, by decide⟩ ⟨Nat.le_of_ble_eq_true rfl, Nat.le_of_ble_eq_true rfl⟩ rfl (Nat.le_of_ble_eq_true rfl) dL_law_3259 ?_
          refine lq_istore C (lv' := [(6, .int (nI 0)), (5, .int (nI 1)), (4, .int (nI 0)), (3, .ref out), (2, .ref (a 0)), (1, .ref x), (0, .ref b)]) (by decide) rfl dL_law_3262 ?_
          refine lq_aload_n C (i := 2) rfl 4 rfl dL_law_3264 ?_
          refine lq_doM C (w4_thrown l (upd v 99 (nI 1)) f g rfl) lM_192 rfl rfl ⟨by decide, by decide⟩ ⟨Nat.le_of_ble_eq_true rfl, Nat.le_of_ble_eq_true rfl⟩ rfl (Nat.le_of_ble_eq_true rfl) dL_law_3265 ?_
          refine lq_iload C 1 rfl dL_law_3268 ?_
          refine lq_icmp_eq C 3275 (by decide) dL_law_3270 (fun _ => ?_) (fun c_ => absurd (by decide) c_)
          refine lq_iload C 1 rfl dL_law_3275 ?_
          refine lq_if_ne C 3292 (by decide) dL_law_3277 (fun _ => ?_) (fun c_ => absurd c_ (by decide))
          refine lq_goto C 3491 (by decide) dL_law_3292 ?_
          exact lq_sub [2, 6] rfl (law_tail C (Nat.le_of_ble_eq_true rfl) (Nat.le_of_ble_eq_true rfl))
        · obtain ⟨v2, e_v2⟩ : ∃ z : Int32, xs 2 = z := ⟨_, rfl⟩
          obtain ⟨v5, e_v5⟩ : ∃ z : Int32, xs 5 = z := ⟨_, rfl⟩
          refine lq_aload_n C (i := 1) rfl 3 rfl dL_law_3187 ?_
          refine lq_aload_n C (i := 0) rfl 4 rfl dL_law_3188 ?_
          refine lq_iload C 0 rfl dL_law_3189 ?_
          refine lq_iconst C (x := nI 1) rfl dL_law_3191 ?_
          refine lq_iadd C dL_law_3192 ?_
          refine lq_cast (.int (nI 1)) (congrArg Value.int (by decide)) ?_
          refine lq_sld C 1 (by decide) (by decide) dL_law_3193 ?_
          refine lq_cast (.int v1) (congrArg Value.int e_v1) ?_
          refine lq_aload_n C (i := 0) rfl 4 rfl dL_law_3194 ?_
          refine lq_iload C 0 rfl dL_law_3195 ?_
          refine lq_iconst C (x := nI 2) rfl dL_law_3197 ?_
          refine lq_iadd C dL_law_3198 ?_
          refine lq_cast (.int (nI 2)) (congrArg Value.int (by decide)) ?_
          refine lq_sld C 2 (by decide) (by decide) dL_law_3199 ?_
          refine lq_cast (.int v2) (congrArg Value.int e_v2) ?_
          refine lq_aload_n C (i := 0) rfl 4 rfl dL_law_3200 ?_
          refine lq_iload C 0 rfl dL_law_3201 ?_
          refine lq_iconst C (x := nI 3) rfl dL_law_3203 ?_
          refine lq_iadd C dL_law_3204 ?_
          refine lq_cast (.int (nI 3)) (congrArg Value.int (by decide)) ?_
          refine lq_sld C 3 (by decide) (by decide) dL_law_3205 ?_
          refine lq_cast (.int (nI v3)) (congrArg Value.int e_v3) ?_
          refine lq_if_eq C 3213 (by decide) dL_law_3206 (fun c_ => absurd c_ (nI_ne0 (by omega) (by omega))) (fun _ => ?_)
          refine lq_iconst C (x := nI 1) rfl dL_law_3209 ?_
          refine lq_goto C 3214 (by decide) dL_law_3210 ?_
          refine lq_aload_n C (i := 0) rfl 4 rfl dL_law_3214 ?_
          refine lq_iload C 0 rfl dL_law_3215 ?_
          refine lq_iconst C (x := nI 4) rfl dL_law_3217 ?_
          refine lq_iadd C dL_law_3218 ?_
          refine lq_cast (.int (nI 4)) (congrArg Value.int (by decide)) ?_
          refine lq_sld C 4 (by decide) (by decide) dL_law_3219 ?_
          refine lq_cast (.int (nI v4)) (congrArg Value.int e_v4) ?_
          refine lq_aload_n C (i := 3) rfl 1 rfl dL_law_3220 ?_
          refine lq_callW C (z483_L_sortedAt l hlt S dp x out q22 v4 v1 v2 hneg_v1 (by omega) Fr_360_x Fk_x Fm_x Fi_386_q22 Fk_q22 Fm_q22) lH_371 rfl rfl ⟨by decide, by decide⟩ ⟨Nat.le_of_ble_eq_true rfl, Nat.le_of_ble_eq_true rfl⟩ rfl (Nat.le_of_ble_eq_true rfl) dL_law_3221 (fun r_3221 u_3221 h_3221 => ?_)
          obtain ⟨hr_3221, hu_3221⟩ := h_3221
          have hw_3221 := hu_3221.symm
          subst hw_3221
          have hx_3221 := hr_3221.symm
          subst hx_3221
          refine lq_istore C (lv' := [(5, .int (nI 1)), (4, .int (nI 0)), (3, .ref out), (2, .ref (a 0)), (1, .ref x), (0, .ref b)]) (by decide) rfl dL_law_3224 ?_
          refine lq_aload_n C (i := 2) rfl 3 rfl dL_law_3226 ?_
          refine lq_aload_n C (i := 0) rfl 5 rfl dL_law_3227 ?_
          refine lq_iload C 1 rfl dL_law_3228 ?_
          refine lq_iconst C (x := nI 1) rfl dL_law_3230 ?_
          refine lq_iadd C dL_law_3231 ?_
          refine lq_cast (.int (nI 1)) (congrArg Value.int (by decide)) ?_
          refine lq_sld C 1 (by decide) (by decide) dL_law_3232 ?_
          refine lq_cast (.int v1) (congrArg Value.int e_v1) ?_
          refine lq_aload_n C (i := 0) rfl 5 rfl dL_law_3233 ?_
          refine lq_iload C 1 rfl dL_law_3234 ?_
          refine lq_iconst C (x := nI 2) rfl dL_law_3236 ?_
          refine lq_iadd C dL_law_3237 ?_
          refine lq_cast (.int (nI 2)) (congrArg Value.int (by decide)) ?_
          refine lq_sld C 2 (by decide) (by decide) dL_law_3238 ?_
          refine lq_cast (.int v2) (congrArg Value.int e_v2) ?_
          refine lq_aload_n C (i := 0) rfl 5 rfl dL_law_3239 ?_
          refine lq_iload C 1 rfl dL_law_3240 ?_
          refine lq_iconst C (x := nI 3) rfl dL_law_3242 ?_
          refine lq_iadd C dL_law_3243 ?_
          refine lq_cast (.int (nI 3)) (congrArg Value.int (by decide)) ?_
          refine lq_sld C 3 (by decide) (by decide) dL_law_3244 ?_
          refine lq_cast (.int (nI v3)) (congrArg Value.int e_v3) ?_
          refine lq_if_eq C 3252 (by decide) dL_law_3245 (fun c_ => absurd c_ (nI_ne0 (by omega) (by omega))) (fun _ => ?_)
          refine lq_iconst C (x := nI 1) rfl dL_law_3248 ?_
          refine lq_goto C 3253 (by decide) dL_law_3249 ?_
          refine lq_aload_n C (i := 0) rfl 5 rfl dL_law_3253 ?_
          refine lq_iload C 1 rfl dL_law_3254 ?_
          refine lq_iconst C (x := nI 4) rfl dL_law_3256 ?_
          refine lq_iadd C dL_law_3257 ?_
          refine lq_cast (.int (nI 4)) (congrArg Value.int (by decide)) ?_
          refine lq_sld C 4 (by decide) (by decide) dL_law_3258 ?_
          refine lq_cast (.int (nI v4)) (congrArg Value.int e_v4) ?_
          refine lq_doM C (w265_sortedAt l v f g v4 v1 v2 hneg_v1 (by omega)) lM_374 rfl rfl ⟨by decide, by decide⟩ ⟨Nat.le_of_ble_eq_true rfl, Nat.le_of_ble_eq_true rfl⟩ rfl (Nat.le_of_ble_eq_true rfl) dL_law_3259 ?_
          refine lq_istore C (lv' := [(6, .int (nI 0)), (5, .int (nI 1)), (4, .int (nI 0)), (3, .ref out), (2, .ref (a 0)), (1, .ref x), (0, .ref b)]) (by decide) rfl dL_law_3262 ?_
          refine lq_aload_n C (i := 2) rfl 4 rfl dL_law_3264 ?_
          refine lq_doM C (w4_thrown l (upd v 99 (nI 1)) f g rfl) lM_192 rfl rfl ⟨by decide, by decide⟩ ⟨Nat.le_of_ble_eq_true rfl, Nat.le_of_ble_eq_true rfl⟩ rfl (Nat.le_of_ble_eq_true rfl) dL_law_3265 ?_
          refine lq_iload C 1 rfl dL_law_3268 ?_
          refine lq_icmp_eq C 3275 (by decide) dL_law_3270 (fun _ => ?_) (fun c_ => absurd (by decide) c_)
          refine lq_iload C 1 rfl dL_law_3275 ?_
          refine lq_if_ne C 3292 (by decide) dL_law_3277 (fun _ => ?_) (fun c_ => absurd c_ (by decide))
          refine lq_goto C 3491 (by decide) dL_law_3292 ?_
          exact lq_sub [2, 6] rfl (law_tail C (Nat.le_of_ble_eq_true rfl) (Nat.le_of_ble_eq_true rfl))
      · rcases c_sgn (xs 4) with hneg_v4 | ⟨v4, hr_v4, e_v4⟩
        · obtain ⟨v4, e_v4⟩ : ∃ z : Int32, xs 4 = z := ⟨_, rfl⟩
          rw [e_v4] at hneg_v4
          obtain ⟨v2, e_v2⟩ : ∃ z : Int32, xs 2 = z := ⟨_, rfl⟩
          obtain ⟨v5, e_v5⟩ : ∃ z : Int32, xs 5 = z := ⟨_, rfl⟩
          refine lq_aload_n C (i := 1) rfl 3 rfl dL_law_3187 ?_
          refine lq_aload_n C (i := 0) rfl 4 rfl dL_law_3188 ?_
          refine lq_iload C 0 rfl dL_law_3189 ?_
          refine lq_iconst C (x := nI 1) rfl dL_law_3191 ?_
          refine lq_iadd C dL_law_3192 ?_
          refine lq_cast (.int (nI 1)) (congrArg Value.int (by decide)) ?_
          refine lq_sld C 1 (by decide) (by decide) dL_law_3193 ?_
          refine lq_cast (.int (nI v1)) (congrArg Value.int e_v1) ?_
          refine lq_aload_n C (i := 0) rfl 4 rfl dL_law_3194 ?_
          refine lq_iload C 0 rfl dL_law_3195 ?_
          refine lq_iconst C (x := nI 2) rfl dL_law_3197 ?_
          refine lq_iadd C dL_law_3198 ?_
          refine lq_cast (.int (nI 2)) (congrArg Value.int (by decide)) ?_
          refine lq_sld C 2 (by decide) (by decide) dL_law_3199 ?_
          refine lq_cast (.int v2) (congrArg Value.int e_v2) ?_
          refine lq_aload_n C (i := 0) rfl 4 rfl dL_law_3200 ?_
          refine lq_iload C 0 rfl dL_law_3201 ?_
          refine lq_iconst C (x := nI 3) rfl dL_law_3203 ?_
          refine lq_iadd C dL_law_3204 ?_
          refine lq_cast (.int (nI 3)) (congrArg Value.int (by decide)) ?_
          refine lq_sld C 3 (by decide) (by decide) dL_law_3205 ?_
          refine lq_cast (.int (nI v3)) (congrArg Value.int e_v3) ?_
          refine lq_if_eq C 3213 (by decide) dL_law_3206 (fun c_ => absurd c_ (nI_ne0 (by omega) (by omega))) (fun _ => ?_)
          refine lq_iconst C (x := nI 1) rfl dL_law_3209 ?_
          refine lq_goto C 3214 (by decide) dL_law_3210 ?_
          refine lq_aload_n C (i := 0) rfl 4 rfl dL_law_3214 ?_
          refine lq_iload C 0 rfl dL_law_3215 ?_
          refine lq_iconst C (x := nI 4) rfl dL_law_3217 ?_
          refine lq_iadd C dL_law_3218 ?_
          refine lq_cast (.int (nI 4)) (congrArg Value.int (by decide)) ?_
          refine lq_sld C 4 (by decide) (by decide) dL_law_3219 ?_
          refine lq_cast (.int v4) (congrArg Value.int e_v4) ?_
          refine lq_aload_n C (i := 3) rfl 1 rfl dL_law_3220 ?_
          refine lq_callW C (z487_L_sortedAt l hlt S dp x out q22 v1 v2 v4 (by omega) hneg_v4 Fr_360_x Fk_x Fm_x Fi_386_q22 Fk_q22 Fm_q22) lH_371 rfl rfl ⟨by decide, by decide⟩ ⟨Nat.le_of_ble_eq_true rfl, Nat.le_of_ble_eq_true rfl⟩ rfl (Nat.le_of_ble_eq_true rfl) dL_law_3221 (fun r_3221 u_3221 h_3221 => ?_)
          obtain ⟨hr_3221, hu_3221⟩ := h_3221
          have hw_3221 := hu_3221.symm
          subst hw_3221
          have hx_3221 := hr_3221.symm
          subst hx_3221
          refine lq_istore C (lv' := [(5, .int (nI 1)), (4, .int (nI 0)), (3, .ref out), (2, .ref (a 0)), (1, .ref x), (0, .ref b)]) (by decide) rfl dL_law_3224 ?_
          refine lq_aload_n C (i := 2) rfl 3 rfl dL_law_3226 ?_
          refine lq_aload_n C (i := 0) rfl 5 rfl dL_law_3227 ?_
          refine lq_iload C 1 rfl dL_law_3228 ?_
          refine lq_iconst C (x := nI 1) rfl dL_law_3230 ?_
          refine lq_iadd C dL_law_3231 ?_
          refine lq_cast (.int (nI 1)) (congrArg Value.int (by decide)) ?_
          refine lq_sld C 1 (by decide) (by decide) dL_law_3232 ?_
          refine lq_cast (.int (nI v1)) (congrArg Value.int e_v1) ?_
          refine lq_aload_n C (i := 0) rfl 5 rfl dL_law_3233 ?_
          refine lq_iload C 1 rfl dL_law_3234 ?_
          refine lq_iconst C (x := nI 2) rfl dL_law_3236 ?_
          refine lq_iadd C dL_law_3237 ?_
          refine lq_cast (.int (nI 2)) (congrArg Value.int (by decide)) ?_
          refine lq_sld C 2 (by decide) (by decide) dL_law_3238 ?_
          refine lq_cast (.int v2) (congrArg Value.int e_v2) ?_
          refine lq_aload_n C (i := 0) rfl 5 rfl dL_law_3239 ?_
          refine lq_iload C 1 rfl dL_law_3240 ?_
          refine lq_iconst C (x := nI 3) rfl dL_law_3242 ?_
          refine lq_iadd C dL_law_3243 ?_
          refine lq_cast (.int (nI 3)) (congrArg Value.int (by decide)) ?_
          refine lq_sld C 3 (by decide) (by decide) dL_law_3244 ?_
          refine lq_cast (.int (nI v3)) (congrArg Value.int e_v3) ?_
          refine lq_if_eq C 3252 (by decide) dL_law_3245 (fun c_ => absurd c_ (nI_ne0 (by omega) (by omega))) (fun _ => ?_)
          refine lq_iconst C (x := nI 1) rfl dL_law_3248 ?_
          refine lq_goto C 3253 (by decide) dL_law_3249 ?_
          refine lq_aload_n C (i := 0) rfl 5 rfl dL_law_3253 ?_
          refine lq_iload C 1 rfl dL_law_3254 ?_
          refine lq_iconst C (x := nI 4) rfl dL_law_3256 ?_
          refine lq_iadd C dL_law_3257 ?_
          refine lq_cast (.int (nI 4)) (congrArg Value.int (by decide)) ?_
          refine lq_sld C 4 (by decide) (by decide) dL_law_3258 ?_
          refine lq_cast (.int v4) (congrArg Value.int e_v4) ?_
          refine lq_doM C (w266_sortedAt l v f g v1 v2 v4 (by omega) hneg_v4 Mf_29_0 Mf_29_1 Mf_29_2 Mf_29_3 Mf_29_4) lM_374 rfl rfl ⟨by decide, by decide⟩ ⟨Nat.le_of_ble_eq_true rfl, Nat.le_of_ble_eq_true rfl⟩ rfl (Nat.le_of_ble_eq_true rfl) dL_law_3259 ?_
          refine lq_istore C (lv' := [(6, .int (nI 0)), (5, .int (nI 1)), (4, .int (nI 0)), (3, .ref out), (2, .ref (a 0)), (1, .ref x), (0, .ref b)]) (by decide) rfl dL_law_3262 ?_
          refine lq_aload_n C (i := 2) rfl 4 rfl dL_law_3264 ?_
          refine lq_doM C (w4_thrown l (upd v 99 (nI 1)) f g rfl) lM_192 rfl rfl ⟨by decide, by decide⟩ ⟨Nat.le_of_ble_eq_true rfl, Nat.le_of_ble_eq_true rfl⟩ rfl (Nat.le_of_ble_eq_true rfl) dL_law_3265 ?_
          refine lq_iload C 1 rfl dL_law_3268 ?_
          refine lq_icmp_eq C 3275 (by decide) dL_law_3270 (fun _ => ?_) (fun c_ => absurd (by decide) c_)
          refine lq_iload C 1 rfl dL_law_3275 ?_
          refine lq_if_ne C 3292 (by decide) dL_law_3277 (fun _ => ?_) (fun c_ => absurd c_ (by decide))
          refine lq_goto C 3491 (by decide) dL_law_3292 ?_
          exact lq_sub [2, 6] rfl (law_tail C (Nat.le_of_ble_eq_true rfl) (Nat.le_of_ble_eq_true rfl))
        · obtain ⟨v2, e_v2⟩ : ∃ z : Int32, xs 2 = z := ⟨_, rfl⟩
          obtain ⟨v5, e_v5⟩ : ∃ z : Int32, xs 5 = z := ⟨_, rfl⟩
          refine lq_aload_n C (i := 1) rfl 3 rfl dL_law_3187 ?_
          refine lq_aload_n C (i := 0) rfl 4 rfl dL_law_3188 ?_
          refine lq_iload C 0 rfl dL_law_3189 ?_
          refine lq_iconst C (x := nI 1) rfl dL_law_3191 ?_
          refine lq_iadd C dL_law_3192 ?_
          refine lq_cast (.int (nI 1)) (congrArg Value.int (by decide)) ?_
          refine lq_sld C 1 (by decide) (by decide) dL_law_3193 ?_
          refine lq_cast (.int (nI v1)) (congrArg Value.int e_v1) ?_
          refine lq_aload_n C (i := 0) rfl 4 rfl dL_law_3194 ?_
          refine lq_iload C 0 rfl dL_law_3195 ?_
          refine lq_iconst C (x := nI 2) rfl dL_law_3197 ?_
          refine lq_iadd C dL_law_3198 ?_
          refine lq_cast (.int (nI 2)) (congrArg Value.int (by decide)) ?_
          refine lq_sld C 2 (by decide) (by decide) dL_law_3199 ?_
          refine lq_cast (.int v2) (congrArg Value.int e_v2) ?_
          refine lq_aload_n C (i := 0) rfl 4 rfl dL_law_3200 ?_
          refine lq_iload C 0 rfl dL_law_3201 ?_
          refine lq_iconst C (x := nI 3) rfl dL_law_3203 ?_
          refine lq_iadd C dL_law_3204 ?_
          refine lq_cast (.int (nI 3)) (congrArg Value.int (by decide)) ?_
          refine lq_sld C 3 (by decide) (by decide) dL_law_3205 ?_
          refine lq_cast (.int (nI v3)) (congrArg Value.int e_v3) ?_
          refine lq_if_eq C 3213 (by decide) dL_law_3206 (fun c_ => absurd c_ (nI_ne0 (by omega) (by omega))) (fun _ => ?_)
          refine lq_iconst C (x := nI 1) rfl dL_law_3209 ?_
          refine lq_goto C 3214 (by decide) dL_law_3210 ?_
          refine lq_aload_n C (i := 0) rfl 4 rfl dL_law_3214 ?_
          refine lq_iload C 0 rfl dL_law_3215 ?_
          refine lq_iconst C (x := nI 4) rfl dL_law_3217 ?_
          refine lq_iadd C dL_law_3218 ?_
          refine lq_cast (.int (nI 4)) (congrArg Value.int (by decide)) ?_
          refine lq_sld C 4 (by decide) (by decide) dL_law_3219 ?_
          refine lq_cast (.int (nI v4)) (congrArg Value.int e_v4) ?_
          refine lq_aload_n C (i := 3) rfl 1 rfl dL_law_3220 ?_
          refine lq_callW C (z489_L_sortedAt l hlt S dp x out q22 v1 v4 v2 (by omega) (by omega) Fr_360_x Fk_x Fm_x Fi_386_q22 Fk_q22 Fm_q22) lH_371 rfl rfl ⟨by decide, by decide⟩ ⟨Nat.le_of_ble_eq_true rfl, Nat.le_of_ble_eq_true rfl⟩ rfl (Nat.le_of_ble_eq_true rfl) dL_law_3221 (fun r_3221 u_3221 h_3221 => ?_)
          obtain ⟨hr_3221, hu_3221⟩ := h_3221
          have hw_3221 := hu_3221.symm
          subst hw_3221
          have hx_3221 := hr_3221.symm
          subst hx_3221
          refine lq_istore C (lv' := [(5, .int (nI 1)), (4, .int (nI 0)), (3, .ref out), (2, .ref (a 0)), (1, .ref x), (0, .ref b)]) (by decide) rfl dL_law_3224 ?_
          refine lq_aload_n C (i := 2) rfl 3 rfl dL_law_3226 ?_
          refine lq_aload_n C (i := 0) rfl 5 rfl dL_law_3227 ?_
          refine lq_iload C 1 rfl dL_law_3228 ?_
          refine lq_iconst C (x := nI 1) rfl dL_law_3230 ?_
          refine lq_iadd C dL_law_3231 ?_
          refine lq_cast (.int (nI 1)) (congrArg Value.int (by decide)) ?_
          refine lq_sld C 1 (by decide) (by decide) dL_law_3232 ?_
          refine lq_cast (.int (nI v1)) (congrArg Value.int e_v1) ?_
          refine lq_aload_n C (i := 0) rfl 5 rfl dL_law_3233 ?_
          refine lq_iload C 1 rfl dL_law_3234 ?_
          refine lq_iconst C (x := nI 2) rfl dL_law_3236 ?_
          refine lq_iadd C dL_law_3237 ?_
          refine lq_cast (.int (nI 2)) (congrArg Value.int (by decide)) ?_
          refine lq_sld C 2 (by decide) (by decide) dL_law_3238 ?_
          refine lq_cast (.int v2) (congrArg Value.int e_v2) ?_
          refine lq_aload_n C (i := 0) rfl 5 rfl dL_law_3239 ?_
          refine lq_iload C 1 rfl dL_law_3240 ?_
          refine lq_iconst C (x := nI 3) rfl dL_law_3242 ?_
          refine lq_iadd C dL_law_3243 ?_
          refine lq_cast (.int (nI 3)) (congrArg Value.int (by decide)) ?_
          refine lq_sld C 3 (by decide) (by decide) dL_law_3244 ?_
          refine lq_cast (.int (nI v3)) (congrArg Value.int e_v3) ?_
          refine lq_if_eq C 3252 (by decide) dL_law_3245 (fun c_ => absurd c_ (nI_ne0 (by omega) (by omega))) (fun _ => ?_)
          refine lq_iconst C (x := nI 1) rfl dL_law_3248 ?_
          refine lq_goto C 3253 (by decide) dL_law_3249 ?_
          refine lq_aload_n C (i := 0) rfl 5 rfl dL_law_3253 ?_
          refine lq_iload C 1 rfl dL_law_3254 ?_
          refine lq_iconst C (x := nI 4) rfl dL_law_3256 ?_
          refine lq_iadd C dL_law_3257 ?_
          refine lq_cast (.int (nI 4)) (congrArg Value.int (by decide)) ?_
          refine lq_sld C 4 (by decide) (by decide) dL_law_3258 ?_
          refine lq_cast (.int (nI v4)) (congrArg Value.int e_v4) ?_
          refine lq_doM C (w267_sortedAt l v f g v1 v4 v2 (by omega) (by omega) Mf_29_0 Mf_29_1 Mf_29_2 Mf_29_3 Mf_29_4) lM_374 rfl rfl ⟨by decide, by decide⟩ ⟨Nat.le_of_ble_eq_true rfl, Nat.le_of_ble_eq_true rfl⟩ rfl (Nat.le_of_ble_eq_true rfl) dL_law_3259 ?_
          refine lq_istore C (lv' := [(6, .int (nI 0)), (5, .int (nI 1)), (4, .int (nI 0)), (3, .ref out), (2, .ref (a 0)), (1, .ref x), (0, .ref b)]) (by decide) rfl dL_law_3262 ?_
          refine lq_aload_n C (i := 2) rfl 4 rfl dL_law_3264 ?_
          refine lq_doM C (w4_thrown l (upd v 99 (nI 1)) f g rfl) lM_192 rfl rfl ⟨by decide, by decide⟩ ⟨Nat.le_of_ble_eq_true rfl, Nat.le_of_ble_eq_true rfl⟩ rfl (Nat.le_of_ble_eq_true rfl) dL_law_3265 ?_
          refine lq_iload C 1 rfl dL_law_3268 ?_
          refine lq_icmp_eq C 3275 (by decide) dL_law_3270 (fun _ => ?_) (fun c_ => absurd (by decide) c_)
          refine lq_iload C 1 rfl dL_law_3275 ?_
          refine lq_if_ne C 3292 (by decide) dL_law_3277 (fun _ => ?_) (fun c_ => absurd c_ (by decide))
          refine lq_goto C 3491 (by decide) dL_law_3292 ?_
          exact lq_sub [2, 6] rfl (law_tail C (Nat.le_of_ble_eq_true rfl) (Nat.le_of_ble_eq_true rfl))
set_option maxHeartbeats 8000000 in
set_option maxRecDepth 100000 in
theorem law_case55 (C : lC p l s m meth c b 6 xs D Y tp dp) {S : cS} {a : Nat → Nat} {v : Nat → Int32} {f : Nat → Nat → Int32} {g : Nat → Nat → Int64} {x out q1 q2 q3 q10 q11 q15 q19 q20 q21 q22 q23 q29 q30 q37 : Nat} (F : cFr S dp x out q1 q2 q3 q10 q11 q15 q19 q20 q21 q22 q23 q29 q30 q37) (M : mFr v f g) : lG p l e s m below meth c b D Y 174 409927 3295 [(4, .int (nI 0)), (3, .ref out), (2, .ref (a 0)), (1, .ref x), (0, .ref b)] [] S a v f g := by
  have hlt := C.2.2.2.2.2.2.2.2.2.2.1
  obtain ⟨FeI_q30_0, FeI_q30_1, Fi_195_q23, Fi_289_q11, Fi_289_q15, Fi_289_q2, Fi_33_q37, Fi_361_x, Fi_366_x, Fi_368_x, Fi_369_x, Fi_36_q37, Fi_370_x, Fi_37_q37, Fi_384_q19, Fi_384_q22, Fi_386_q19, Fi_386_q21, Fi_386_q22, Fk_out, Fk_q1, Fk_q10, Fk_q11, Fk_q15, Fk_q19, Fk_q2, Fk_q20, Fk_q21, Fk_q22, Fk_q23, Fk_q29, Fk_q3, Fk_q30, Fk_q37, Fk_x, Fm_out, Fm_q1, Fm_q10, Fm_q11, Fm_q15, Fm_q19, Fm_q2, Fm_q20, Fm_q21, Fm_q22, Fm_q23, Fm_q29, Fm_q3, Fm_q30, Fm_q37, Fm_x, Fn_out, Fn_q3, Fn_q30, Fr_224_q29, Fr_288_q2, Fr_321_q20, Fr_352_x, Fr_353_x, Fr_354_x, Fr_355_x, Fr_356_x, Fr_358_x, Fr_359_x, Fr_360_x, Fr_362_x, Fr_364_x, Fr_365_x, Fr_385_q19, Fr_385_q22, Fr_3_q10, Fr_4_q10, Fr_96_q1⟩ := F
  obtain ⟨Mall_21, Mall_22, Mf_29_0, Mf_29_1, Mf_29_2, Mf_29_3, Mf_29_4, Mf_49_0, Mf_49_1, Mf_8_0, Mf_8_1, Mg_7_0, Mg_7_1, Mg_7_10, Mg_7_11, Mg_7_12, Mg_7_13, Mg_7_14, Mg_7_15, Mg_7_16, Mg_7_17, Mg_7_18, Mg_7_19, Mg_7_2, Mg_7_20, Mg_7_21, Mg_7_22, Mg_7_23, Mg_7_24, Mg_7_25, Mg_7_26, Mg_7_27, Mg_7_28, Mg_7_29, Mg_7_3, Mg_7_30, Mg_7_31, Mg_7_32, Mg_7_33, Mg_7_34, Mg_7_35, Mg_7_36, Mg_7_37, Mg_7_38, Mg_7_39, Mg_7_4, Mg_7_5, Mg_7_6, Mg_7_7, Mg_7_8, Mg_7_9, Mv_13, Mv_14, Mv_2, Mv_20, Mv_29, Mv_34, Mv_35, Mv_40, Mv_48, Mv_49, Mv_72, Mv_88, Mv_89, Mv_90, Mv_96, Mv_97, Mv_98⟩ := M
  rcases c_sgn (xs 1) with hneg_v1 | ⟨v1, hr_v1, e_v1⟩
  · obtain ⟨v1, e_v1⟩ : ∃ z : Int32, xs 1 = z := ⟨_, rfl⟩
    rw [e_v1] at hneg_v1
    obtain ⟨v2, e_v2⟩ : ∃ z : Int32, xs 2 = z := ⟨_, rfl⟩
    obtain ⟨v3, e_v3⟩ : ∃ z : Int32, xs 3 = z := ⟨_, rfl⟩
    obtain ⟨v4, e_v4⟩ : ∃ z : Int32, xs 4 = z := ⟨_, rfl⟩
    obtain ⟨v5, e_v5⟩ : ∃ z : Int32, xs 5 = z := ⟨_, rfl⟩
    refine lq_aload_n C (i := 1) rfl 3 rfl dL_law_3295 ?_
    refine lq_aload_n C (i := 0) rfl 4 rfl dL_law_3296 ?_
    refine lq_iload C 0 rfl dL_law_3297 ?_
    refine lq_iconst C (x := nI 1) rfl dL_law_3299 ?_
    refine lq_iadd C dL_law_3300 ?_
    refine lq_cast (.int (nI 1)) (congrArg Value.int (by decide)) ?_
    refine lq_sld C 1 (by decide) (by decide) dL_law_3301 ?_
    refine lq_cast (.int v1) (congrArg Value.int e_v1) ?_
    refine lq_aload_n C (i := 0) rfl 4 rfl dL_law_3302 ?_
    refine lq_iload C 0 rfl dL_law_3303 ?_
    refine lq_iconst C (x := nI 2) rfl dL_law_3305 ?_
    refine lq_iadd C dL_law_3306 ?_
    refine lq_cast (.int (nI 2)) (congrArg Value.int (by decide)) ?_
    refine lq_sld C 2 (by decide) (by decide) dL_law_3307 ?_
    refine lq_cast (.int v2) (congrArg Value.int e_v2) ?_
    refine lq_aload_n C (i := 0) rfl 4 rfl dL_law_3308 ?_
    refine lq_iload C 0 rfl dL_law_3309 ?_
    refine lq_iconst C (x := nI 3) rfl dL_law_3311 ?_
    refine lq_iadd C dL_law_3312 ?_
    refine lq_cast (.int (nI 3)) (congrArg Value.int (by decide)) ?_
    refine lq_sld C 3 (by decide) (by decide) dL_law_3313 ?_
    refine lq_cast (.int v3) (congrArg Value.int e_v3) ?_
    refine lq_aload_n C (i := 0) rfl 4 rfl dL_law_3314 ?_
    refine lq_iload C 0 rfl dL_law_3315 ?_
    refine lq_iconst C (x := nI 4) rfl dL_law_3317 ?_
    refine lq_iadd C dL_law_3318 ?_
    refine lq_cast (.int (nI 4)) (congrArg Value.int (by decide)) ?_
    refine lq_sld C 4 (by decide) (by decide) dL_law_3319 ?_
    refine lq_cast (.int v4) (congrArg Value.int e_v4) ?_
    refine lq_aload_n C (i := 3) rfl 1 rfl dL_law_3320 ?_
    refine lq_callW C (z507_L_passages l hlt S dp x out q22 v1 v2 v3 v4 hneg_v1 Fr_360_x Fk_x Fm_x Fi_386_q22 Fk_q22 Fm_q22) lH_375 rfl rfl ⟨by decide, by decide⟩ ⟨Nat.le_of_ble_eq_true rfl, Nat.le_of_ble_eq_true rfl⟩ rfl (Nat.le_of_ble_eq_true rfl) dL_law_3321 (fun r_3321 u_3321 h_3321 => ?_)
    obtain ⟨hr_3321, hu_3321⟩ := h_3321
    have hw_3321 := hu_3321.symm
    subst hw_3321
    have hx_3321 := hr_3321.symm
    subst hx_3321
    refine lq_istore C (lv' := [(5, .int (nI 1)), (4, .int (nI 0)), (3, .ref out), (2, .ref (a 0)), (1, .ref x), (0, .ref b)]) (by decide) rfl dL_law_3324 ?_
    refine lq_aload_n C (i := 2) rfl 3 rfl dL_law_3326 ?_
    refine lq_aload_n C (i := 0) rfl 5 rfl dL_law_3327 ?_
    refine lq_iload C 1 rfl dL_law_3328 ?_
    refine lq_iconst C (x := nI 1) rfl dL_law_3330 ?_
    refine lq_iadd C dL_law_3331 ?_
    refine lq_cast (.int (nI 1)) (congrArg Value.int (by decide)) ?_
    refine lq_sld C 1 (by decide) (by decide) dL_law_3332 ?_
    refine lq_cast (.int v1) (congrArg Value.int e_v1) ?_
    refine lq_aload_n C (i := 0) rfl 5 rfl dL_law_3333 ?_
    refine lq_iload C 1 rfl dL_law_3334 ?_
    refine lq_iconst C (x := nI 2) rfl dL_law_3336 ?_
    refine lq_iadd C dL_law_3337 ?_
    refine lq_cast (.int (nI 2)) (congrArg Value.int (by decide)) ?_
    refine lq_sld C 2 (by decide) (by decide) dL_law_3338 ?_
    refine lq_cast (.int v2) (congrArg Value.int e_v2) ?_
    refine lq_aload_n C (i := 0) rfl 5 rfl dL_law_3339 ?_
    refine lq_iload C 1 rfl dL_law_3340 ?_
    refine lq_iconst C (x := nI 3) rfl dL_law_3342 ?_
    refine lq_iadd C dL_law_3343 ?_
    refine lq_cast (.int (nI 3)) (congrArg Value.int (by decide)) ?_
    refine lq_sld C 3 (by decide) (by decide) dL_law_3344 ?_
    refine lq_cast (.int v3) (congrArg Value.int e_v3) ?_
    refine lq_aload_n C (i := 0) rfl 5 rfl dL_law_3345 ?_
    refine lq_iload C 1 rfl dL_law_3346 ?_
    refine lq_iconst C (x := nI 4) rfl dL_law_3348 ?_
    refine lq_iadd C dL_law_3349 ?_
    refine lq_cast (.int (nI 4)) (congrArg Value.int (by decide)) ?_
    refine lq_sld C 4 (by decide) (by decide) dL_law_3350 ?_
    refine lq_cast (.int v4) (congrArg Value.int e_v4) ?_
    refine lq_doM C (w273_passages l v f g v1 v2 v3 v4 hneg_v1) lM_377 rfl rfl ⟨by decide, by decide⟩ ⟨Nat.le_of_ble_eq_true rfl, Nat.le_of_ble_eq_true rfl⟩ rfl (Nat.le_of_ble_eq_true rfl) dL_law_3351 ?_
    refine lq_istore C (lv' := [(6, .int (nI 0)), (5, .int (nI 1)), (4, .int (nI 0)), (3, .ref out), (2, .ref (a 0)), (1, .ref x), (0, .ref b)]) (by decide) rfl dL_law_3354 ?_
    refine lq_aload_n C (i := 2) rfl 4 rfl dL_law_3356 ?_
    refine lq_doM C (w4_thrown l (upd v 99 (nI 1)) f g rfl) lM_192 rfl rfl ⟨by decide, by decide⟩ ⟨Nat.le_of_ble_eq_true rfl, Nat.le_of_ble_eq_true rfl⟩ rfl (Nat.le_of_ble_eq_true rfl) dL_law_3357 ?_
    refine lq_iload C 1 rfl dL_law_3360 ?_
    refine lq_icmp_eq C 3367 (by decide) dL_law_3362 (fun _ => ?_) (fun c_ => absurd (by decide) c_)
    refine lq_iload C 1 rfl dL_law_3367 ?_
    refine lq_if_ne C 3384 (by decide) dL_law_3369 (fun _ => ?_) (fun c_ => absurd c_ (by decide))
    refine lq_goto C 3491 (by decide) dL_law_3384 ?_
    exact lq_sub [2, 6] rfl (law_tail C (Nat.le_of_ble_eq_true rfl) (Nat.le_of_ble_eq_true rfl))
  · obtain ⟨v2, e_v2⟩ : ∃ z : Int32, xs 2 = z := ⟨_, rfl⟩
    obtain ⟨v3, e_v3⟩ : ∃ z : Int32, xs 3 = z := ⟨_, rfl⟩
    obtain ⟨v4, e_v4⟩ : ∃ z : Int32, xs 4 = z := ⟨_, rfl⟩
    obtain ⟨v5, e_v5⟩ : ∃ z : Int32, xs 5 = z := ⟨_, rfl⟩
    refine lq_aload_n C (i := 1) rfl 3 rfl dL_law_3295 ?_
    refine lq_aload_n C (i := 0) rfl 4 rfl dL_law_3296 ?_
    refine lq_iload C 0 rfl dL_law_3297 ?_
    refine lq_iconst C (x := nI 1) rfl dL_law_3299 ?_
    refine lq_iadd C dL_law_3300 ?_
    refine lq_cast (.int (nI 1)) (congrArg Value.int (by decide)) ?_
    refine lq_sld C 1 (by decide) (by decide) dL_law_3301 ?_
    refine lq_cast (.int (nI v1)) (congrArg Value.int e_v1) ?_
    refine lq_aload_n C (i := 0) rfl 4 rfl dL_law_3302 ?_
    refine lq_iload C 0 rfl dL_law_3303 ?_
    refine lq_iconst C (x := nI 2) rfl dL_law_3305 ?_
    refine lq_iadd C dL_law_3306 ?_
    refine lq_cast (.int (nI 2)) (congrArg Value.int (by decide)) ?_
    refine lq_sld C 2 (by decide) (by decide) dL_law_3307 ?_
    refine lq_cast (.int v2) (congrArg Value.int e_v2) ?_
    refine lq_aload_n C (i := 0) rfl 4 rfl dL_law_3308 ?_
    refine lq_iload C 0 rfl dL_law_3309 ?_
    refine lq_iconst C (x := nI 3) rfl dL_law_3311 ?_
    refine lq_iadd C dL_law_3312 ?_
    refine lq_cast (.int (nI 3)) (congrArg Value.int (by decide)) ?_
    refine lq_sld C 3 (by decide) (by decide) dL_law_3313 ?_
    refine lq_cast (.int v3) (congrArg Value.int e_v3) ?_
    refine lq_aload_n C (i := 0) rfl 4 rfl dL_law_3314 ?_
    refine lq_iload C 0 rfl dL_law_3315 ?_
    refine lq_iconst C (x := nI 4) rfl dL_law_3317 ?_
    refine lq_iadd C dL_law_3318 ?_
    refine lq_cast (.int (nI 4)) (congrArg Value.int (by decide)) ?_
    refine lq_sld C 4 (by decide) (by decide) dL_law_3319 ?_
    refine lq_cast (.int v4) (congrArg Value.int e_v4) ?_
    refine lq_aload_n C (i := 3) rfl 1 rfl dL_law_3320 ?_
    refine lq_callW C (z509_L_passages l hlt S dp x out q22 v1 v2 v3 v4 (by omega) Fr_360_x Fk_x Fm_x Fi_386_q22 Fk_q22 Fm_q22) lH_375 rfl rfl ⟨by decide, by decide⟩ ⟨Nat.le_of_ble_eq_true rfl, Nat.le_of_ble_eq_true rfl⟩ rfl (Nat.le_of_ble_eq_true rfl) dL_law_3321 (fun r_3321 u_3321 h_3321 => ?_)
    obtain ⟨hr_3321, hu_3321⟩ := h_3321
    have hw_3321 := hu_3321.symm
    subst hw_3321
    have hx_3321 := hr_3321.symm
    subst hx_3321
    refine lq_istore C (lv' := [(5, .int (nI 1)), (4, .int (nI 0)), (3, .ref out), (2, .ref (a 0)), (1, .ref x), (0, .ref b)]) (by decide) rfl dL_law_3324 ?_
    refine lq_aload_n C (i := 2) rfl 3 rfl dL_law_3326 ?_
    refine lq_aload_n C (i := 0) rfl 5 rfl dL_law_3327 ?_
    refine lq_iload C 1 rfl dL_law_3328 ?_
    refine lq_iconst C (x := nI 1) rfl dL_law_3330 ?_
    refine lq_iadd C dL_law_3331 ?_
    refine lq_cast (.int (nI 1)) (congrArg Value.int (by decide)) ?_
    refine lq_sld C 1 (by decide) (by decide) dL_law_3332 ?_
    refine lq_cast (.int (nI v1)) (congrArg Value.int e_v1) ?_
    refine lq_aload_n C (i := 0) rfl 5 rfl dL_law_3333 ?_
    refine lq_iload C 1 rfl dL_law_3334 ?_
    refine lq_iconst C (x := nI 2) rfl dL_law_3336 ?_
    refine lq_iadd C dL_law_3337 ?_
    refine lq_cast (.int (nI 2)) (congrArg Value.int (by decide)) ?_
    refine lq_sld C 2 (by decide) (by decide) dL_law_3338 ?_
    refine lq_cast (.int v2) (congrArg Value.int e_v2) ?_
    refine lq_aload_n C (i := 0) rfl 5 rfl dL_law_3339 ?_
    refine lq_iload C 1 rfl dL_law_3340 ?_
    refine lq_iconst C (x := nI 3) rfl dL_law_3342 ?_
    refine lq_iadd C dL_law_3343 ?_
    refine lq_cast (.int (nI 3)) (congrArg Value.int (by decide)) ?_
    refine lq_sld C 3 (by decide) (by decide) dL_law_3344 ?_
    refine lq_cast (.int v3) (congrArg Value.int e_v3) ?_
    refine lq_aload_n C (i := 0) rfl 5 rfl dL_law_3345 ?_
    refine lq_iload C 1 rfl dL_law_3346 ?_
    refine lq_iconst C (x := nI 4) rfl dL_law_3348 ?_
    refine lq_iadd C dL_law_3349 ?_
    refine lq_cast (.int (nI 4)) (congrArg Value.int (by decide)) ?_
    refine lq_sld C 4 (by decide) (by decide) dL_law_3350 ?_
    refine lq_cast (.int v4) (congrArg Value.int e_v4) ?_
    refine lq_doM C (w275_passages l v f g v1 v2 v3 v4 (by omega) Mf_29_0 Mf_29_1 Mf_29_2 Mf_29_3 Mf_29_4) lM_377 rfl rfl ⟨by decide, by decide⟩ ⟨Nat.le_of_ble_eq_true rfl, Nat.le_of_ble_eq_true rfl⟩ rfl (Nat.le_of_ble_eq_true rfl) dL_law_3351 ?_
    refine lq_istore C (lv' := [(6, .int (nI 0)), (5, .int (nI 1)), (4, .int (nI 0)), (3, .ref out), (2, .ref (a 0)), (1, .ref x), (0, .ref b)]) (by decide) rfl dL_law_3354 ?_
    refine lq_aload_n C (i := 2) rfl 4 rfl dL_law_3356 ?_
    refine lq_doM C (w4_thrown l (upd v 99 (nI 1)) f g rfl) lM_192 rfl rfl ⟨by decide, by decide⟩ ⟨Nat.le_of_ble_eq_true rfl, Nat.le_of_ble_eq_true rfl⟩ rfl (Nat.le_of_ble_eq_true rfl) dL_law_3357 ?_
    refine lq_iload C 1 rfl dL_law_3360 ?_
    refine lq_icmp_eq C 3367 (by decide) dL_law_3362 (fun _ => ?_) (fun c_ => absurd (by decide) c_)
    refine lq_iload C 1 rfl dL_law_3367 ?_
    refine lq_if_ne C 3384 (by decide) dL_law_3369 (fun _ => ?_) (fun c_ => absurd c_ (by decide))
    refine lq_goto C 3491 (by decide) dL_law_3384 ?_
    exact lq_sub [2, 6] rfl (law_tail C (Nat.le_of_ble_eq_true rfl) (Nat.le_of_ble_eq_true rfl))
set_option maxHeartbeats 8000000 in
set_option maxRecDepth 100000 in
theorem law_case56 (C : lC p l s m meth c b 6 xs D Y tp dp) {S : cS} {a : Nat → Nat} {v : Nat → Int32} {f : Nat → Nat → Int32} {g : Nat → Nat → Int64} {x out q1 q2 q3 q10 q11 q15 q19 q20 q21 q22 q23 q29 q30 q37 : Nat} (F : cFr S dp x out q1 q2 q3 q10 q11 q15 q19 q20 q21 q22 q23 q29 q30 q37) (M : mFr v f g) : lG p l e s m below meth c b D Y 174 409927 3387 [(4, .int (nI 0)), (3, .ref out), (2, .ref (a 0)), (1, .ref x), (0, .ref b)] [] S a v f g := by
  have hlt := C.2.2.2.2.2.2.2.2.2.2.1
  obtain ⟨FeI_q30_0, FeI_q30_1, Fi_195_q23, Fi_289_q11, Fi_289_q15, Fi_289_q2, Fi_33_q37, Fi_361_x, Fi_366_x, Fi_368_x, Fi_369_x, Fi_36_q37, Fi_370_x, Fi_37_q37, Fi_384_q19, Fi_384_q22, Fi_386_q19, Fi_386_q21, Fi_386_q22, Fk_out, Fk_q1, Fk_q10, Fk_q11, Fk_q15, Fk_q19, Fk_q2, Fk_q20, Fk_q21, Fk_q22, Fk_q23, Fk_q29, Fk_q3, Fk_q30, Fk_q37, Fk_x, Fm_out, Fm_q1, Fm_q10, Fm_q11, Fm_q15, Fm_q19, Fm_q2, Fm_q20, Fm_q21, Fm_q22, Fm_q23, Fm_q29, Fm_q3, Fm_q30, Fm_q37, Fm_x, Fn_out, Fn_q3, Fn_q30, Fr_224_q29, Fr_288_q2, Fr_321_q20, Fr_352_x, Fr_353_x, Fr_354_x, Fr_355_x, Fr_356_x, Fr_358_x, Fr_359_x, Fr_360_x, Fr_362_x, Fr_364_x, Fr_365_x, Fr_385_q19, Fr_385_q22, Fr_3_q10, Fr_4_q10, Fr_96_q1⟩ := F
  obtain ⟨Mall_21, Mall_22, Mf_29_0, Mf_29_1, Mf_29_2, Mf_29_3, Mf_29_4, Mf_49_0, Mf_49_1, Mf_8_0, Mf_8_1, Mg_7_0, Mg_7_1, Mg_7_10, Mg_7_11, Mg_7_12, Mg_7_13, Mg_7_14, Mg_7_15, Mg_7_16, Mg_7_17, Mg_7_18, Mg_7_19, Mg_7_2, Mg_7_20, Mg_7_21, Mg_7_22, Mg_7_23, Mg_7_24, Mg_7_25, Mg_7_26, Mg_7_27, Mg_7_28, Mg_7_29, Mg_7_3, Mg_7_30, Mg_7_31, Mg_7_32, Mg_7_33, Mg_7_34, Mg_7_35, Mg_7_36, Mg_7_37, Mg_7_38, Mg_7_39, Mg_7_4, Mg_7_5, Mg_7_6, Mg_7_7, Mg_7_8, Mg_7_9, Mv_13, Mv_14, Mv_2, Mv_20, Mv_29, Mv_34, Mv_35, Mv_40, Mv_48, Mv_49, Mv_72, Mv_88, Mv_89, Mv_90, Mv_96, Mv_97, Mv_98⟩ := M
  rcases c_sgn (xs 1) with hneg_v1 | ⟨v1, hr_v1, e_v1⟩
  · obtain ⟨v1, e_v1⟩ : ∃ z : Int32, xs 1 = z := ⟨_, rfl⟩
    rw [e_v1] at hneg_v1
    obtain ⟨v2, e_v2⟩ : ∃ z : Int32, xs 2 = z := ⟨_, rfl⟩
    obtain ⟨v3, e_v3⟩ : ∃ z : Int32, xs 3 = z := ⟨_, rfl⟩
    obtain ⟨v4, e_v4⟩ : ∃ z : Int32, xs 4 = z := ⟨_, rfl⟩
    obtain ⟨v5, e_v5⟩ : ∃ z : Int32, xs 5 = z := ⟨_, rfl⟩
    refine lq_aload_n C (i := 1) rfl 3 rfl dL_law_3387 ?_
    refine lq_aload_n C (i := 0) rfl 4 rfl dL_law_3388 ?_
    refine lq_iload C 0 rfl dL_law_3389 ?_
    refine lq_iconst C (x := nI 1) rfl dL_law_3391 ?_
    refine lq_iadd C dL_law_3392 ?_
    refine lq_cast (.int (nI 1)) (congrArg Value.int (by decide)) ?_
    refine lq_sld C 1 (by decide) (by decide) dL_law_3393 ?_
    refine lq_cast (.int v1) (congrArg Value.int e_v1) ?_
    refine lq_aload_n C (i := 0) rfl 4 rfl dL_law_3394 ?_
    refine lq_iload C 0 rfl dL_law_3395 ?_
    refine lq_iconst C (x := nI 2) rfl dL_law_3397 ?_
    refine lq_iadd C dL_law_3398 ?_
    refine lq_cast (.int (nI 2)) (congrArg Value.int (by decide)) ?_
    refine lq_sld C 2 (by decide) (by decide) dL_law_3399 ?_
    refine lq_cast (.int v2) (congrArg Value.int e_v2) ?_
    refine lq_aload_n C (i := 0) rfl 4 rfl dL_law_3400 ?_
    refine lq_iload C 0 rfl dL_law_3401 ?_
    refine lq_iconst C (x := nI 3) rfl dL_law_3403 ?_
    refine lq_iadd C dL_law_3404 ?_
    refine lq_cast (.int (nI 3)) (congrArg Value.int (by decide)) ?_
    refine lq_sld C 3 (by decide) (by decide) dL_law_3405 ?_
    refine lq_cast (.int v3) (congrArg Value.int e_v3) ?_
    refine lq_aload_n C (i := 0) rfl 4 rfl dL_law_3406 ?_
    refine lq_iload C 0 rfl dL_law_3407 ?_
    refine lq_iconst C (x := nI 4) rfl dL_law_3409 ?_
    refine lq_iadd C dL_law_3410 ?_
    refine lq_cast (.int (nI 4)) (congrArg Value.int (by decide)) ?_
    refine lq_sld C 4 (by decide) (by decide) dL_law_3411 ?_
    refine lq_cast (.int v4) (congrArg Value.int e_v4) ?_
    refine lq_aload_n C (i := 0) rfl 4 rfl dL_law_3412 ?_
    refine lq_iload C 0 rfl dL_law_3413 ?_
    refine lq_iconst C (x := nI 5) rfl dL_law_3415 ?_
    refine lq_iadd C dL_law_3416 ?_
    refine lq_cast (.int (nI 5)) (congrArg Value.int (by decide)) ?_
    refine lq_sld C 5 (by decide) (by decide) dL_law_3417 ?_
    refine lq_cast (.int v5) (congrArg Value.int e_v5) ?_
    refine lq_aload_n C (i := 3) rfl 1 rfl dL_law_3418 ?_
    refine lq_callW C (z513_L_passageAt l hlt S dp x out q22 v1 v2 v3 v4 v5 hneg_v1 Fr_360_x Fk_x Fm_x Fi_386_q22 Fk_q22 Fm_q22) lH_378 rfl rfl ⟨by decide, by decide⟩ ⟨Nat.le_of_ble_eq_true rfl, Nat.le_of_ble_eq_true rfl⟩ rfl (Nat.le_of_ble_eq_true rfl) dL_law_3419 (fun r_3419 u_3419 h_3419 => ?_)
    obtain ⟨hr_3419, hu_3419⟩ := h_3419
    have hw_3419 := hu_3419.symm
    subst hw_3419
    have hx_3419 := hr_3419.symm
    subst hx_3419
    refine lq_istore C (lv' := [(5, .int (nI 1)), (4, .int (nI 0)), (3, .ref out), (2, .ref (a 0)), (1, .ref x), (0, .ref b)]) (by decide) rfl dL_law_3422 ?_
    refine lq_aload_n C (i := 2) rfl 3 rfl dL_law_3424 ?_
    refine lq_aload_n C (i := 0) rfl 5 rfl dL_law_3425 ?_
    refine lq_iload C 1 rfl dL_law_3426 ?_
    refine lq_iconst C (x := nI 1) rfl dL_law_3428 ?_
    refine lq_iadd C dL_law_3429 ?_
    refine lq_cast (.int (nI 1)) (congrArg Value.int (by decide)) ?_
    refine lq_sld C 1 (by decide) (by decide) dL_law_3430 ?_
    refine lq_cast (.int v1) (congrArg Value.int e_v1) ?_
    refine lq_aload_n C (i := 0) rfl 5 rfl dL_law_3431 ?_
    refine lq_iload C 1 rfl dL_law_3432 ?_
    refine lq_iconst C (x := nI 2) rfl dL_law_3434 ?_
    refine lq_iadd C dL_law_3435 ?_
    refine lq_cast (.int (nI 2)) (congrArg Value.int (by decide)) ?_
    refine lq_sld C 2 (by decide) (by decide) dL_law_3436 ?_
    refine lq_cast (.int v2) (congrArg Value.int e_v2) ?_
    refine lq_aload_n C (i := 0) rfl 5 rfl dL_law_3437 ?_
    refine lq_iload C 1 rfl dL_law_3438 ?_
    refine lq_iconst C (x := nI 3) rfl dL_law_3440 ?_
    refine lq_iadd C dL_law_3441 ?_
    refine lq_cast (.int (nI 3)) (congrArg Value.int (by decide)) ?_
    refine lq_sld C 3 (by decide) (by decide) dL_law_3442 ?_
    refine lq_cast (.int v3) (congrArg Value.int e_v3) ?_
    refine lq_aload_n C (i := 0) rfl 5 rfl dL_law_3443 ?_
    refine lq_iload C 1 rfl dL_law_3444 ?_
    refine lq_iconst C (x := nI 4) rfl dL_law_3446 ?_
    refine lq_iadd C dL_law_3447 ?_
    refine lq_cast (.int (nI 4)) (congrArg Value.int (by decide)) ?_
    refine lq_sld C 4 (by decide) (by decide) dL_law_3448 ?_
    refine lq_cast (.int v4) (congrArg Value.int e_v4) ?_
    refine lq_aload_n C (i := 0) rfl 5 rfl dL_law_3449 ?_
    refine lq_iload C 1 rfl dL_law_3450 ?_
    refine lq_iconst C (x := nI 5) rfl dL_law_3452 ?_
    refine lq_iadd C dL_law_3453 ?_
    refine lq_cast (.int (nI 5)) (congrArg Value.int (by decide)) ?_
    refine lq_sld C 5 (by decide) (by decide) dL_law_3454 ?_
    refine lq_cast (.int v5) (congrArg Value.int e_v5) ?_
    refine lq_doM C (w276_passageAt l v f g v1 v2 v3 v4 v5 hneg_v1) lM_381 rfl rfl ⟨by decide, by decide⟩ ⟨Nat.le_of_ble_eq_true rfl, Nat.le_of_ble_eq_true rfl⟩ rfl (Nat.le_of_ble_eq_true rfl) dL_law_3455 ?_
    refine lq_istore C (lv' := [(6, .int (nI 0)), (5, .int (nI 1)), (4, .int (nI 0)), (3, .ref out), (2, .ref (a 0)), (1, .ref x), (0, .ref b)]) (by decide) rfl dL_law_3458 ?_
    refine lq_aload_n C (i := 2) rfl 4 rfl dL_law_3460 ?_
    refine lq_doM C (w4_thrown l (upd v 99 (nI 1)) f g rfl) lM_192 rfl rfl ⟨by decide, by decide⟩ ⟨Nat.le_of_ble_eq_true rfl, Nat.le_of_ble_eq_true rfl⟩ rfl (Nat.le_of_ble_eq_true rfl) dL_law_3461 ?_
    refine lq_iload C 1 rfl dL_law_3464 ?_
    refine lq_icmp_eq C 3471 (by decide) dL_law_3466 (fun _ => ?_) (fun c_ => absurd (by decide) c_)
    refine lq_iload C 1 rfl dL_law_3471 ?_
    refine lq_if_ne C 3488 (by decide) dL_law_3473 (fun _ => ?_) (fun c_ => absurd c_ (by decide))
    refine lq_goto C 3491 (by decide) dL_law_3488 ?_
    exact lq_sub [2, 6] rfl (law_tail C (Nat.le_of_ble_eq_true rfl) (Nat.le_of_ble_eq_true rfl))
  · obtain ⟨v2, e_v2⟩ : ∃ z : Int32, xs 2 = z := ⟨_, rfl⟩
    obtain ⟨v3, e_v3⟩ : ∃ z : Int32, xs 3 = z := ⟨_, rfl⟩
    obtain ⟨v4, e_v4⟩ : ∃ z : Int32, xs 4 = z := ⟨_, rfl⟩
    obtain ⟨v5, e_v5⟩ : ∃ z : Int32, xs 5 = z := ⟨_, rfl⟩
    refine lq_aload_n C (i := 1) rfl 3 rfl dL_law_3387 ?_
    refine lq_aload_n C (i := 0) rfl 4 rfl dL_law_3388 ?_
    refine lq_iload C 0 rfl dL_law_3389 ?_
    refine lq_iconst C (x := nI 1) rfl dL_law_3391 ?_
    refine lq_iadd C dL_law_3392 ?_
    refine lq_cast (.int (nI 1)) (congrArg Value.int (by decide)) ?_
    refine lq_sld C 1 (by decide) (by decide) dL_law_3393 ?_
    refine lq_cast (.int (nI v1)) (congrArg Value.int e_v1) ?_
    refine lq_aload_n C (i := 0) rfl 4 rfl dL_law_3394 ?_
    refine lq_iload C 0 rfl dL_law_3395 ?_
    refine lq_iconst C (x := nI 2) rfl dL_law_3397 ?_
    refine lq_iadd C dL_law_3398 ?_
    refine lq_cast (.int (nI 2)) (congrArg Value.int (by decide)) ?_
    refine lq_sld C 2 (by decide) (by decide) dL_law_3399 ?_
    refine lq_cast (.int v2) (congrArg Value.int e_v2) ?_
    refine lq_aload_n C (i := 0) rfl 4 rfl dL_law_3400 ?_
    refine lq_iload C 0 rfl dL_law_3401 ?_
    refine lq_iconst C (x := nI 3) rfl dL_law_3403 ?_
    refine lq_iadd C dL_law_3404 ?_
    refine lq_cast (.int (nI 3)) (congrArg Value.int (by decide)) ?_
    refine lq_sld C 3 (by decide) (by decide) dL_law_3405 ?_
    refine lq_cast (.int v3) (congrArg Value.int e_v3) ?_
    refine lq_aload_n C (i := 0) rfl 4 rfl dL_law_3406 ?_
    refine lq_iload C 0 rfl dL_law_3407 ?_
    refine lq_iconst C (x := nI 4) rfl dL_law_3409 ?_
    refine lq_iadd C dL_law_3410 ?_
    refine lq_cast (.int (nI 4)) (congrArg Value.int (by decide)) ?_
    refine lq_sld C 4 (by decide) (by decide) dL_law_3411 ?_
    refine lq_cast (.int v4) (congrArg Value.int e_v4) ?_
    refine lq_aload_n C (i := 0) rfl 4 rfl dL_law_3412 ?_
    refine lq_iload C 0 rfl dL_law_3413 ?_
    refine lq_iconst C (x := nI 5) rfl dL_law_3415 ?_
    refine lq_iadd C dL_law_3416 ?_
    refine lq_cast (.int (nI 5)) (congrArg Value.int (by decide)) ?_
    refine lq_sld C 5 (by decide) (by decide) dL_law_3417 ?_
    refine lq_cast (.int v5) (congrArg Value.int e_v5) ?_
    refine lq_aload_n C (i := 3) rfl 1 rfl dL_law_3418 ?_
    refine lq_callW C (z515_L_passageAt l hlt S dp x out q22 v1 v2 v3 v4 v5 (by omega) Fr_360_x Fk_x Fm_x Fi_386_q22 Fk_q22 Fm_q22) lH_378 rfl rfl ⟨by decide, by decide⟩ ⟨Nat.le_of_ble_eq_true rfl, Nat.le_of_ble_eq_true rfl⟩ rfl (Nat.le_of_ble_eq_true rfl) dL_law_3419 (fun r_3419 u_3419 h_3419 => ?_)
    obtain ⟨hr_3419, hu_3419⟩ := h_3419
    have hw_3419 := hu_3419.symm
    subst hw_3419
    have hx_3419 := hr_3419.symm
    subst hx_3419
    refine lq_istore C (lv' := [(5, .int (nI 1)), (4, .int (nI 0)), (3, .ref out), (2, .ref (a 0)), (1, .ref x), (0, .ref b)]) (by decide) rfl dL_law_3422 ?_
    refine lq_aload_n C (i := 2) rfl 3 rfl dL_law_3424 ?_
    refine lq_aload_n C (i := 0) rfl 5 rfl dL_law_3425 ?_
    refine lq_iload C 1 rfl dL_law_3426 ?_
    refine lq_iconst C (x := nI 1) rfl dL_law_3428 ?_
    refine lq_iadd C dL_law_3429 ?_
    refine lq_cast (.int (nI 1)) (congrArg Value.int (by decide)) ?_
    refine lq_sld C 1 (by decide) (by decide) dL_law_3430 ?_
    refine lq_cast (.int (nI v1)) (congrArg Value.int e_v1) ?_
    refine lq_aload_n C (i := 0) rfl 5 rfl dL_law_3431 ?_
    refine lq_iload C 1 rfl dL_law_3432 ?_
    refine lq_iconst C (x := nI 2) rfl dL_law_3434 ?_
    refine lq_iadd C dL_law_3435 ?_
    refine lq_cast (.int (nI 2)) (congrArg Value.int (by decide)) ?_
    refine lq_sld C 2 (by decide) (by decide) dL_law_3436 ?_
    refine lq_cast (.int v2) (congrArg Value.int e_v2) ?_
    refine lq_aload_n C (i := 0) rfl 5 rfl dL_law_3437 ?_
    refine lq_iload C 1 rfl dL_law_3438 ?_
    refine lq_iconst C (x := nI 3) rfl dL_law_3440 ?_
    refine lq_iadd C dL_law_3441 ?_
    refine lq_cast (.int (nI 3)) (congrArg Value.int (by decide)) ?_
    refine lq_sld C 3 (by decide) (by decide) dL_law_3442 ?_
    refine lq_cast (.int v3) (congrArg Value.int e_v3) ?_
    refine lq_aload_n C (i := 0) rfl 5 rfl dL_law_3443 ?_
    refine lq_iload C 1 rfl dL_law_3444 ?_
    refine lq_iconst C (x := nI 4) rfl dL_law_3446 ?_
    refine lq_iadd C dL_law_3447 ?_
    refine lq_cast (.int (nI 4)) (congrArg Value.int (by decide)) ?_
    refine lq_sld C 4 (by decide) (by decide) dL_law_3448 ?_
    refine lq_cast (.int v4) (congrArg Value.int e_v4) ?_
    refine lq_aload_n C (i := 0) rfl 5 rfl dL_law_3449 ?_
    refine lq_iload C 1 rfl dL_law_3450 ?_
    refine lq_iconst C (x := nI 5) rfl dL_law_3452 ?_
    refine lq_iadd C dL_law_3453 ?_
    refine lq_cast (.int (nI 5)) (congrArg Value.int (by decide)) ?_
    refine lq_sld C 5 (by decide) (by decide) dL_law_3454 ?_
    refine lq_cast (.int v5) (congrArg Value.int e_v5) ?_
    refine lq_doM C (w277_passageAt l v f g v1 v2 v3 v4 v5 (by omega) Mf_29_0 Mf_29_1 Mf_29_2 Mf_29_3 Mf_29_4) lM_381 rfl rfl ⟨by decide, by decide⟩ ⟨Nat.le_of_ble_eq_true rfl, Nat.le_of_ble_eq_true rfl⟩ rfl (Nat.le_of_ble_eq_true rfl) dL_law_3455 ?_
    refine lq_istore C (lv' := [(6, .int (nI 0)), (5, .int (nI 1)), (4, .int (nI 0)), (3, .ref out), (2, .ref (a 0)), (1, .ref x), (0, .ref b)]) (by decide) rfl dL_law_3458 ?_
    refine lq_aload_n C (i := 2) rfl 4 rfl dL_law_3460 ?_
    refine lq_doM C (w4_thrown l (upd v 99 (nI 1)) f g rfl) lM_192 rfl rfl ⟨by decide, by decide⟩ ⟨Nat.le_of_ble_eq_true rfl, Nat.le_of_ble_eq_true rfl⟩ rfl (Nat.le_of_ble_eq_true rfl) dL_law_3461 ?_
    refine lq_iload C 1 rfl dL_law_3464 ?_
    refine lq_icmp_eq C 3471 (by decide) dL_law_3466 (fun _ => ?_) (fun c_ => absurd (by decide) c_)
    refine lq_iload C 1 rfl dL_law_3471 ?_
    refine lq_if_ne C 3488 (by decide) dL_law_3473 (fun _ => ?_) (fun c_ => absurd c_ (by decide))
    refine lq_goto C 3491 (by decide) dL_law_3488 ?_
    exact lq_sub [2, 6] rfl (law_tail C (Nat.le_of_ble_eq_true rfl) (Nat.le_of_ble_eq_true rfl))
end LCS
