/-! the law's cases on a fresh machine -/
section LCS
variable {p : Program} {l : Launch} {e : Env} {s : State} {m : MethodId} {below : List Frame} {meth : Method} {c : Code} {b : Nat} {xs : Nat → Int32} {D : va_G} {Y : cY} {tp dp : Nat}
set_option maxHeartbeats 8000000 in
set_option maxRecDepth 100000 in
theorem law_case32 (C : lC p l s m meth c b 6 xs D Y tp dp) {S : cS} {a : Nat → Nat} {v : Nat → Int32} {f : Nat → Nat → Int32} {g : Nat → Nat → Int64} {x out q1 q2 q3 q10 q11 q15 q19 q20 q21 q22 q23 q29 q30 q37 : Nat} (F : cFr S dp x out q1 q2 q3 q10 q11 q15 q19 q20 q21 q22 q23 q29 q30 q37) (M : mFr v f g) : lG p l e s m below meth c b D Y 174 409927 1924 [(4, .int (nI 0)), (3, .ref out), (2, .ref (a 0)), (1, .ref x), (0, .ref b)] [] S a v f g := by
  have hlt := C.2.2.2.2.2.2.2.2.2.2.1
  obtain ⟨FeI_q30_0, FeI_q30_1, Fi_195_q23, Fi_289_q11, Fi_289_q15, Fi_289_q2, Fi_33_q37, Fi_361_x, Fi_366_x, Fi_368_x, Fi_369_x, Fi_36_q37, Fi_370_x, Fi_37_q37, Fi_384_q19, Fi_384_q22, Fi_386_q19, Fi_386_q21, Fi_386_q22, Fk_out, Fk_q1, Fk_q10, Fk_q11, Fk_q15, Fk_q19, Fk_q2, Fk_q20, Fk_q21, Fk_q22, Fk_q23, Fk_q29, Fk_q3, Fk_q30, Fk_q37, Fk_x, Fm_out, Fm_q1, Fm_q10, Fm_q11, Fm_q15, Fm_q19, Fm_q2, Fm_q20, Fm_q21, Fm_q22, Fm_q23, Fm_q29, Fm_q3, Fm_q30, Fm_q37, Fm_x, Fn_out, Fn_q3, Fn_q30, Fr_224_q29, Fr_288_q2, Fr_321_q20, Fr_352_x, Fr_353_x, Fr_354_x, Fr_355_x, Fr_356_x, Fr_358_x, Fr_359_x, Fr_360_x, Fr_362_x, Fr_364_x, Fr_365_x, Fr_385_q19, Fr_385_q22, Fr_3_q10, Fr_4_q10, Fr_96_q1⟩ := F
  obtain ⟨Mall_21, Mall_22, Mf_29_0, Mf_29_1, Mf_29_2, Mf_29_3, Mf_29_4, Mf_49_0, Mf_49_1, Mf_8_0, Mf_8_1, Mg_7_0, Mg_7_1, Mg_7_10, Mg_7_11, Mg_7_12, Mg_7_13, Mg_7_14, Mg_7_15, Mg_7_16, Mg_7_17, Mg_7_18, Mg_7_19, Mg_7_2, Mg_7_20, Mg_7_21, Mg_7_22, Mg_7_23, Mg_7_24, Mg_7_25, Mg_7_26, Mg_7_27, Mg_7_28, Mg_7_29, Mg_7_3, Mg_7_30, Mg_7_31, Mg_7_32, Mg_7_33, Mg_7_34, Mg_7_35, Mg_7_36, Mg_7_37, Mg_7_38, Mg_7_39, Mg_7_4, Mg_7_5, Mg_7_6, Mg_7_7, Mg_7_8, Mg_7_9, Mv_13, Mv_14, Mv_2, Mv_20, Mv_29, Mv_34, Mv_35, Mv_40, Mv_48, Mv_49, Mv_72, Mv_88, Mv_89, Mv_90, Mv_96, Mv_97, Mv_98⟩ := M
  rcases c_sgn (xs 1) with hneg_v1 | ⟨v1, hr_v1, e_v1⟩
  · obtain ⟨v1, e_v1⟩ : ∃ z : Int32, xs 1 = z := ⟨_, rfl⟩
    rw [e_v1] at hneg_v1
    obtain ⟨v2, e_v2⟩ : ∃ z : Int32, xs 2 = z := ⟨_, rfl⟩
    obtain ⟨v3, e_v3⟩ : ∃ z : Int32, xs 3 = z := ⟨_, rfl⟩
    obtain ⟨v4, e_v4⟩ : ∃ z : Int32, xs 4 = z := ⟨_, rfl⟩
    obtain ⟨v5, e_v5⟩ : ∃ z : Int32, xs 5 = z := ⟨_, rfl⟩
    refine lq_aload_n C (i := 1) rfl 3 rfl dL_law_1924 ?_
    refine lq_aload_n C (i := 0) rfl 4 rfl dL_law_1925 ?_
    refine lq_iload C 0 rfl dL_law_1926 ?_
    refine lq_iconst C (x := nI 1) rfl dL_law_1928 ?_
    refine lq_iadd C dL_law_1929 ?_
    refine lq_cast (.int (nI 1)) (congrArg Value.int (by decide)) ?_
    refine lq_sld C 1 (by decide) (by decide) dL_law_1930 ?_
    refine lq_cast (.int v1) (congrArg Value.int e_v1) ?_
    refine lq_aload_n C (i := 3) rfl 1 rfl dL_law_1931 ?_
    refine lq_callW C (z174_L_shut l hlt S dp x out q22 v1 hneg_v1 Fr_360_x Fk_x Fm_x Fi_386_q22 Fk_q22 Fm_q22) lH_301 rfl rfl ⟨by decide, by decide⟩ ⟨Nat.le_of_ble_eq_true rfl, Nat.le_of_ble_eq_true rfl⟩ rfl (Nat.le_of_ble_eq_true rfl) dL_law_1932 (fun r_1932 u_1932 h_1932 => ?_)
    obtain ⟨hr_1932, hu_1932⟩ := h_1932
    have hw_1932 := hu_1932.symm
    subst hw_1932
    have hx_1932 := hr_1932.symm
    subst hx_1932
    refine lq_istore C (lv' := [(5, .int (nI 1)), (4, .int (nI 0)), (3, .ref out), (2, .ref (a 0)), (1, .ref x), (0, .ref b)]) (by decide) rfl dL_law_1935 ?_
    refine lq_aload_n C (i := 2) rfl 3 rfl dL_law_1937 ?_
    refine lq_aload_n C (i := 0) rfl 5 rfl dL_law_1938 ?_
    refine lq_iload C 1 rfl dL_law_1939 ?_
    refine lq_iconst C (x := nI 1) rfl dL_law_1941 ?_
    refine lq_iadd C dL_law_1942 ?_
    refine lq_cast (.int (nI 1)) (congrArg Value.int (by decide)) ?_
    refine lq_sld C 1 (by decide) (by decide) dL_law_1943 ?_
    refine lq_cast (.int v1) (congrArg Value.int e_v1) ?_
    refine lq_doM C (w102_shut l v f g v1 hneg_v1) lM_303 rfl rfl ⟨by decide, by decide⟩ ⟨Nat.le_of_ble_eq_true rfl, Nat.le_of_ble_eq_true rfl⟩ rfl (Nat.le_of_ble_eq_true rfl) dL_law_1944 ?_
    refine lq_istore C (lv' := [(6, .int (nI 0)), (5, .int (nI 1)), (4, .int (nI 0)), (3, .ref out), (2, .ref (a 0)), (1, .ref x), (0, .ref b)]) (by decide) rfl dL_law_1947 ?_
    refine lq_aload_n C (i := 2) rfl 4 rfl dL_law_1949 ?_
    refine lq_doM C (w4_thrown l (upd v 99 (nI 1)) f g rfl) lM_192 rfl rfl ⟨by decide, by decide⟩ ⟨Nat.le_of_ble_eq_true rfl, Nat.le_of_ble_eq_true rfl⟩ rfl (Nat.le_of_ble_eq_true rfl) dL_law_1950 ?_
    refine lq_iload C 1 rfl dL_law_1953 ?_
    refine lq_icmp_eq C 1960 (by decide) dL_law_1955 (fun _ => ?_) (fun c_ => absurd (by decide) c_)
    refine lq_iload C 1 rfl dL_law_1960 ?_
    refine lq_if_ne C 1977 (by decide) dL_law_1962 (fun _ => ?_) (fun c_ => absurd c_ (by decide))
    refine lq_goto C 3491 (by decide) dL_law_1977 ?_
    exact lq_sub [2, 6] rfl (law_tail C (Nat.le_of_ble_eq_true rfl) (Nat.le_of_ble_eq_true rfl))
  · obtain ⟨v2, e_v2⟩ : ∃ z : Int32, xs 2 = z := ⟨_, rfl⟩
    obtain ⟨v3, e_v3⟩ : ∃ z : Int32, xs 3 = z := ⟨_, rfl⟩
    obtain ⟨v4, e_v4⟩ : ∃ z : Int32, xs 4 = z := ⟨_, rfl⟩
    obtain ⟨v5, e_v5⟩ : ∃ z : Int32, xs 5 = z := ⟨_, rfl⟩
    refine lq_aload_n C (i := 1) rfl 3 rfl dL_law_1924 ?_
    refine lq_aload_n C (i := 0) rfl 4 rfl dL_law_1925 ?_
    refine lq_iload C 0 rfl dL_law_1926 ?_
    refine lq_iconst C (x := nI 1) rfl dL_law_1928 ?_
    refine lq_iadd C dL_law_1929 ?_
    refine lq_cast (.int (nI 1)) (congrArg Value.int (by decide)) ?_
    refine lq_sld C 1 (by decide) (by decide) dL_law_1930 ?_
    refine lq_cast (.int (nI v1)) (congrArg Value.int e_v1) ?_
    refine lq_aload_n C (i := 3) rfl 1 rfl dL_law_1931 ?_
    refine lq_callW C (z177_L_shut l hlt S dp x out q22 v1 (by omega) Fr_360_x Fk_x Fm_x Fi_386_q22 Fk_q22 Fm_q22) lH_301 rfl rfl ⟨by decide, by decide⟩ ⟨Nat.le_of_ble_eq_true rfl, Nat.le_of_ble_eq_true rfl⟩ rfl (Nat.le_of_ble_eq_true rfl) dL_law_1932 (fun r_1932 u_1932 h_1932 => ?_)
    obtain ⟨hr_1932, hu_1932⟩ := h_1932
    have hw_1932 := hu_1932.symm
    subst hw_1932
    have hx_1932 := hr_1932.symm
    subst hx_1932
    refine lq_istore C (lv' := [(5, .int (nI 1)), (4, .int (nI 0)), (3, .ref out), (2, .ref (a 0)), (1, .ref x), (0, .ref b)]) (by decide) rfl dL_law_1935 ?_
    refine lq_aload_n C (i := 2) rfl 3 rfl dL_law_1937 ?_
    refine lq_aload_n C (i := 0) rfl 5 rfl dL_law_1938 ?_
    refine lq_iload C 1 rfl dL_law_1939 ?_
    refine lq_iconst C (x := nI 1) rfl dL_law_1941 ?_
    refine lq_iadd C dL_law_1942 ?_
    refine lq_cast (.int (nI 1)) (congrArg Value.int (by decide)) ?_
    refine lq_sld C 1 (by decide) (by decide) dL_law_1943 ?_
    refine lq_cast (.int (nI v1)) (congrArg Value.int e_v1) ?_
    refine lq_doM C (w104_shut l v f g v1 (by omega) Mf_29_0 Mf_29_1 Mf_29_2 Mf_29_3 Mf_29_4) lM_303 rfl rfl ⟨by decide, by decide⟩ ⟨Nat.le_of_ble_eq_true rfl, Nat.le_of_ble_eq_true rfl⟩ rfl (Nat.le_of_ble_eq_true rfl) dL_law_1944 ?_
    refine lq_istore C (lv' := [(6, .int (nI 0)), (5, .int (nI 1)), (4, .int (nI 0)), (3, .ref out), (2, .ref (a 0)), (1, .ref x), (0, .ref b)]) (by decide) rfl dL_law_1947 ?_
    refine lq_aload_n C (i := 2) rfl 4 rfl dL_law_1949 ?_
    refine lq_doM C (w4_thrown l (upd v 99 (nI 1)) f g rfl) lM_192 rfl rfl ⟨by decide, by decide⟩ ⟨Nat.le_of_ble_eq_true rfl, Nat.le_of_ble_eq_true rfl⟩ rfl (Nat.le_of_ble_eq_true rfl) dL_law_1950 ?_
    refine lq_iload C 1 rfl dL_law_1953 ?_
    refine lq_icmp_eq C 1960 (by decide) dL_law_1955 (fun _ => ?_) (fun c_ => absurd (by decide) c_)
    refine lq_iload C 1 rfl dL_law_1960 ?_
    refine lq_if_ne C 1977 (by decide) dL_law_1962 (fun _ => ?_) (fun c_ => absurd c_ (by decide))
    refine lq_goto C 3491 (by decide) dL_law_1977 ?_
    exact lq_sub [2, 6] rfl (law_tail C (Nat.le_of_ble_eq_true rfl) (Nat.le_of_ble_eq_true rfl))
set_option maxHeartbeats 8000000 in
set_option maxRecDepth 100000 in
theorem law_case33 (C : lC p l s m meth c b 6 xs D Y tp dp) {S : cS} {a : Nat → Nat} {v : Nat → Int32} {f : Nat → Nat → Int32} {g : Nat → Nat → Int64} {x out q1 q2 q3 q10 q11 q15 q19 q20 q21 q22 q23 q29 q30 q37 : Nat} (F : cFr S dp x out q1 q2 q3 q10 q11 q15 q19 q20 q21 q22 q23 q29 q30 q37) (M : mFr v f g) : lG p l e s m below meth c b D Y 174 409927 1980 [(4, .int (nI 0)), (3, .ref out), (2, .ref (a 0)), (1, .ref x), (0, .ref b)] [] S a v f g := by
  have hlt := C.2.2.2.2.2.2.2.2.2.2.1
  obtain ⟨FeI_q30_0, FeI_q30_1, Fi_195_q23, Fi_289_q11, Fi_289_q15, Fi_289_q2, Fi_33_q37, Fi_361_x, Fi_366_x, Fi_368_x, Fi_369_x, Fi_36_q37, Fi_370_x, Fi_37_q37, Fi_384_q19, Fi_384_q22, Fi_386_q19, Fi_386_q21, Fi_386_q22, Fk_out, Fk_q1, Fk_q10, Fk_q11, Fk_q15, Fk_q19, Fk_q2, Fk_q20, Fk_q21, Fk_q22, Fk_q23, Fk_q29, Fk_q3, Fk_q30, Fk_q37, Fk_x, Fm_out, Fm_q1, Fm_q10, Fm_q11, Fm_q15, Fm_q19, Fm_q2, Fm_q20, Fm_q21, Fm_q22, Fm_q23, Fm_q29, Fm_q3, Fm_q30, Fm_q37, Fm_x, Fn_out, Fn_q3, Fn_q30, Fr_224_q29, Fr_288_q2, Fr_321_q20, Fr_352_x, Fr_353_x, Fr_354_x, Fr_355_x, Fr_356_x, Fr_358_x, Fr_359_x, Fr_360_x, Fr_362_x, Fr_364_x, Fr_365_x, Fr_385_q19, Fr_385_q22, Fr_3_q10, Fr_4_q10, Fr_96_q1⟩ := F
  obtain ⟨Mall_21, Mall_22, Mf_29_0, Mf_29_1, Mf_29_2, Mf_29_3, Mf_29_4, Mf_49_0, Mf_49_1, Mf_8_0, Mf_8_1, Mg_7_0, Mg_7_1, Mg_7_10, Mg_7_11, Mg_7_12, Mg_7_13, Mg_7_14, Mg_7_15, Mg_7_16, Mg_7_17, Mg_7_18, Mg_7_19, Mg_7_2, Mg_7_20, Mg_7_21, Mg_7_22, Mg_7_23, Mg_7_24, Mg_7_25, Mg_7_26, Mg_7_27, Mg_7_28, Mg_7_29, Mg_7_3, Mg_7_30, Mg_7_31, Mg_7_32, Mg_7_33, Mg_7_34, Mg_7_35, Mg_7_36, Mg_7_37, Mg_7_38, Mg_7_39, Mg_7_4, Mg_7_5, Mg_7_6, Mg_7_7, Mg_7_8, Mg_7_9, Mv_13, Mv_14, Mv_2, Mv_20, Mv_29, Mv_34, Mv_35, Mv_40, Mv_48, Mv_49, Mv_72, Mv_88, Mv_89, Mv_90, Mv_96, Mv_97, Mv_98⟩ := M
  rcases c_sgn (xs 1) with hneg_v1 | ⟨v1, hr_v1, e_v1⟩
  · obtain ⟨v1, e_v1⟩ : ∃ z : Int32, xs 1 = z := ⟨_, rfl⟩
    rw [e_v1] at hneg_v1
    obtain ⟨v2, e_v2⟩ : ∃ z : Int32, xs 2 = z := ⟨_, rfl⟩
    obtain ⟨v3, e_v3⟩ : ∃ z : Int32, xs 3 = z := ⟨_, rfl⟩
    obtain ⟨v4, e_v4⟩ : ∃ z : Int32, xs 4 = z := ⟨_, rfl⟩
    obtain ⟨v5, e_v5⟩ : ∃ z : Int32, xs 5 = z := ⟨_, rfl⟩
    refine lq_aload_n C (i := 1) rfl 3 rfl dL_law_1980 ?_
    refine lq_aload_n C (i := 0) rfl 4 rfl dL_law_1981 ?_
    refine lq_iload C 0 rfl dL_law_1982 ?_
    refine lq_iconst C (x := nI 1) rfl dL_law_1984 ?_
    refine lq_iadd C dL_law_1985 ?_
    refine lq_cast (.int (nI 1)) (congrArg Value.int (by decide)) ?_
    refine lq_sld C 1 (by decide) (by decide) dL_law_1986 ?_
    refine lq_cast (.int v1) (congrArg Value.int e_v1) ?_
    refine lq_aload_n C (i := 3) rfl 1 rfl dL_law_1987 ?_
    refine lq_callW C (z181_L_documents l hlt S dp x out q22 v1 hneg_v1 Fr_360_x Fk_x Fm_x Fi_386_q22 Fk_q22 Fm_q22) lH_304 rfl rfl ⟨by decide, by decide⟩ ⟨Nat.le_of_ble_eq_true rfl, Nat.le_of_ble_eq_true rfl⟩ rfl (Nat.le_of_ble_eq_true rfl) dL_law_1988 (fun r_1988 u_1988 h_1988 => ?_)
    obtain ⟨hr_1988, hu_1988⟩ := h_1988
    have hw_1988 := hu_1988.symm
    subst hw_1988
    have hx_1988 := hr_1988.symm
    subst hx_1988
    refine lq_istore C (lv' := [(5, .int (nI 1)), (4, .int (nI 0)), (3, .ref out), (2, .ref (a 0)), (1, .ref x), (0, .ref b)]) (by decide) rfl dL_law_1991 ?_
    refine lq_aload_n C (i := 2) rfl 3 rfl dL_law_1993 ?_
    refine lq_aload_n C (i := 0) rfl 5 rfl dL_law_1994 ?_
    refine lq_iload C 1 rfl dL_law_1995 ?_
    refine lq_iconst C (x := nI 1) rfl dL_law_1997 ?_
    refine lq_iadd C dL_law_1998 ?_
    refine lq_cast (.int (nI 1)) (congrArg Value.int (by decide)) ?_
    refine lq_sld C 1 (by decide) (by decide) dL_law_1999 ?_
    refine lq_cast (.int v1) (congrArg Value.int e_v1) ?_
    refine lq_doM C (w105_documents l v f g v1 hneg_v1) lM_306 rfl rfl ⟨by decide, by decide⟩ ⟨Nat.le_of_ble_eq_true rfl, Nat.le_of_ble_eq_true rfl⟩ rfl (Nat.le_of_ble_eq_true rfl) dL_law_2000 ?_
    refine lq_istore C (lv' := [(6, .int (nI 0)), (5, .int (nI 1)), (4, .int (nI 0)), (3, .ref out), (2, .ref (a 0)), (1, .ref x), (0, .ref b)]) (by decide) rfl dL_law_2003 ?_
    refine lq_aload_n C (i := 2) rfl 4 rfl dL_law_2005 ?_
    refine lq_doM C (w4_thrown l (upd v 99 (nI 1)) f g rfl) lM_192 rfl rfl ⟨by decide, by decide⟩ ⟨Nat.le_of_ble_eq_true rfl, Nat.le_of_ble_eq_true rfl⟩ rfl (Nat.le_of_ble_eq_true rfl) dL_law_2006 ?_
    refine lq_iload C 1 rfl dL_law_2009 ?_
    refine lq_icmp_eq C 2016 (by decide) dL_law_2011 (fun _ => ?_) (fun c_ => absurd (by decide) c_)
    refine lq_iload C 1 rfl dL_law_2016 ?_
    refine lq_if_ne C 2033 (by decide) dL_law_2018 (fun _ => ?_) (fun c_ => absurd c_ (by decide))
    refine lq_goto C 3491 (by decide) dL_law_2033 ?_
    exact lq_sub [2, 6] rfl (law_tail C (Nat.le_of_ble_eq_true rfl) (Nat.le_of_ble_eq_true rfl))
  · obtain ⟨v2, e_v2⟩ : ∃ z : Int32, xs 2 = z := ⟨_, rfl⟩
    obtain ⟨v3, e_v3⟩ : ∃ z : Int32, xs 3 = z := ⟨_, rfl⟩
    obtain ⟨v4, e_v4⟩ : ∃ z : Int32, xs 4 = z := ⟨_, rfl⟩
    obtain ⟨v5, e_v5⟩ : ∃ z : Int32, xs 5 = z := ⟨_, rfl⟩
    refine lq_aload_n C (i := 1) rfl 3 rfl dL_law_1980 ?_
    refine lq_aload_n C (i := 0) rfl 4 rfl dL_law_1981 ?_
    refine lq_iload C 0 rfl dL_law_1982 ?_
    refine lq_iconst C (x := nI 1) rfl dL_law_1984 ?_
    refine lq_iadd C dL_law_1985 ?_
    refine lq_cast (.int (nI 1)) (congrArg Value.int (by decide)) ?_
    refine lq_sld C 1 (by decide) (by decide) dL_law_1986 ?_
    refine lq_cast (.int (nI v1)) (congrArg Value.int e_v1) ?_
    refine lq_aload_n C (i := 3) rfl 1 rfl dL_law_1987 ?_
    refine lq_callW C (z183_L_documents l hlt S dp x out q22 v1 (by omega) Fr_360_x Fk_x Fm_x Fi_386_q22 Fk_q22 Fm_q22) lH_304 rfl rfl ⟨by decide, by decide⟩ ⟨Nat.le_of_ble_eq_true rfl, Nat.le_of_ble_eq_true rfl⟩ rfl (Nat.le_of_ble_eq_true rfl) dL_law_1988 (fun r_1988 u_1988 h_1988 => ?_)
    obtain ⟨hr_1988, hu_1988⟩ := h_1988
    have hw_1988 := hu_1988.symm
    subst hw_1988
    have hx_1988 := hr_1988.symm
    subst hx_1988
    refine lq_istore C (lv' := [(5, .int (nI 1)), (4, .int (nI 0)), (3, .ref out), (2, .ref (a 0)), (1, .ref x), (0, .ref b)]) (by decide) rfl dL_law_1991 ?_
    refine lq_aload_n C (i := 2) rfl 3 rfl dL_law_1993 ?_
    refine lq_aload_n C (i := 0) rfl 5 rfl dL_law_1994 ?_
    refine lq_iload C 1 rfl dL_law_1995 ?_
    refine lq_iconst C (x := nI 1) rfl dL_law_1997 ?_
    refine lq_iadd C dL_law_1998 ?_
    refine lq_cast (.int (nI 1)) (congrArg Value.int (by decide)) ?_
    refine lq_sld C 1 (by decide) (by decide) dL_law_1999 ?_
    refine lq_cast (.int (nI v1)) (congrArg Value.int e_v1) ?_
    refine lq_doM C (w106_documents l v f g v1 (by omega) Mf_29_0 Mf_29_1 Mf_29_2 Mf_29_3 Mf_29_4) lM_306 rfl rfl ⟨by decide, by decide⟩ ⟨Nat.le_of_ble_eq_true rfl, Nat.le_of_ble_eq_true rfl⟩ rfl (Nat.le_of_ble_eq_true rfl) dL_law_2000 ?_
    refine lq_istore C (lv' := [(6, .int (nI 0)), (5, .int (nI 1)), (4, .int (nI 0)), (3, .ref out), (2, .ref (a 0)), (1, .ref x), (0, .ref b)]) (by decide) rfl dL_law_2003 ?_
    refine lq_aload_n C (i := 2) rfl 4 rfl dL_law_2005 ?_
    refine lq_doM C (w4_thrown l (upd v 99 (nI 1)) f g rfl) lM_192 rfl rfl ⟨by decide, by decide⟩ ⟨Nat.le_of_ble_eq_true rfl, Nat.le_of_ble_eq_true rfl⟩ rfl (Nat.le_of_ble_eq_true rfl) dL_law_2006 ?_
    refine lq_iload C 1 rfl dL_law_2009 ?_
    refine lq_icmp_eq C 2016 (by decide) dL_law_2011 (fun _ => ?_) (fun c_ => absurd (by decide) c_)
    refine lq_iload C 1 rfl dL_law_2016 ?_
    refine lq_if_ne C 2033 (by decide) dL_law_2018 (fun _ => ?_) (fun c_ => absurd c_ (by decide))
    refine lq_goto C 3491 (by decide) dL_law_2033 ?_
    exact lq_sub [2, 6] rfl (law_tail C (Nat.le_of_ble_eq_true rfl) (Nat.le_of_ble_eq_true rfl))
set_option maxHeartbeats 8000000 in
set_option maxRecDepth 100000 in
theorem law_case34 (C : lC p l s m meth c b 6 xs D Y tp dp) {S : cS} {a : Nat → Nat} {v : Nat → Int32} {f : Nat → Nat → Int32} {g : Nat → Nat → Int64} {x out q1 q2 q3 q10 q11 q15 q19 q20 q21 q22 q23 q29 q30 q37 : Nat} (F : cFr S dp x out q1 q2 q3 q10 q11 q15 q19 q20 q21 q22 q23 q29 q30 q37) (M : mFr v f g) : lG p l e s m below meth c b D Y 174 409927 2036 [(4, .int (nI 0)), (3, .ref out), (2, .ref (a 0)), (1, .ref x), (0, .ref b)] [] S a v f g := by
  have hlt := C.2.2.2.2.2.2.2.2.2.2.1
  obtain ⟨FeI_q30_0, FeI_q30_1, Fi_195_q23, Fi_289_q11, Fi_289_q15, Fi_289_q2, Fi_33_q37, Fi_361_x, Fi_366_x, Fi_368_x, Fi_369_x, Fi_36_q37, Fi_370_x, Fi_37_q37, Fi_384_q19, Fi_384_q22, Fi_386_q19, Fi_386_q21, Fi_386_q22, Fk_out, Fk_q1, Fk_q10, Fk_q11, Fk_q15, Fk_q19, Fk_q2, Fk_q20, Fk_q21, Fk_q22, Fk_q23, Fk_q29, Fk_q3, Fk_q30, Fk_q37, Fk_x, Fm_out, Fm_q1, Fm_q10, Fm_q11, Fm_q15, Fm_q19, Fm_q2, Fm_q20, Fm_q21, Fm_q22, Fm_q23, Fm_q29, Fm_q3, Fm_q30, Fm_q37, Fm_x, Fn_out, Fn_q3, Fn_q30, Fr_224_q29, Fr_288_q2, Fr_321_q20, Fr_352_x, Fr_353_x, Fr_354_x, Fr_355_x, Fr_356_x, Fr_358_x, Fr_359_x, Fr_360_x, Fr_362_x, Fr_364_x, Fr_365_x, Fr_385_q19, Fr_385_q22, Fr_3_q10, Fr_4_q10, Fr_96_q1⟩ := F
  obtain ⟨Mall_21, Mall_22, Mf_29_0, Mf_29_1, Mf_29_2, Mf_29_3, Mf_29_4, Mf_49_0, Mf_49_1, Mf_8_0, Mf_8_1, Mg_7_0, Mg_7_1, Mg_7_10, Mg_7_11, Mg_7_12, Mg_7_13, Mg_7_14, Mg_7_15, Mg_7_16, Mg_7_17, Mg_7_18, Mg_7_19, Mg_7_2, Mg_7_20, Mg_7_21, Mg_7_22, Mg_7_23, Mg_7_24, Mg_7_25, Mg_7_26, Mg_7_27, Mg_7_28, Mg_7_29, Mg_7_3, Mg_7_30, Mg_7_31, Mg_7_32, Mg_7_33, Mg_7_34, Mg_7_35, Mg_7_36, Mg_7_37, Mg_7_38, Mg_7_39, Mg_7_4, Mg_7_5, Mg_7_6, Mg_7_7, Mg_7_8, Mg_7_9, Mv_13, Mv_14, Mv_2, Mv_20, Mv_29, Mv_34, Mv_35, Mv_40, Mv_48, Mv_49, Mv_72, Mv_88, Mv_89, Mv_90, Mv_96, Mv_97, Mv_98⟩ := M
  rcases c_sgn (xs 1) with hneg_v1 | ⟨v1, hr_v1, e_v1⟩
  · obtain ⟨v1, e_v1⟩ : ∃ z : Int32, xs 1 = z := ⟨_, rfl⟩
    rw [e_v1] at hneg_v1
    obtain ⟨v2, e_v2⟩ : ∃ z : Int32, xs 2 = z := ⟨_, rfl⟩
    obtain ⟨v3, e_v3⟩ : ∃ z : Int32, xs 3 = z := ⟨_, rfl⟩
    obtain ⟨v4, e_v4⟩ : ∃ z : Int32, xs 4 = z := ⟨_, rfl⟩
    obtain ⟨v5, e_v5⟩ : ∃ z : Int32, xs 5 = z := ⟨_, rfl⟩
    refine lq_aload_n C (i := 1) rfl 3 rfl dL_law_2036 ?_
    refine lq_aload_n C (i := 0) rfl 4 rfl dL_law_2037 ?_
    refine lq_iload C 0 rfl dL_law_2038 ?_
    refine lq_iconst C (x := nI 1) rfl dL_law_2040 ?_
    refine lq_iadd C dL_law_2041 ?_
    refine lq_cast (.int (nI 1)) (congrArg Value.int (by decide)) ?_
    refine lq_sld C 1 (by decide) (by decide) dL_law_2042 ?_
    refine lq_cast (.int v1) (congrArg Value.int e_v1) ?_
    refine lq_aload_n C (i := 3) rfl 1 rfl dL_law_2043 ?_
    refine lq_callW C (z185_L_term l hlt S dp x out v1 hneg_v1 Fm_x Fk_x) lH_307 rfl rfl ⟨by decide, by decide⟩ ⟨Nat.le_of_ble_eq_true rfl, Nat.le_of_ble_eq_true rfl⟩ rfl (Nat.le_of_ble_eq_true rfl) dL_law_2044 (fun r_2044 u_2044 h_2044 => ?_)
    obtain ⟨hr_2044, hu_2044⟩ := h_2044
    have hw_2044 := hu_2044.symm
    subst hw_2044
    have hx_2044 := hr_2044.symm
    subst hx_2044
    refine lq_istore C (lv' := [(5, .int (nI 1)), (4, .int (nI 0)), (3, .ref out), (2, .ref (a 0)), (1, .ref x), (0, .ref b)]) (by decide) rfl dL_law_2047 ?_
    refine lq_aload_n C (i := 2) rfl 3 rfl dL_law_2049 ?_
    refine lq_aload_n C (i := 0) rfl 5 rfl dL_law_2050 ?_
    refine lq_iload C 1 rfl dL_law_2051 ?_
    refine lq_iconst C (x := nI 1) rfl dL_law_2053 ?_
    refine lq_iadd C dL_law_2054 ?_
    refine lq_cast (.int (nI 1)) (congrArg Value.int (by decide)) ?_
    refine lq_sld C 1 (by decide) (by decide) dL_law_2055 ?_
    refine lq_cast (.int v1) (congrArg Value.int e_v1) ?_
    refine lq_doM C (w111_term l v f g v1 hneg_v1 Mv_2) lM_309 rfl rfl ⟨by decide, by decide⟩ ⟨Nat.le_of_ble_eq_true rfl, Nat.le_of_ble_eq_true rfl⟩ rfl (Nat.le_of_ble_eq_true rfl) dL_law_2056 ?_
    refine lq_istore C (lv' := [(6, .int (nI 0)), (5, .int (nI 1)), (4, .int (nI 0)), (3, .ref out), (2, .ref (a 0)), (1, .ref x), (0, .ref b)]) (by decide) rfl dL_law_2059 ?_
    refine lq_aload_n C (i := 2) rfl 4 rfl dL_law_2061 ?_
    refine lq_doM C (w4_thrown l (upd (upd (upd v 4 (nI 0)) 77 (nI 0)) 99 (nI 1)) f g rfl) lM_192 rfl rfl ⟨by decide, by decide⟩ ⟨Nat.le_of_ble_eq_true rfl, Nat.le_of_ble_eq_true rfl⟩ rfl (Nat.le_of_ble_eq_true rfl) dL_law_2062 ?_
    refine lq_iload C 1 rfl dL_law_2065 ?_
    refine lq_icmp_eq C 2072 (by decide) dL_law_2067 (fun _ => ?_) (fun c_ => absurd (by decide) c_)
    refine lq_iload C 1 rfl dL_law_2072 ?_
    refine lq_if_ne C 2089 (by decide) dL_law_2074 (fun _ => ?_) (fun c_ => absurd c_ (by decide))
    refine lq_goto C 3491 (by decide) dL_law_2089 ?_
    exact lq_sub [2, 6] rfl (law_tail C (Nat.le_of_ble_eq_true rfl) (Nat.le_of_ble_eq_true rfl))
  · rcases Nat.lt_or_ge v1 2 with hlt_v1 | hlt_v1
    · obtain ⟨v2, e_v2⟩ : ∃ z : Int32, xs 2 = z := ⟨_, rfl⟩
      obtain ⟨v3, e_v3⟩ : ∃ z : Int32, xs 3 = z := ⟨_, rfl⟩
      obtain ⟨v4, e_v4⟩ : ∃ z : Int32, xs 4 = z := ⟨_, rfl⟩
      obtain ⟨v5, e_v5⟩ : ∃ z : Int32, xs 5 = z := ⟨_, rfl⟩
      refine lq_aload_n C (i := 1) rfl 3 rfl dL_law_2036 ?_
      refine lq_aload_n C (i := 0) rfl 4 rfl dL_law_2037 ?_
      refine lq_iload C 0 rfl dL_law_2038 ?_
      refine lq_iconst C (x := nI 1) rfl dL_law_2040 ?_
      refine lq_iadd C dL_law_2041 ?_
      refine lq_cast (.int (nI 1)) (congrArg Value.int (by decide)) ?_
      refine lq_sld C 1 (by decide) (by decide) dL_law_2042 ?_
      refine lq_cast (.int (nI v1)) (congrArg Value.int e_v1) ?_
      refine lq_aload_n C (i := 3) rfl 1 rfl dL_law_2043 ?_
      refine lq_callW C (z190_L_term l hlt S dp x out q1 q2 v1 (by omega) Fr_352_x Fk_x Fm_x Fr_96_q1 Fk_q1 Fm_q1 Fi_289_q2 Fk_q2 Fm_q2) lH_307 rfl rfl ⟨by decide, by decide⟩ ⟨Nat.le_of_ble_eq_true rfl, Nat.le_of_ble_eq_true rfl⟩ rfl (Nat.le_of_ble_eq_true rfl) dL_law_2044 (fun r_2044 u_2044 h_2044 => ?_)
      obtain ⟨S1, hS1, S2, hS2, hr_2044, hu_2044⟩ := h_2044
      have hw_2044 := hu_2044.symm
      subst hw_2044
      have hx_2044 := hr_2044.symm
      subst hx_2044
      refine lq_istore C (lv' := [(5, .int (nI 2)), (4, .int (nI 0)), (3, .ref out), (2, .ref (a 0)), (1, .ref x), (0, .ref b)]) (by decide) rfl dL_law_2047 ?_
      refine lq_aload_n C (i := 2) rfl 3 rfl dL_law_2049 ?_
      refine lq_aload_n C (i := 0) rfl 5 rfl dL_law_2050 ?_
      refine lq_iload C 1 rfl dL_law_2051 ?_
      refine lq_iconst C (x := nI 1) rfl dL_law_2053 ?_
      refine lq_iadd C dL_law_2054 ?_
      refine lq_cast (.int (nI 1)) (congrArg Value.int (by decide)) ?_
      refine lq_sld C 1 (by decide) (by decide) dL_law_2055 ?_
      refine lq_cast (.int (nI v1)) (congrArg Value.int e_v1) ?_
      refine lq_doM C (w115_term l v f g v1 (by omega) Mv_2) lM_309 rfl rfl ⟨by decide, by decide⟩ ⟨Nat.le_of_ble_eq_true rfl, Nat.le_of_ble_eq_true rfl⟩ rfl (Nat.le_of_ble_eq_true rfl) dL_law_2056 ?_
      refine lq_istore C (lv' := [(6, .int (nI 0)), (5, .int (nI 2)), (4, .int (nI 0)), (3, .ref out), (2, .ref (a 0)), (1, .ref x), (0, .ref b)]) (by decide) rfl dL_law_2059 ?_
      refine lq_aload_n C (i := 2) rfl 4 rfl dL_law_2061 ?_
      refine lq_doM C (w116_thrown l (upd (upd (upd v 4 (nI 0)) 77 (nI 0)) 99 (nI 2)) f g rfl) lM_192 rfl rfl ⟨by decide, by decide⟩ ⟨Nat.le_of_ble_eq_true rfl, Nat.le_of_ble_eq_true rfl⟩ rfl (Nat.le_of_ble_eq_true rfl) dL_law_2062 ?_
      refine lq_iload C 1 rfl dL_law_2065 ?_
      refine lq_icmp_eq C 2072 (by decide) dL_law_2067 (fun _ => ?_) (fun c_ => absurd (by decide) c_)
      refine lq_iload C 1 rfl dL_law_2072 ?_
      refine lq_if_ne C 2089 (by decide) dL_law_2074 (fun _ => ?_) (fun c_ => absurd c_ (by decide))
      refine lq_goto C 3491 (by decide) dL_law_2089 ?_
      exact lq_sub [2, 6] rfl (law_tail C (Nat.le_of_ble_eq_true rfl) (Nat.le_of_ble_eq_true rfl))
    · obtain ⟨v2, e_v2⟩ : ∃ z : Int32, xs 2 = z := ⟨_, rfl⟩
      obtain ⟨v3, e_v3⟩ : ∃ z : Int32, xs 3 = z := ⟨_, rfl⟩
      obtain ⟨v4, e_v4⟩ : ∃ z : Int32, xs 4 = z := ⟨_, rfl⟩
      obtain ⟨v5, e_v5⟩ : ∃ z : Int32, xs 5 = z := ⟨_, rfl⟩
      refine lq_aload_n C (i := 1) rfl 3 rfl dL_law_2036 ?_
      refine lq_aload_n C (i := 0) rfl 4 rfl dL_law_2037 ?_
      refine lq_iload C 0 rfl dL_law_2038 ?_
      refine lq_iconst C (x := nI 1) rfl dL_law_2040 ?_
      refine lq_iadd C dL_law_2041 ?_
      refine lq_cast (.int (nI 1)) (congrArg Value.int (by decide)) ?_
      refine lq_sld C 1 (by decide) (by decide) dL_law_2042 ?_
      refine lq_cast (.int (nI v1)) (congrArg Value.int e_v1) ?_
      refine lq_aload_n C (i := 3) rfl 1 rfl dL_law_2043 ?_
      refine lq_callW C (z192_L_term l hlt S dp x out v1 (by omega) (by omega) Fm_x Fk_x) lH_307 rfl rfl ⟨by decide, by decide⟩ ⟨Nat.le_of_ble_eq_true rfl, Nat.le_of_ble_eq_true rfl⟩ rfl (Nat.le_of_ble_eq_true rfl) dL_law_2044 (fun r_2044 u_2044 h_2044 => ?_)
      obtain ⟨hr_2044, hu_2044⟩ := h_2044
      have hw_2044 := hu_2044.symm
      subst hw_2044
      have hx_2044 := hr_2044.symm
      subst hx_2044
      refine lq_istore C (lv' := [(5, .int (nI 1)), (4, .int (nI 0)), (3, .ref out), (2, .ref (a 0)), (1, .ref x), (0, .ref b)]) (by decide) rfl dL_law_2047 ?_
      refine lq_aload_n C (i := 2) rfl 3 rfl dL_law_2049 ?_
      refine lq_aload_n C (i := 0) rfl 5 rfl dL_law_2050 ?_
      refine lq_iload C 1 rfl dL_law_2051 ?_
      refine lq_iconst C (x := nI 1) rfl dL_law_2053 ?_
      refine lq_iadd C dL_law_2054 ?_
      refine lq_cast (.int (nI 1)) (congrArg Value.int (by decide)) ?_
      refine lq_sld C 1 (by decide) (by decide) dL_law_2055 ?_
      refine lq_cast (.int (nI v1)) (congrArg Value.int e_v1) ?_
      refine lq_doM C (w118_term l v f g v1 (by omega) (by omega) Mv_2) lM_309 rfl rfl ⟨by decide, by decide⟩ ⟨Nat.le_of_ble_eq_true rfl, Nat.le_of_ble_eq_true rfl⟩ rfl (Nat.le_of_ble_eq_true rfl) dL_law_2056 ?_
      refine lq_istore C (lv' := [(6, .int (nI 0)), (5, .int (nI 1)), (4, .int (nI 0)), (3, .ref out), (2, .ref (a 0)), (1, .ref x), (0, .ref b)]) (by decide) rfl dL_law_2059 ?_
      refine lq_aload_n C (i := 2) rfl 4 rfl dL_law_2061 ?_
      refine lq_doM C (w4_thrown l (upd (upd (upd v 4 (nI 0)) 77 (nI 0)) 99 (nI 1)) f g rfl) lM_192 rfl rfl ⟨by decide, by decide⟩ ⟨Nat.le_of_ble_eq_true rfl, Nat.le_of_ble_eq_true rfl⟩ rfl (Nat.le_of_ble_eq_true rfl) dL_law_2062 ?_
      refine lq_iload C 1 rfl dL_law_2065 ?_
      refine lq_icmp_eq C 2072 (by decide) dL_law_2067 (fun _ => ?_) (fun c_ => absurd (by decide) c_)
      refine lq_iload C 1 rfl dL_law_2072 ?_
      refine lq_if_ne C 2089 (by decide) dL_law_2074 (fun _ => ?_) (fun c_ => absurd c_ (by decide))
      refine lq_goto C 3491 (by decide) dL_law_2089 ?_
      exact lq_sub [2, 6] rfl (law_tail C (Nat.le_of_ble_eq_true rfl) (Nat.le_of_ble_eq_true rfl))
set_option maxHeartbeats 8000000 in
set_option maxRecDepth 100000 in
theorem law_case35 (C : lC p l s m meth c b 6 xs D Y tp dp) {S : cS} {a : Nat → Nat} {v : Nat → Int32} {f : Nat → Nat → Int32} {g : Nat → Nat → Int64} {x out q1 q2 q3 q10 q11 q15 q19 q20 q21 q22 q23 q29 q30 q37 : Nat} (F : cFr S dp x out q1 q2 q3 q10 q11 q15 q19 q20 q21 q22 q23 q29 q30 q37) (M : mFr v f g) : lG p l e s m below meth c b D Y 174 409927 2092 [(4, .int (nI 0)), (3, .ref out), (2, .ref (a 0)), (1, .ref x), (0, .ref b)] [] S a v f g := by
  have hlt := C.2.2.2.2.2.2.2.2.2.2.1
  obtain ⟨FeI_q30_0, FeI_q30_1, Fi_195_q23, Fi_289_q11, Fi_289_q15, Fi_289_q2, Fi_33_q37, Fi_361_x, Fi_366_x, Fi_368_x, Fi_369_x, Fi_36_q37, Fi_370_x, Fi_37_q37, Fi_384_q19, Fi_384_q22, Fi_386_q19, Fi_386_q21, Fi_386_q22, Fk_out, Fk_q1, Fk_q10, Fk_q11, Fk_q15, Fk_q19, Fk_q2, Fk_q20, Fk_q21, Fk_q22, Fk_q23, Fk_q29, Fk_q3, Fk_q30, Fk_q37, Fk_x, Fm_out, Fm_q1, Fm_q10, Fm_q11, Fm_q15, Fm_q19, Fm_q2, Fm_q20, Fm_q21, Fm_q22, Fm_q23, Fm_q29, Fm_q3, Fm_q30, Fm_q37, Fm_x, Fn_out, Fn_q3, Fn_q30, Fr_224_q29, Fr_288_q2, Fr_321_q20, Fr_352_x, Fr_353_x, Fr_354_x, Fr_355_x, Fr_356_x, Fr_358_x, Fr_359_x, Fr_360_x, Fr_362_x, Fr_364_x, Fr_365_x, Fr_385_q19, Fr_385_q22, Fr_3_q10, Fr_4_q10, Fr_96_q1⟩ := F
  obtain ⟨Mall_21, Mall_22, Mf_29_0, Mf_29_1, Mf_29_2, Mf_29_3, Mf_29_4, Mf_49_0, Mf_49_1, Mf_8_0, Mf_8_1, Mg_7_0, Mg_7_1, Mg_7_10, Mg_7_11, Mg_7_12, Mg_7_13, Mg_7_14, Mg_7_15, Mg_7_16, Mg_7_17, Mg_7_18, Mg_7_19, Mg_7_2, Mg_7_20, Mg_7_21, Mg_7_22, Mg_7_23, Mg_7_24, Mg_7_25, Mg_7_26, Mg_7_27, Mg_7_28, Mg_7_29, Mg_7_3, Mg_7_30, Mg_7_31, Mg_7_32, Mg_7_33, Mg_7_34, Mg_7_35, Mg_7_36, Mg_7_37, Mg_7_38, Mg_7_39, Mg_7_4, Mg_7_5, Mg_7_6, Mg_7_7, Mg_7_8, Mg_7_9, Mv_13, Mv_14, Mv_2, Mv_20, Mv_29, Mv_34, Mv_35, Mv_40, Mv_48, Mv_49, Mv_72, Mv_88, Mv_89, Mv_90, Mv_96, Mv_97, Mv_98⟩ := M
  rcases c_sgn (xs 1) with hneg_v1 | ⟨v1, hr_v1, e_v1⟩
  · obtain ⟨v1, e_v1⟩ : ∃ z : Int32, xs 1 = z := ⟨_, rfl⟩
    rw [e_v1] at hneg_v1
    rcases c_sgn (xs 2) with hneg_v2 | ⟨v2, hr_v2, e_v2⟩
    · obtain ⟨v2, e_v2⟩ : ∃ z : Int32, xs 2 = z := ⟨_, rfl⟩
      rw [e_v2] at hneg_v2
      obtain ⟨v3, e_v3⟩ : ∃ z : Int32, xs 3 = z := ⟨_, rfl⟩
      obtain ⟨v4, e_v4⟩ : ∃ z : Int32, xs 4 = z := ⟨_, rfl⟩
      obtain ⟨v5, e_v5⟩ : ∃ z : Int32, xs 5 = z := ⟨_, rfl⟩
      refine lq_aload_n C (i := 1) rfl 3 rfl dL_law_2092 ?_
      refine lq_aload_n C (i := 0) rfl 4 rfl dL_law_2093 ?_
      refine lq_iload C 0 rfl dL_law_2094 ?_
      refine lq_iconst C (x := nI 1) rfl dL_law_2096 ?_
      refine lq_iadd C dL_law_2097 ?_
      refine lq_cast (.int (nI 1)) (congrArg Value.int (by decide)) ?_
      refine lq_sld C 1 (by decide) (by decide) dL_law_2098 ?_
      refine lq_cast (.int v1) (congrArg Value.int e_v1) ?_
      refine lq_aload_n C (i := 0) rfl 4 rfl dL_law_2099 ?_
      refine lq_iload C 0 rfl dL_law_2100 ?_
      refine lq_iconst C (x := nI 2) rfl dL_law_2102 ?_
      refine lq_iadd C dL_law_2103 ?_
      refine lq_cast (.int (nI 2)) (congrArg Value.int (by decide)) ?_
      refine lq_sld C 2 (by decide) (by decide) dL_law_2104 ?_
      refine lq_cast (.int v2) (congrArg Value.int e_v2) ?_
      refine lq_aload_n C (i := 3) rfl 1 rfl dL_law_2105 ?_
      refine lq_callW C (z196_L_phrase l hlt S dp x out v1 v2 hneg_v1 hneg_v2 Fm_x Fk_x) lH_310 rfl rfl ⟨by decide, by decide⟩ ⟨Nat.le_of_ble_eq_true rfl, Nat.le_of_ble_eq_true rfl⟩ rfl (Nat.le_of_ble_eq_true rfl) dL_law_2106 (fun r_2106 u_2106 h_2106 => ?_)
      obtain ⟨hr_2106, hu_2106⟩ := h_2106
      have hw_2106 := hu_2106.symm
      subst hw_2106
      have hx_2106 := hr_2106.symm
      subst hx_2106
      refine lq_istore C (lv' := [(5, .int (nI 1)), (4, .int (nI 0)), (3, .ref out), (2, .ref (a 0)), (1, .ref x), (0, .ref b)]) (by decide) rfl dL_law_2109 ?_
      refine lq_aload_n C (i := 2) rfl 3 rfl dL_law_2111 ?_
      refine lq_aload_n C (i := 0) rfl 5 rfl dL_law_2112 ?_
      refine lq_iload C 1 rfl dL_law_2113 ?_
      refine lq_iconst C (x := nI 1) rfl dL_law_2115 ?_
      refine lq_iadd C dL_law_2116 ?_
      refine lq_cast (.int (nI 1)) (congrArg Value.int (by decide)) ?_
      refine lq_sld C 1 (by decide) (by decide) dL_law_2117 ?_
      refine lq_cast (.int v1) (congrArg Value.int e_v1) ?_
      refine lq_aload_n C (i := 0) rfl 5 rfl dL_law_2118 ?_
      refine lq_iload C 1 rfl dL_law_2119 ?_
      refine lq_iconst C (x := nI 2) rfl dL_law_2121 ?_
      refine lq_iadd C dL_law_2122 ?_
      refine lq_cast (.int (nI 2)) (congrArg Value.int (by decide)) ?_
      refine lq_sld C 2 (by decide) (by decide) dL_law_2123 ?_
      refine lq_cast (.int v2) (congrArg Value.int e_v2) ?_
      refine lq_doM C (w123_phrase l v f g v1 v2 hneg_v1 hneg_v2 Mv_2) lM_312 rfl rfl ⟨by decide, by decide⟩ ⟨Nat.le_of_ble_eq_true rfl, Nat.le_of_ble_eq_true rfl⟩ rfl (Nat.le_of_ble_eq_true rfl) dL_law_2124 ?_
      refine lq_istore C (lv' := [(6, .int (nI 0)), (5, .int (nI 1)), (4, .int (nI 0)), (3, .ref out), (2, .ref (a 0)), (1, .ref x), (0, .ref b)]) (by decide) rfl dL_law_2127 ?_
      refine lq_aload_n C (i := 2) rfl 4 rfl dL_law_2129 ?_
      refine lq_doM C (w4_thrown l (upd (upd (upd v 4 (nI 0)) 77 (nI 0)) 99 (nI 1)) f g rfl) lM_192 rfl rfl ⟨by decide, by decide⟩ ⟨Nat.le_of_ble_eq_true rfl, Nat.le_of_ble_eq_true rfl⟩ rfl (Nat.le_of_ble_eq_true rfl) dL_law_2130 ?_
      refine lq_iload C 1 rfl dL_law_2133 ?_
      refine lq_icmp_eq C 2140 (by decide) dL_law_2135 (fun _ => ?_) (fun c_ => absurd (by decide) c_)
      refine lq_iload C 1 rfl dL_law_2140 ?_
      refine lq_if_ne C 2157 (by decide) dL_law_2142 (fun _ => ?_) (fun c_ => absurd c_ (by decide))
      refine lq_goto C 3491 (by decide) dL_law_2157 ?_
      exact lq_sub [2, 6] rfl (law_tail C (Nat.le_of_ble_eq_true rfl) (Nat.le_of_ble_eq_true rfl))
    · rcases Nat.lt_or_ge v2 21 with hlt_v2 | hlt_v2
      · obtain ⟨v3, e_v3⟩ : ∃ z : Int32, xs 3 = z := ⟨_, rfl⟩
        obtain ⟨v4, e_v4⟩ : ∃ z : Int32, xs 4 = z := ⟨_, rfl⟩
        obtain ⟨v5, e_v5⟩ : ∃ z : Int32, xs 5 = z := ⟨_, rfl⟩
        refine lq_aload_n C (i := 1) rfl 3 rfl dL_law_2092 ?_
        refine lq_aload_n C (i := 0) rfl 4 rfl dL_law_2093 ?_
        refine lq_iload C 0 rfl dL_law_2094 ?_
        refine lq_iconst C (x := nI 1) rfl dL_law_2096 ?_
        refine lq_iadd C dL_law_2097 ?_
        refine lq_cast (.int (nI 1)) (congrArg Value.int (by decide)) ?_
        refine lq_sld C 1 (by decide) (by decide) dL_law_2098 ?_
        refine lq_cast (.int v1) (congrArg Value.int e_v1) ?_
        refine lq_aload_n C (i := 0) rfl 4 rfl dL_law_2099 ?_
        refine lq_iload C 0 rfl dL_law_2100 ?_
        refine lq_iconst C (x := nI 2) rfl dL_law_2102 ?_
        refine lq_iadd C dL_law_2103 ?_
        refine lq_cast (.int (nI 2)) (congrArg Value.int (by decide)) ?_
        refine lq_sld C 2 (by decide) (by decide) dL_law_2104 ?_
        refine lq_cast (.int (nI v2)) (congrArg Value.int e_v2) ?_
        refine lq_aload_n C (i := 3) rfl 1 rfl dL_law_2105 ?_
        refine lq_callW C (z200_L_phrase l hlt S dp x out v2 v1 hneg_v1 (by omega) Fm_x Fk_x) lH_310 rfl rfl ⟨by decide, by decide⟩ ⟨Nat.le_of_ble_eq_true rfl, Nat.le_of_ble_eq_true rfl⟩ rfl (Nat.le_of_ble_eq_true rfl) dL_law_2106 (fun r_2106 u_2106 h_2106 => ?_)
        obtain ⟨hr_2106, hu_2106⟩ := h_2106
        have hw_2106 := hu_2106.symm
        subst hw_2106
        have hx_2106 := hr_2106.symm
        subst hx_2106
        refine lq_istore C (lv' := [(5, .int (nI 1)), (4, .int (nI 0)), (3, .ref out), (2, .ref (a 0)), (1, .ref x), (0, .ref b)]) (by decide) rfl dL_law_2109 ?_
        refine lq_aload_n C (i := 2) rfl 3 rfl dL_law_2111 ?_
        refine lq_aload_n C (i := 0) rfl 5 rfl dL_law_2112 ?_
        refine lq_iload C 1 rfl dL_law_2113 ?_
        refine lq_iconst C (x := nI 1) rfl dL_law_2115 ?_
        refine lq_iadd C dL_law_2116 ?_
        refine lq_cast (.int (nI 1)) (congrArg Value.int (by decide)) ?_
        refine lq_sld C 1 (by decide) (by decide) dL_law_2117 ?_
        refine lq_cast (.int v1) (congrArg Value.int e_v1) ?_
        refine lq_aload_n C (i := 0) rfl 5 rfl dL_law_2118 ?_
        refine lq_iload C 1 rfl dL_law_2119 ?_
        refine lq_iconst C (x := nI 2) rfl dL_law_2121 ?_
        refine lq_iadd C dL_law_2122 ?_
        refine lq_cast (.int (nI 2)) (congrArg Value.int (by decide)) ?_
        refine lq_sld C 2 (by decide) (by decide) dL_law_2123 ?_
        refine lq_cast (.int (nI v2)) (congrArg Value.int e_v2) ?_
        refine lq_doM C (w126_phrase l v f g v2 v1 hneg_v1 (by omega) Mv_2) lM_312 rfl rfl ⟨by decide, by decide⟩ ⟨Nat.le_of_ble_eq_true rfl, Nat.le_of_ble_eq_true rfl⟩ rfl (Nat.le_of_ble_eq_true rfl) dL_law_2124 ?_
        refine lq_istore C (lv' := [(6, .int (nI 0)), (5, .int (nI 1)), (4, .int (nI 0)), (3, .ref out), (2, .ref (a 0)), (1, .ref x), (0, .ref b)]) (by decide) rfl dL_law_2127 ?_
        refine lq_aload_n C (i := 2) rfl 4 rfl dL_law_2129 ?_
        refine lq_doM C (w4_thrown l (upd (upd (upd v 4 (nI 0)) 77 (nI 0)) 99 (nI 1)) f g rfl) lM_192 rfl rfl ⟨by decide, by decide⟩ ⟨Nat.le_of_ble_eq_true rfl, Nat.le_of_ble_eq_true rfl⟩ rfl (Nat.le_of_ble_eq_true rfl) dL_law_2130 ?_
        refine lq_iload C 1 rfl dL_law_2133 ?_
        refine lq_icmp_eq C 2140 (by decide) dL_law_2135 (fun _ => ?_) (fun c_ => absurd (by decide) c_)
        refine lq_iload C 1 rfl dL_law_2140 ?_
        refine lq_if_ne C 2157 (by decide) dL_law_2142 (fun _ => ?_) (fun c_ => absurd c_ (by decide))
        refine lq_goto C 3491 (by decide) dL_law_2157 ?_
        exact lq_sub [2, 6] rfl (law_tail C (Nat.le_of_ble_eq_true rfl) (Nat.le_of_ble_eq_true rfl))
      · obtain ⟨v3, e_v3⟩ : ∃ z : Int32, xs 3 = z := ⟨_, rfl⟩
        obtain ⟨v4, e_v4⟩ : ∃ z : Int32, xs 4 = z := ⟨_, rfl⟩
        obtain ⟨v5, e_v5⟩ : ∃ z : Int32, xs 5 = z := ⟨_, rfl⟩
        refine lq_aload_n C (i := 1) rfl 3 rfl dL_law_2092 ?_
        refine lq_aload_n C (i := 0) rfl 4 rfl dL_law_2093 ?_
        refine lq_iload C 0 rfl dL_law_2094 ?_
        refine lq_iconst C (x := nI 1) rfl dL_law_2096 ?_
        refine lq_iadd C dL_law_2097 ?_
        refine lq_cast (.int (nI 1)) (congrArg Value.int (by decide)) ?_
        refine lq_sld C 1 (by decide) (by decide) dL_law_2098 ?_
        refine lq_cast (.int v1) (congrArg Value.int e_v1) ?_
        refine lq_aload_n C (i := 0) rfl 4 rfl dL_law_2099 ?_
        refine lq_iload C 0 rfl dL_law_2100 ?_
        refine lq_iconst C (x := nI 2) rfl dL_law_2102 ?_
        refine lq_iadd C dL_law_2103 ?_
        refine lq_cast (.int (nI 2)) (congrArg Value.int (by decide)) ?_
        refine lq_sld C 2 (by decide) (by decide) dL_law_2104 ?_
        refine lq_cast (.int (nI v2)) (congrArg Value.int e_v2) ?_
        refine lq_aload_n C (i := 3) rfl 1 rfl dL_law_2105 ?_
        refine lq_callW C (z202_L_phrase l hlt S dp x out v2 v1 hneg_v1 (by omega) (by omega) Fm_x Fk_x) lH_310 rfl rfl ⟨by decide, by decide⟩ ⟨Nat.le_of_ble_eq_true rfl, Nat.le_of_ble_eq_true rfl⟩ rfl (Nat.le_of_ble_eq_true rfl) dL_law_2106 (fun r_2106 u_2106 h_2106 => ?_)
        obtain ⟨hr_2106, hu_2106⟩ := h_2106
        have hw_2106 := hu_2106.symm
        subst hw_2106
        have hx_2106 := hr_2106.symm
        subst hx_2106
        refine lq_istore C (lv' := [(5, .int (nI 1)), (4, .int (nI 0)), (3, .ref out), (2, .ref (a 0)), (1, .ref x), (0, .ref b)]) (by decide) rfl dL_law_2109 ?_
        refine lq_aload_n C (i := 2) rfl 3 rfl dL_law_2111 ?_
        refine lq_aload_n C (i := 0) rfl 5 rfl dL_law_2112 ?_
        refine lq_iload C 1 rfl dL_law_2113 ?_
        refine lq_iconst C (x := nI 1) rfl dL_law_2115 ?_
        refine lq_iadd C dL_law_2116 ?_
        refine lq_cast (.int (nI 1)) (congrArg Value.int (by decide)) ?_
        refine lq_sld C 1 (by decide) (by decide) dL_law_2117 ?_
        refine lq_cast (.int v1) (congrArg Value.int e_v1) ?_
        refine lq_aload_n C (i := 0) rfl 5 rfl dL_law_2118 ?_
        refine lq_iload C 1 rfl dL_law_2119 ?_
        refine lq_iconst C (x := nI 2) rfl dL_law_2121 ?_
        refine lq_iadd C dL_law_2122 ?_
        refine lq_cast (.int (nI 2)) (congrArg Value.int (by decide)) ?_
        refine lq_sld C 2 (by decide) (by decide) dL_law_2123 ?_
        refine lq_cast (.int (nI v2)) (congrArg Value.int e_v2) ?_
        refine lq_doM C (w128_phrase l v f g v2 v1 hneg_v1 (by omega) (by omega) Mv_2) lM_312 rfl rfl ⟨by decide, by decide⟩ ⟨Nat.le_of_ble_eq_true rfl, Nat.le_of_ble_eq_true rfl⟩ rfl (Nat.le_of_ble_eq_true rfl) dL_law_2124 ?_
        refine lq_istore C (lv' := [(6, .int (nI 0)), (5, .int (nI 1)), (4, .int (nI 0)), (3, .ref out), (2, .ref (a 0)), (1, .ref x), (0, .ref b)]) (by decide) rfl dL_law_2127 ?_
        refine lq_aload_n C (i := 2) rfl 4 rfl dL_law_2129 ?_
        refine lq_doM C (w4_thrown l (upd (upd (upd v 4 (nI 0)) 77 (nI 0)) 99 (nI 1)) f g rfl) lM_192 rfl rfl ⟨by decide, by decide⟩ ⟨Nat.le_of_ble_eq_true rfl, Nat.le_of_ble_eq_true rfl⟩ rfl (Nat.le_of_ble_eq_true rfl) dL_law_2130 ?_
        refine lq_iload C 1 rfl dL_law_2133 ?_
        refine lq_icmp_eq C 2140 (by decide) dL_law_2135 (fun _ => ?_) (fun c_ => absurd (by decide) c_)
        refine lq_iload C 1 rfl dL_law_2140 ?_
        refine lq_if_ne C 2157 (by decide) dL_law_2142 (fun _ => ?_) (fun c_ => absurd c_ (by decide))
        refine lq_goto C 3491 (by decide) dL_law_2157 ?_
        exact lq_sub [2, 6] rfl (law_tail C (Nat.le_of_ble_eq_true rfl) (Nat.le_of_ble_eq_true rfl))
  · rcases Nat.lt_or_ge v1 2 with hlt_v1 | hlt_v1
    · rcases c_sgn (xs 2) with hneg_v2 | ⟨v2, hr_v2, e_v2⟩
      · obtain ⟨v2, e_v2⟩ : ∃ z : Int32, xs 2 = z := ⟨_, rfl⟩
        rw [e_v2] at hneg_v2
        obtain ⟨v3, e_v3⟩ : ∃ z : Int32, xs 3 = z := ⟨_, rfl⟩
        obtain ⟨v4, e_v4⟩ : ∃ z : Int32, xs 4 = z := ⟨_, rfl⟩
        obtain ⟨v5, e_v5⟩ : ∃ z : Int32, xs 5 = z := ⟨_, rfl⟩
        refine lq_aload_n C (i := 1) rfl 3 rfl dL_law_2092 ?_
        refine lq_aload_n C (i := 0) rfl 4 rfl dL_law_2093 ?_
        refine lq_iload C 0 rfl dL_law_2094 ?_
        refine lq_iconst C (x := nI 1) rfl dL_law_2096 ?_
        refine lq_iadd C dL_law_2097 ?_
        refine lq_cast (.int (nI 1)) (congrArg Value.int (by decide)) ?_
        refine lq_sld C 1 (by decide) (by decide) dL_law_2098 ?_
        refine lq_cast (.int (nI v1)) (congrArg Value.int e_v1) ?_
        refine lq_aload_n C (i := 0) rfl 4 rfl dL_law_2099 ?_
        refine lq_iload C 0 rfl dL_law_2100 ?_
        refine lq_iconst C (x := nI 2) rfl dL_law_2102 ?_
        refine lq_iadd C dL_law_2103 ?_
        refine lq_cast (.int (nI 2)) (congrArg Value.int (by decide)) ?_
        refine lq_sld C 2 (by decide) (by decide) dL_law_2104 ?_
        refine lq_cast (.int v2) (congrArg Value.int e_v2) ?_
        refine lq_aload_n C (i := 3) rfl 1 rfl dL_law_2105 ?_
        refine lq_callW C (z204_L_phrase l hlt S dp x out v1 v2 (by omega) hneg_v2 Fm_x Fk_x) lH_310 rfl rfl ⟨by decide, by decide⟩ ⟨Nat.le_of_ble_eq_true rfl, Nat.le_of_ble_eq_true rfl⟩ rfl (Nat.le_of_ble_eq_true rfl) dL_law_2106 (fun r_2106 u_2106 h_2106 => ?_)
        obtain ⟨hr_2106, hu_2106⟩ := h_2106
        have hw_2106 := hu_2106.symm
        subst hw_2106
        have hx_2106 := hr_2106.symm
        subst hx_2106
        refine lq_istore C (lv' := [(5, .int (nI 2)), (4, .int (nI 0)), (3, .ref out), (2, .ref (a 0)), (1, .ref x), (0, .ref b)]) (by decide) rfl dL_law_2109 ?_
        refine lq_aload_n C (i := 2) rfl 3 rfl dL_law_2111 ?_
        refine lq_aload_n C (i := 0) rfl 5 rfl dL_law_2112 ?_
        refine lq_iload C 1 rfl dL_law_2113 ?_
        refine lq_iconst C (x := nI 1) rfl dL_law_2115 ?_
        refine lq_iadd C dL_law_2116 ?_
        refine lq_cast (.int (nI 1)) (congrArg Value.int (by decide)) ?_
        refine lq_sld C 1 (by decide) (by decide) dL_law_2117 ?_
        refine lq_cast (.int (nI v1)) (congrArg Value.int e_v1) ?_
        refine lq_aload_n C (i := 0) rfl 5 rfl dL_law_2118 ?_
        refine lq_iload C 1 rfl dL_law_2119 ?_
        refine lq_iconst C (x := nI 2) rfl dL_law_2121 ?_
        refine lq_iadd C dL_law_2122 ?_
        refine lq_cast (.int (nI 2)) (congrArg Value.int (by decide)) ?_
        refine lq_sld C 2 (by decide) (by decide) dL_law_2123 ?_
        refine lq_cast (.int v2) (congrArg Value.int e_v2) ?_
        refine lq_doM C (w130_phrase l v f g v1 v2 (by omega) hneg_v2 Mv_2) lM_312 rfl rfl ⟨by decide, by decide⟩ ⟨Nat.le_of_ble_eq_true rfl, Nat.le_of_ble_eq_true rfl⟩ rfl (Nat.le_of_ble_eq_true rfl) dL_law_2124 ?_
        refine lq_istore C (lv' := [(6, .int (nI 0)), (5, .int (nI 2)), (4, .int (nI 0)), (3, .ref out), (2, .ref (a 0)), (1, .ref x), (0, .ref b)]) (by decide) rfl dL_law_2127 ?_
        refine lq_aload_n C (i := 2) rfl 4 rfl dL_law_2129 ?_
        refine lq_doM C (w116_thrown l (upd (upd (upd v 4 (nI 0)) 77 (nI 0)) 99 (nI 2)) f g rfl) lM_192 rfl rfl ⟨by decide, by decide⟩ ⟨Nat.le_of_ble_eq_true rfl, Nat.le_of_ble_eq_true rfl⟩ rfl (Nat.le_of_ble_eq_true rfl) dL_law_2130 ?_
        refine lq_iload C 1 rfl dL_law_2133 ?_
        refine lq_icmp_eq C 2140 (by decide) dL_law_2135 (fun _ => ?_) (fun c_ => absurd (by decide) c_)
        refine lq_iload C 1 rfl dL_law_2140 ?_
        refine lq_if_ne C 2157 (by decide) dL_law_2142 (fun _ => ?_) (fun c_ => absurd c_ (by decide))
        refine lq_goto C 3491 (by decide) dL_law_2157 ?_
        exact lq_sub [2, 6] rfl (law_tail C (Nat.le_of_ble_eq_true rfl) (Nat.le_of_ble_eq_true rfl))
      · rcases Nat.lt_or_ge v2 21 with hlt_v2 | hlt_v2
        · obtain ⟨v3, e_v3⟩ : ∃ z : Int32, xs 3 = z := ⟨_, rfl⟩
          obtain ⟨v4, e_v4⟩ : ∃ z : Int32, xs 4 = z := ⟨_, rfl⟩
          obtain ⟨v5, e_v5⟩ : ∃ z : Int32, xs 5 = z := ⟨_, rfl⟩
          refine lq_aload_n C (i := 1) rfl 3 rfl dL_law_2092 ?_
          refine lq_aload_n C (i := 0) rfl 4 rfl dL_law_2093 ?_
          refine lq_iload C 0 rfl dL_law_2094 ?_
          refine lq_iconst C (x := nI 1) rfl dL_law_2096 ?_
          refine lq_iadd C dL_law_2097 ?_
          refine lq_cast (.int (nI 1)) (congrArg Value.int (by decide)) ?_
          refine lq_sld C 1 (by decide) (by decide) dL_law_2098 ?_
          refine lq_cast (.int (nI v1)) (congrArg Value.int e_v1) ?_
          refine lq_aload_n C (i := 0) rfl 4 rfl dL_law_2099 ?_
          refine lq_iload C 0 rfl dL_law_2100 ?_
          refine lq_iconst C (x := nI 2) rfl dL_law_2102 ?_
          refine lq_iadd C dL_law_2103 ?_
          refine lq_cast (.int (nI 2)) (congrArg Value.int (by decide)) ?_
          refine lq_sld C 2 (by decide) (by decide) dL_law_2104 ?_
          refine lq_cast (.int (nI v2)) (congrArg Value.int e_v2) ?_
          refine lq_aload_n C (i := 3) rfl 1 rfl dL_law_2105 ?_
          refine lq_callW C (z206_L_phrase l hlt S dp x out q1 q2 v1 v2 (by omega) (by omega) Fr_352_x Fk_x Fm_x Fr_96_q1 Fk_q1 Fm_q1 Fi_289_q2 Fk_q2 Fm_q2) lH_310 rfl rfl ⟨by decide, by decide⟩ ⟨Nat.le_of_ble_eq_true rfl, Nat.le_of_ble_eq_true rfl⟩ rfl (Nat.le_of_ble_eq_true rfl) dL_law_2106 (fun r_2106 u_2106 h_2106 => ?_)
          obtain ⟨S1, hS1, S2, hS2, hr_2106, hu_2106⟩ := h_2106
          have hw_2106 := hu_2106.symm
          subst hw_2106
          have hx_2106 := hr_2106.symm
          subst hx_2106
          refine lq_istore C (lv' := [(5, .int (nI 3)), (4, .int (nI 0)), (3, .ref out), (2, .ref (a 0)), (1, .ref x), (0, .ref b)]) (by decide) rfl dL_law_2109 ?_
          refine lq_aload_n C (i := 2) rfl 3 rfl dL_law_2111 ?_
          refine lq_aload_n C (i := 0) rfl 5 rfl dL_law_2112 ?_
          refine lq_iload C 1 rfl dL_law_2113 ?_
          refine lq_iconst C (x := nI 1) rfl dL_law_2115 ?_
          refine lq_iadd C dL_law_2116 ?_
          refine lq_cast (.int (nI 1)) (congrArg Value.int (by decide)) ?_
          refine lq_sld C 1 (by decide) (by decide) dL_law_2117 ?_
          refine lq_cast (.int (nI v1)) (congrArg Value.int e_v1) ?_
          refine lq_aload_n C (i := 0) rfl 5 rfl dL_law_2118 ?_
          refine lq_iload C 1 rfl dL_law_2119 ?_
          refine lq_iconst C (x := nI 2) rfl dL_law_2121 ?_
          refine lq_iadd C dL_law_2122 ?_
          refine lq_cast (.int (nI 2)) (congrArg Value.int (by decide)) ?_
          refine lq_sld C 2 (by decide) (by decide) dL_law_2123 ?_
          refine lq_cast (.int (nI v2)) (congrArg Value.int e_v2) ?_
          refine lq_doM C (w132_phrase l v f g v1 v2 (by omega) (by omega) Mv_2) lM_312 rfl rfl ⟨by decide, by decide⟩ ⟨Nat.le_of_ble_eq_true rfl, Nat.le_of_ble_eq_true rfl⟩ rfl (Nat.le_of_ble_eq_true rfl) dL_law_2124 ?_
          refine lq_istore C (lv' := [(6, .int (nI 0)), (5, .int (nI 3)), (4, .int (nI 0)), (3, .ref out), (2, .ref (a 0)), (1, .ref x), (0, .ref b)]) (by decide) rfl dL_law_2127 ?_
          refine lq_aload_n C (i := 2) rfl 4 rfl dL_law_2129 ?_
          refine lq_doM C (w133_thrown l (upd (upd (upd v 4 (nI 0)) 77 (nI 0)) 99 (nI 3)) f g rfl) lM_192 rfl rfl ⟨by decide, by decide⟩ ⟨Nat.le_of_ble_eq_true rfl, Nat.le_of_ble_eq_true rfl⟩ rfl (Nat.le_of_ble_eq_true rfl) dL_law_2130 ?_
          refine lq_iload C 1 rfl dL_law_2133 ?_
          refine lq_icmp_eq C 2140 (by decide) dL_law_2135 (fun _ => ?_) (fun c_ => absurd (by decide) c_)
          refine lq_iload C 1 rfl dL_law_2140 ?_
          refine lq_if_ne C 2157 (by decide) dL_law_2142 (fun _ => ?_) (fun c_ => absurd c_ (by decide))
          refine lq_goto C 3491 (by decide) dL_law_2157 ?_
          exact lq_sub [2, 6] rfl (law_tail C (Nat.le_of_ble_eq_true rfl) (Nat.le_of_ble_eq_true rfl))
        · obtain ⟨v3, e_v3⟩ : ∃ z : Int32, xs 3 = z := ⟨_, rfl⟩
          obtain ⟨v4, e_v4⟩ : ∃ z : Int32, xs 4 = z := ⟨_, rfl⟩
          obtain ⟨v5, e_v5⟩ : ∃ z : Int32, xs 5 = z := ⟨_, rfl⟩
          refine lq_aload_n C (i := 1) rfl 3 rfl dL_law_2092 ?_
          refine lq_aload_n C (i := 0) rfl 4 rfl dL_law_2093 ?_
          refine lq_iload C 0 rfl dL_law_2094 ?_
          refine lq_iconst C (x := nI 1) rfl dL_law_2096 ?_
          refine lq_iadd C dL_law_2097 ?_
          refine lq_cast (.int (nI 1)) (congrArg Value.int (by decide)) ?_
          refine lq_sld C 1 (by decide) (by decide) dL_law_2098 ?_
          refine lq_cast (.int (nI v1)) (congrArg Value.int e_v1) ?_
          refine lq_aload_n C (i := 0) rfl 4 rfl dL_law_2099 ?_
          refine lq_iload C 0 rfl dL_law_2100 ?_
          refine lq_iconst C (x := nI 2) rfl dL_law_2102 ?_
          refine lq_iadd C dL_law_2103 ?_
          refine lq_cast (.int (nI 2)) (congrArg Value.int (by decide)) ?_
          refine lq_sld C 2 (by decide) (by decide) dL_law_2104 ?_
          refine lq_cast (.int (nI v2)) (congrArg Value.int e_v2) ?_
          refine lq_aload_n C (i := 3) rfl 1 rfl dL_law_2105 ?_
          refine lq_callW C (z208_L_phrase l hlt S dp x out v1 v2 (by omega) (by omega) (by omega) Fm_x Fk_x) lH_310 rfl rfl ⟨by decide, by decide⟩ ⟨Nat.le_of_ble_eq_true rfl, Nat.le_of_ble_eq_true rfl⟩ rfl (Nat.le_of_ble_eq_true rfl) dL_law_2106 (fun r_2106 u_2106 h_2106 => ?_)
          obtain ⟨hr_2106, hu_2106⟩ := h_2106
          have hw_2106 := hu_2106.symm
          subst hw_2106
          have hx_2106 := hr_2106.symm
          subst hx_2106
          refine lq_istore C (lv' := [(5, .int (nI 2)), (4, .int (nI 0)), (3, .ref out), (2, .ref (a 0)), (1, .ref x), (0, .ref b)]) (by decide) rfl dL_law_2109 ?_
          refine lq_aload_n C (i := 2) rfl 3 rfl dL_law_2111 ?_
          refine lq_aload_n C (i := 0) rfl 5 rfl dL_law_2112 ?_
          refine lq_iload C 1 rfl dL_law_2113 ?_
          refine lq_iconst C (x := nI 1) rfl dL_law_2115 ?_
          refine lq_iadd C dL_law_2116 ?_
          refine lq_cast (.int (nI 1)) (congrArg Value.int (by decide)) ?_
          refine lq_sld C 1 (by decide) (by decide) dL_law_2117 ?_
          refine lq_cast (.int (nI v1)) (congrArg Value.int e_v1) ?_
          refine lq_aload_n C (i := 0) rfl 5 rfl dL_law_2118 ?_
          refine lq_iload C 1 rfl dL_law_2119 ?_
          refine lq_iconst C (x := nI 2) rfl dL_law_2121 ?_
          refine lq_iadd C dL_law_2122 ?_
          refine lq_cast (.int (nI 2)) (congrArg Value.int (by decide)) ?_
          refine lq_sld C 2 (by decide) (by decide) dL_law_2123 ?_
          refine lq_cast (.int (nI v2)) (congrArg Value.int e_v2) ?_
          refine lq_doM C (w134_phrase l v f g v1 v2 (by omega) (by omega) (by omega) Mv_2) lM_312 rfl rfl ⟨by decide, by decide⟩ ⟨Nat.le_of_ble_eq_true rfl, Nat.le_of_ble_eq_true rfl⟩ rfl (Nat.le_of_ble_eq_true rfl) dL_law_2124 ?_
          refine lq_istore C (lv' := [(6, .int (nI 0)), (5, .int (nI 2)), (4, .int (nI 0)), (3, .ref out), (2, .ref (a 0)), (1, .ref x), (0, .ref b)]) (by decide) rfl dL_law_2127 ?_
          refine lq_aload_n C (i := 2) rfl 4 rfl dL_law_2129 ?_
          refine lq_doM C (w116_thrown l (upd (upd (upd v 4 (nI 0)) 77 (nI 0)) 99 (nI 2)) f g rfl) lM_192 rfl rfl ⟨by decide, by decide⟩ ⟨Nat.le_of_ble_eq_true rfl, Nat.le_of_ble_eq_true rfl⟩ rfl (Nat.le_of_ble_eq_true rfl) dL_law_2130 ?_
          refine lq_iload C 1 rfl dL_law_2133 ?_
          refine lq_icmp_eq C 2140 (by decide) dL_law_2135 (fun _ => ?_) (fun c_ => absurd (by decide) c_)
          refine lq_iload C 1 rfl dL_law_2140 ?_
          refine lq_if_ne C 2157 (by decide) dL_law_2142 (fun _ => ?_) (fun c_ => absurd c_ (by decide))
          refine lq_goto C 3491 (by decide) dL_law_2157 ?_
          exact lq_sub [2, 6] rfl (law_tail C (Nat.le_of_ble_eq_true rfl) (Nat.le_of_ble_eq_true rfl))
    · rcases c_sgn (xs 2) with hneg_v2 | ⟨v2, hr_v2, e_v2⟩
      · obtain ⟨v2, e_v2⟩ : ∃ z : Int32, xs 2 = z := ⟨_, rfl⟩
        rw [e_v2] at hneg_v2
        obtain ⟨v3, e_v3⟩ : ∃ z : Int32, xs 3 = z := ⟨_, rfl⟩
        obtain ⟨v4, e_v4⟩ : ∃ z : Int32, xs 4 = z := ⟨_, rfl⟩
        obtain ⟨v5, e_v5⟩ : ∃ z : Int32, xs 5 = z := ⟨_, rfl⟩
        refine lq_aload_n C (i := 1) rfl 3 rfl dL_law_2092 ?_
        refine lq_aload_n C (i := 0) rfl 4 rfl dL_law_2093 ?_
        refine lq_iload C 0 rfl dL_law_2094 ?_
        refine lq_iconst C (x := nI 1) rfl dL_law_2096 ?_
        refine lq_iadd C dL_law_2097 ?_
        refine lq_cast (.int (nI 1)) (congrArg Value.int (by decide)) ?_
        refine lq_sld C 1 (by decide) (by decide) dL_law_2098 ?_
        refine lq_cast (.int (nI v1)) (congrArg Value.int e_v1) ?_
        refine lq_aload_n C (i := 0) rfl 4 rfl dL_law_2099 ?_
        refine lq_iload C 0 rfl dL_law_2100 ?_
        refine lq_iconst C (x := nI 2) rfl dL_law_2102 ?_
        refine lq_iadd C dL_law_2103 ?_
        refine lq_cast (.int (nI 2)) (congrArg Value.int (by decide)) ?_
        refine lq_sld C 2 (by decide) (by decide) dL_law_2104 ?_
        refine lq_cast (.int v2) (congrArg Value.int e_v2) ?_
        refine lq_aload_n C (i := 3) rfl 1 rfl dL_law_2105 ?_
        refine lq_callW C (z212_L_phrase l hlt S dp x out v1 v2 (by omega) (by omega) hneg_v2 Fm_x Fk_x) lH_310 rfl rfl ⟨by decide, by decide⟩ ⟨Nat.le_of_ble_eq_true rfl, Nat.le_of_ble_eq_true rfl⟩ rfl (Nat.le_of_ble_eq_true rfl) dL_law_2106 (fun r_2106 u_2106 h_2106 => ?_)
        obtain ⟨hr_2106, hu_2106⟩ := h_2106
        have hw_2106 := hu_2106.symm
        subst hw_2106
        have hx_2106 := hr_2106.symm
        subst hx_2106
        refine lq_istore C (lv' := [(5, .int (nI 1)), (4, .int (nI 0)), (3, .ref out), (2, .ref (a 0)), (1, .ref x), (0, .ref b)]) (by decide) rfl dL_law_2109 ?_
        refine lq_aload_n C (i := 2) rfl 3 rfl dL_law_2111 ?_
        refine lq_aload_n C (i := 0) rfl 5 rfl dL_law_2112 ?_
        refine lq_iload C 1 rfl dL_law_2113 ?_
        refine lq_iconst C (x := nI 1) rfl dL_law_2115 ?_
        refine lq_iadd C dL_law_2116 ?_
        refine lq_cast (.int (nI 1)) (congrArg Value.int (by decide)) ?_
        refine lq_sld C 1 (by decide) (by decide) dL_law_2117 ?_
        refine lq_cast (.int (nI v1)) (congrArg Value.int e_v1) ?_
        refine lq_aload_n C (i := 0) rfl 5 rfl dL_law_2118 ?_
        refine lq_iload C 1 rfl dL_law_2119 ?_
        refine lq_iconst C (x := nI 2) rfl dL_law_2121 ?_
        refine lq_iadd C dL_law_2122 ?_
        refine lq_cast (.int (nI 2)) (congrArg Value.int (by decide)) ?_
        refine lq_sld C 2 (by decide) (by decide) dL_law_2123 ?_
        refine lq_cast (.int v2) (congrArg Value.int e_v2) ?_
        refine lq_doM C (w135_phrase l v f g v1 v2 (by omega) (by omega) hneg_v2 Mv_2) lM_312 rfl rfl ⟨by decide, by decide⟩ ⟨Nat.le_of_ble_eq_true rfl, Nat.le_of_ble_eq_true rfl⟩ rfl (Nat.le_of_ble_eq_true rfl) dL_law_2124 ?_
        refine lq_istore C (lv' := [(6, .int (nI 0)), (5, .int (nI 1)), (4, .int (nI 0)), (3, .ref out), (2, .ref (a 0)), (1, .ref x), (0, .ref b)]) (by decide) rfl dL_law_2127 ?_
        refine lq_aload_n C (i := 2) rfl 4 rfl dL_law_2129 ?_
        refine lq_doM C (w4_thrown l (upd (upd (upd v 4 (nI 0)) 77 (nI 0)) 99 (nI 1)) f g rfl) lM_192 rfl rfl ⟨by decide, by decide⟩ ⟨Nat.le_of_ble_eq_true rfl, Nat.le_of_ble_eq_true rfl⟩ rfl (Nat.le_of_ble_eq_true rfl) dL_law_2130 ?_
        refine lq_iload C 1 rfl dL_law_2133 ?_
        refine lq_icmp_eq C 2140 (by decide) dL_law_2135 (fun _ => ?_) (fun c_ => absurd (by decide) c_)
        refine lq_iload C 1 rfl dL_law_2140 ?_
        refine lq_if_ne C 2157 (by decide) dL_law_2142 (fun _ => ?_) (fun c_ => absurd c_ (by decide))
        refine lq_goto C 3491 (by decide) dL_law_2157 ?_
        exact lq_sub [2, 6] rfl (law_tail C (Nat.le_of_ble_eq_true rfl) (Nat.le_of_ble_eq_true rfl))
      · rcases Nat.lt_or_ge v2 21 with hlt_v2 | hlt_v2
        · obtain ⟨v3, e_v3⟩ : ∃ z : Int32, xs 3 = z := ⟨_, rfl⟩
          obtain ⟨v4, e_v4⟩ : ∃ z : Int32, xs 4 = z := ⟨_, rfl⟩
          obtain ⟨v5, e_v5⟩ : ∃ z : Int32, xs 5 = z := ⟨_, rfl⟩
          refine lq_aload_n C (i := 1) rfl 3 rfl dL_law_2092 ?_
          refine lq_aload_n C (i := 0) rfl 4 rfl dL_law_2093 ?_
          refine lq_iload C 0 rfl dL_law_2094 ?_
          refine lq_iconst C (x := nI 1) rfl dL_law_2096 ?_
          refine lq_iadd C dL_law_2097 ?_
          refine lq_cast (.int (nI 1)) (congrArg Value.int (by decide)) ?_
          refine lq_sld C 1 (by decide) (by decide) dL_law_2098 ?_
          refine lq_cast (.int (nI v1)) (congrArg Value.int e_v1) ?_
          refine lq_aload_n C (i := 0) rfl 4 rfl dL_law_2099 ?_
          refine lq_iload C 0 rfl dL_law_2100 ?_
          refine lq_iconst C (x := nI 2) rfl dL_law_2102 ?_
          refine lq_iadd C dL_law_2103 ?_
          refine lq_cast (.int (nI 2)) (congrArg Value.int (by decide)) ?_
          refine lq_sld C 2 (by decide) (by decide) dL_law_2104 ?_
          refine lq_cast (.int (nI v2)) (congrArg Value.int e_v2) ?_
          refine lq_aload_n C (i := 3) rfl 1 rfl dL_law_2105 ?_
          refine lq_callW C (z216_L_phrase l hlt S dp x out v1 v2 (by omega) (by omega) (by omega) Fm_x Fk_x) lH_310 rfl rfl ⟨by decide, by decide⟩ ⟨Nat.le_of_ble_eq_true rfl, Nat.le_of_ble_eq_true rfl⟩ rfl (Nat.le_of_ble_eq_true rfl) dL_law_2106 (fun r_2106 u_2106 h_2106 => ?_)
          obtain ⟨hr_2106, hu_2106⟩ := h_2106
          have hw_2106 := hu_2106.symm
          subst hw_2106
          have hx_2106 := hr_2106.symm
          subst hx_2106
          refine lq_istore C (lv' := [(5, .int (nI 1)), (4, .int (nI 0)), (3, .ref out), (2, .ref (a 0)), (1, .ref x), (0, .ref b)]) (by decide) rfl dL_law_2109 ?_
          refine lq_aload_n C (i := 2) rfl 3 rfl dL_law_2111 ?_
          refine lq_aload_n C (i := 0) rfl 5 rfl dL_law_2112 ?_
          refine lq_iload C 1 rfl dL_law_2113 ?_
          refine lq_iconst C (x := nI 1) rfl dL_law_2115 ?_
          refine lq_iadd C dL_law_2116 ?_
          refine lq_cast (.int (nI 1)) (congrArg Value.int (by decide)) ?_
          refine lq_sld C 1 (by decide) (by decide) dL_law_2117 ?_
          refine lq_cast (.int (nI v1)) (congrArg Value.int e_v1) ?_
          refine lq_aload_n C (i := 0) rfl 5 rfl dL_law_2118 ?_
          refine lq_iload C 1 rfl dL_law_2119 ?_
          refine lq_iconst C (x := nI 2) rfl dL_law_2121 ?_
          refine lq_iadd C dL_law_2122 ?_
          refine lq_cast (.int (nI 2)) (congrArg Value.int (by decide)) ?_
          refine lq_sld C 2 (by decide) (by decide) dL_law_2123 ?_
          refine lq_cast (.int (nI v2)) (congrArg Value.int e_v2) ?_
          refine lq_doM C (w136_phrase l v f g v1 v2 (by omega) (by omega) (by omega) Mv_2) lM_312 rfl rfl ⟨by decide, by decide⟩ ⟨Nat.le_of_ble_eq_true rfl, Nat.le_of_ble_eq_true rfl⟩ rfl (Nat.le_of_ble_eq_true rfl) dL_law_2124 ?_
          refine lq_istore C (lv' := [(6, .int (nI 0)), (5, .int (nI 1)), (4, .int (nI 0)), (3, .ref out), (2, .ref (a 0)), (1, .ref x), (0, .ref b)]) (by decide) rfl dL_law_2127 ?_
          refine lq_aload_n C (i := 2) rfl 4 rfl dL_law_2129 ?_
          refine lq_doM C (w4_thrown l (upd (upd (upd v 4 (nI 0)) 77 (nI 0)) 99 (nI 1)) f g rfl) lM_192 rfl rfl ⟨by decide, by decide⟩ ⟨Nat.le_of_ble_eq_true rfl, Nat.le_of_ble_eq_true rfl⟩ rfl (Nat.le_of_ble_eq_true rfl) dL_law_2130 ?_
          refine lq_iload C 1 rfl dL_law_2133 ?_
          refine lq_icmp_eq C 2140 (by decide) dL_law_2135 (fun _ => ?_) (fun c_ => absurd (by decide) c_)
          refine lq_iload C 1 rfl dL_law_2140 ?_
          refine lq_if_ne C 2157 (by decide) dL_law_2142 (fun _ => ?_) (fun c_ => absurd c_ (by decide))
          refine lq_goto C 3491 (by decide) dL_law_2157 ?_
          exact lq_sub [2, 6] rfl (law_tail C (Nat.le_of_ble_eq_true rfl) (Nat.le_of_ble_eq_true rfl))
        · obtain ⟨v3, e_v3⟩ : ∃ z : Int32, xs 3 = z := ⟨_, rfl⟩
          obtain ⟨v4, e_v4⟩ : ∃ z : Int32, xs 4 = z := ⟨_, rfl⟩
          obtain ⟨v5, e_v5⟩ : ∃ z : Int32, xs 5 = z := ⟨_, rfl⟩
          refine lq_aload_n C (i := 1) rfl 3 rfl dL_law_2092 ?_
          refine lq_aload_n C (i := 0) rfl 4 rfl dL_law_2093 ?_
          refine lq_iload C 0 rfl dL_law_2094 ?_
          refine lq_iconst C (x := nI 1) rfl dL_law_2096 ?_
          refine lq_iadd C dL_law_2097 ?_
          refine lq_cast (.int (nI 1)) (congrArg Value.int (by decide)) ?_
          refine lq_sld C 1 (by decide) (by decide) dL_law_2098 ?_
          refine lq_cast (.int (nI v1)) (congrArg Value.int e_v1) ?_
          refine lq_aload_n C (i := 0) rfl 4 rfl dL_law_2099 ?_
          refine lq_iload C 0 rfl dL_law_2100 ?_
          refine lq_iconst C (x := nI 2) rfl dL_law_2102 ?_
          refine lq_iadd C dL_law_2103 ?_
          refine lq_cast (.int (nI 2)) (congrArg Value.int (by decide)) ?_
          refine lq_sld C 2 (by decide) (by decide) dL_law_2104 ?_
          refine lq_cast (.int (nI v2)) (congrArg Value.int e_v2) ?_
          refine lq_aload_n C (i := 3) rfl 1 rfl dL_law_2105 ?_
          refine lq_callW C (z218_L_phrase l hlt S dp x out v1 v2 (by omega) (by omega) (by omega) (by omega) Fm_x Fk_x) lH_310 rfl rfl ⟨by decide, by decide⟩ ⟨Nat.le_of_ble_eq_true rfl, Nat.le_of_ble_eq_true rfl⟩ rfl (Nat.le_of_ble_eq_true rfl) dL_law_2106 (fun r_2106 u_2106 h_2106 => ?_)
          obtain ⟨hr_2106, hu_2106⟩ := h_2106
          have hw_2106 := hu_2106.symm
          subst hw_2106
          have hx_2106 := hr_2106.symm
          subst hx_2106
          refine lq_istore C (lv' := [(5, .int (nI 1)), (4, .int (nI 0)), (3, .ref out), (2, .ref (a 0)), (1, .ref x), (0, .ref b)]) (by decide) rfl dL_law_2109 ?_
          refine lq_aload_n C (i := 2) rfl 3 rfl dL_law_2111 ?_
          refine lq_aload_n C (i := 0) rfl 5 rfl dL_law_2112 ?_
          refine lq_iload C 1 rfl dL_law_2113 ?_
          refine lq_iconst C (x := nI 1) rfl dL_law_2115 ?_
          refine lq_iadd C dL_law_2116 ?_
          refine lq_cast (.int (nI 1)) (congrArg Value.int (by decide)) ?_
          refine lq_sld C 1 (by decide) (by decide) dL_law_2117 ?_
          refine lq_cast (.int (nI v1)) (congrArg Value.int e_v1) ?_
          refine lq_aload_n C (i := 0) rfl 5 rfl dL_law_2118 ?_
          refine lq_iload C 1 rfl dL_law_2119 ?_
          refine lq_iconst C (x := nI 2) rfl dL_law_2121 ?_
          refine lq_iadd C dL_law_2122 ?_
          refine lq_cast (.int (nI 2)) (congrArg Value.int (by decide)) ?_
          refine lq_sld C 2 (by decide) (by decide) dL_law_2123 ?_
          refine lq_cast (.int (nI v2)) (congrArg Value.int e_v2) ?_
          refine lq_doM C (w137_phrase l v f g v1 v2 (by omega) (by omega) (by omega) (by omega) Mv_2) lM_312 rfl rfl ⟨by decide, by decide⟩ ⟨Nat.le_of_ble_eq_true rfl, Nat.le_of_ble_eq_true rfl⟩ rfl (Nat.le_of_ble_eq_true rfl) dL_law_2124 ?_
          refine lq_istore C (lv' := [(6, .int (nI 0)), (5, .int (nI 1)), (4, .int (nI 0)), (3, .ref out), (2, .ref (a 0)), (1, .ref x), (0, .ref b)]) (by decide) rfl dL_law_2127 ?_
          refine lq_aload_n C (i := 2) rfl 4 rfl dL_law_2129 ?_
          refine lq_doM C (w4_thrown l (upd (upd (upd v 4 (nI 0)) 77 (nI 0)) 99 (nI 1)) f g rfl) lM_192 rfl rfl ⟨by decide, by decide⟩ ⟨Nat.le_of_ble_eq_true rfl, Nat.le_of_ble_eq_true rfl⟩ rfl (Nat.le_of_ble_eq_true rfl) dL_law_2130 ?_
          refine lq_iload C 1 rfl dL_law_2133 ?_
          refine lq_icmp_eq C 2140 (by decide) dL_law_2135 (fun _ => ?_) (fun c_ => absurd (by decide) c_)
          refine lq_iload C 1 rfl dL_law_2140 ?_
          refine lq_if_ne C 2157 (by decide) dL_law_2142 (fun _ => ?_) (fun c_ => absurd c_ (by decide))
          refine lq_goto C 3491 (by decide) dL_law_2157 ?_
          exact lq_sub [2, 6] rfl (law_tail C (Nat.le_of_ble_eq_true rfl) (Nat.le_of_ble_eq_true rfl))
set_option maxHeartbeats 8000000 in
set_option maxRecDepth 100000 in
theorem law_case36 (C : lC p l s m meth c b 6 xs D Y tp dp) {S : cS} {a : Nat → Nat} {v : Nat → Int32} {f : Nat → Nat → Int32} {g : Nat → Nat → Int64} {x out q1 q2 q3 q10 q11 q15 q19 q20 q21 q22 q23 q29 q30 q37 : Nat} (F : cFr S dp x out q1 q2 q3 q10 q11 q15 q19 q20 q21 q22 q23 q29 q30 q37) (M : mFr v f g) : lG p l e s m below meth c b D Y 174 409927 2160 [(4, .int (nI 0)), (3, .ref out), (2, .ref (a 0)), (1, .ref x), (0, .ref b)] [] S a v f g := by
  have hlt := C.2.2.2.2.2.2.2.2.2.2.1
  obtain ⟨FeI_q30_0, FeI_q30_1, Fi_195_q23, Fi_289_q11, Fi_289_q15, Fi_289_q2, Fi_33_q37, Fi_361_x, Fi_366_x, Fi_368_x, Fi_369_x, Fi_36_q37, Fi_370_x, Fi_37_q37, Fi_384_q19, Fi_384_q22, Fi_386_q19, Fi_386_q21, Fi_386_q22, Fk_out, Fk_q1, Fk_q10, Fk_q11, Fk_q15, Fk_q19, Fk_q2, Fk_q20, Fk_q21, Fk_q22, Fk_q23, Fk_q29, Fk_q3, Fk_q30, Fk_q37, Fk_x, Fm_out, Fm_q1, Fm_q10, Fm_q11, Fm_q15, Fm_q19, Fm_q2, Fm_q20, Fm_q21, Fm_q22, Fm_q23, Fm_q29, Fm_q3, Fm_q30, Fm_q37, Fm_x, Fn_out, Fn_q3, Fn_q30, Fr_224_q29, Fr_288_q2, Fr_321_q20, Fr_352_x, Fr_353_x, Fr_354_x, Fr_355_x, Fr_356_x, Fr_358_x, Fr_359_x, Fr_360_x, Fr_362_x, Fr_364_x, Fr_365_x, Fr_385_q19, Fr_385_q22, Fr_3_q10, Fr_4_q10, Fr_96_q1⟩ := F
  obtain ⟨Mall_21, Mall_22, Mf_29_0, Mf_29_1, Mf_29_2, Mf_29_3, Mf_29_4, Mf_49_0, Mf_49_1, Mf_8_0, Mf_8_1, Mg_7_0, Mg_7_1, Mg_7_10, Mg_7_11, Mg_7_12, Mg_7_13, Mg_7_14, Mg_7_15, Mg_7_16, Mg_7_17, Mg_7_18, Mg_7_19, Mg_7_2, Mg_7_20, Mg_7_21, Mg_7_22, Mg_7_23, Mg_7_24, Mg_7_25, Mg_7_26, Mg_7_27, Mg_7_28, Mg_7_29, Mg_7_3, Mg_7_30, Mg_7_31, Mg_7_32, Mg_7_33, Mg_7_34, Mg_7_35, Mg_7_36, Mg_7_37, Mg_7_38, Mg_7_39, Mg_7_4, Mg_7_5, Mg_7_6, Mg_7_7, Mg_7_8, Mg_7_9, Mv_13, Mv_14, Mv_2, Mv_20, Mv_29, Mv_34, Mv_35, Mv_40, Mv_48, Mv_49, Mv_72, Mv_88, Mv_89, Mv_90, Mv_96, Mv_97, Mv_98⟩ := M
  rcases c_sgn (xs 3) with hneg_v3 | ⟨v3, hr_v3, e_v3⟩
  · obtain ⟨v3, e_v3⟩ : ∃ z : Int32, xs 3 = z := ⟨_, rfl⟩
    rw [e_v3] at hneg_v3
    rcases c_sgn (xs 1) with hneg_v1 | ⟨v1, hr_v1, e_v1⟩
    · obtain ⟨v1, e_v1⟩ : ∃ z : Int32, xs 1 = z := ⟨_, rfl⟩
      rw [e_v1] at hneg_v1
      rcases c_sgn (xs 2) with hneg_v2 | ⟨v2, hr_v2, e_v2⟩
      · obtain ⟨v2, e_v2⟩ : ∃ z : Int32, xs 2 = z := ⟨_, rfl⟩
        rw [e_v2] at hneg_v2
        obtain ⟨v4, e_v4⟩ : ∃ z : Int32, xs 4 = z := ⟨_, rfl⟩
        obtain ⟨v5, e_v5⟩ : ∃ z : Int32, xs 5 = z := ⟨_, rfl⟩
        refine lq_aload_n C (i := 1) rfl 3 rfl dL_law_2160 ?_
        refine lq_aload_n C (i := 0) rfl 4 rfl dL_law_2161 ?_
        refine lq_iload C 0 rfl dL_law_2162 ?_
        refine lq_iconst C (x := nI 1) rfl dL_law_2164 ?_
        refine lq_iadd C dL_law_2165 ?_
        refine lq_cast (.int (nI 1)) (congrArg Value.int (by decide)) ?_
        refine lq_sld C 1 (by decide) (by decide) dL_law_2166 ?_
        refine lq_cast (.int v1) (congrArg Value.int e_v1) ?_
        refine lq_aload_n C (i := 0) rfl 4 rfl dL_law_2167 ?_
        refine lq_iload C 0 rfl dL_law_2168 ?_
        refine lq_iconst C (x := nI 2) rfl dL_law_2170 ?_
        refine lq_iadd C dL_law_2171 ?_
        refine lq_cast (.int (nI 2)) (congrArg Value.int (by decide)) ?_
        refine lq_sld C 2 (by decide) (by decide) dL_law_2172 ?_
        refine lq_cast (.int v2) (congrArg Value.int e_v2) ?_
        refine lq_aload_n C (i := 0) rfl 4 rfl dL_law_2173 ?_
        refine lq_iload C 0 rfl dL_law_2174 ?_
        refine lq_iconst C (x := nI 3) rfl dL_law_2176 ?_
        refine lq_iadd C dL_law_2177 ?_
        refine lq_cast (.int (nI 3)) (congrArg Value.int (by decide)) ?_
        refine lq_sld C 3 (by decide) (by decide) dL_law_2178 ?_
        refine lq_cast (.int v3) (congrArg Value.int e_v3) ?_
        refine lq_if_eq C 2186 (by decide) dL_law_2179 (fun c_ => absurd c_ (cneg0_ne hneg_v3)) (fun _ => ?_)
        refine lq_iconst C (x := nI 1) rfl dL_law_2182 ?_
        refine lq_goto C 2187 (by decide) dL_law_2183 ?_
        refine lq_aload_n C (i := 3) rfl 1 rfl dL_law_2187 ?_
        refine lq_callW C (z222_L_near l hlt S dp x out v1 v2 hneg_v1 hneg_v2 Fm_x Fk_x) lH_313 rfl rfl ⟨by decide, by decide⟩ ⟨Nat.le_of_ble_eq_true rfl, Nat.le_of_ble_eq_true rfl⟩ rfl (Nat.le_of_ble_eq_true rfl) dL_law_2188 (fun r_2188 u_2188 h_2188 => ?_)
        obtain ⟨hr_2188, hu_2188⟩ := h_2188
        have hw_2188 := hu_2188.symm
        subst hw_2188
        have hx_2188 := hr_2188.symm
        subst hx_2188
        refine lq_istore C (lv' := [(5, .int (nI 1)), (4, .int (nI 0)), (3, .ref out), (2, .ref (a 0)), (1, .ref x), (0, .ref b)]) (by decide) rfl dL_law_2191 ?_
        refine lq_aload_n C (i := 2) rfl 3 rfl dL_law_2193 ?_
        refine lq_aload_n C (i := 0) rfl 5 rfl dL_law_2194 ?_
        refine lq_iload C 1 rfl dL_law_2195 ?_
        refine lq_iconst C (x := nI 1) rfl dL_law_2197 ?_
        refine lq_iadd C dL_law_2198 ?_
        refine lq_cast (.int (nI 1)) (congrArg Value.int (by decide)) ?_
        refine lq_sld C 1 (by decide) (by decide) dL_law_2199 ?_
        refine lq_cast (.int v1) (congrArg Value.int e_v1) ?_
        refine lq_aload_n C (i := 0) rfl 5 rfl dL_law_2200 ?_
        refine lq_iload C 1 rfl dL_law_2201 ?_
        refine lq_iconst C (x := nI 2) rfl dL_law_2203 ?_
        refine lq_iadd C dL_law_2204 ?_
        refine lq_cast (.int (nI 2)) (congrArg Value.int (by decide)) ?_
        refine lq_sld C 2 (by decide) (by decide) dL_law_2205 ?_
        refine lq_cast (.int v2) (congrArg Value.int e_v2) ?_
        refine lq_aload_n C (i := 0) rfl 5 rfl dL_law_2206 ?_
        refine lq_iload C 1 rfl dL_law_2207 ?_
        refine lq_iconst C (x := nI 3) rfl dL_law_2209 ?_
        refine lq_iadd C dL_law_2210 ?_
        refine lq_cast (.int (nI 3)) (congrArg Value.int (by decide)) ?_
        refine lq_sld C 3 (by decide) (by decide) dL_law_2211 ?_
        refine lq_cast (.int v3) (congrArg Value.int e_v3) ?_
        refine lq_if_eq C 2219 (by decide) dL_law_2212 (fun c_ => absurd c_ (cneg0_ne hneg_v3)) (fun _ => ?_)
        refine lq_iconst C (x := nI 1) rfl dL_law_2215 ?_
        refine lq_goto C 2220 (by decide) dL_law_2216 ?_
        refine lq_doM C (w141_near l v f g v1 v2 hneg_v1 hneg_v2 Mv_2) lM_316 rfl rfl ⟨by decide, by decide⟩ ⟨Nat.le_of_ble_eq_true rfl, Nat.le_of_ble_eq_true rfl⟩ rfl (Nat.le_of_ble_eq_true rfl) dL_law_2220 ?_
        refine lq_istore C (lv' := [(6, .int (nI 0)), (5, .int (nI 1)), (4, .int (nI 0)), (3, .ref out), (2, .ref (a 0)), (1, .ref x), (0, .ref b)]) (by decide) rfl dL_law_2223 ?_
        refine lq_aload_n C (i := 2) rfl 4 rfl dL_law_2225 ?_
        refine lq_doM C (w4_thrown l (upd (upd (upd v 4 (nI 0)) 77 (nI 0)) 99 (nI 1)) f g rfl) lM_192 rfl rfl ⟨by decide, by decide⟩ ⟨Nat.le_of_ble_eq_true rfl, Nat.le_of_ble_eq_true rfl⟩ rfl (Nat.le_of_ble_eq_true rfl) dL_law_2226 ?_
        refine lq_iload C 1 rfl dL_law_2229 ?_
        refine lq_icmp_eq C 2236 (by decide) dL_law_2231 (fun _ => ?_) (fun c_ => absurd (by decide) c_)
        refine lq_iload C 1 rfl dL_law_2236 ?_
        refine lq_if_ne C 2253 (by decide) dL_law_2238 (fun _ => ?_) (fun c_ => absurd c_ (by decide))
        refine lq_goto C 3491 (by decide) dL_law_2253 ?_
        exact lq_sub [2, 6] rfl (law_tail C (Nat.le_of_ble_eq_true rfl) (Nat.le_of_ble_eq_true rfl))
      · rcases Nat.lt_or_ge v2 1 with hlt_v2 | hlt_v2
        · obtain rfl : v2 = 0 := by omega
          obtain ⟨v4, e_v4⟩ : ∃ z : Int32, xs 4 = z := ⟨_, rfl⟩
          obtain ⟨v5, e_v5⟩ : ∃ z : Int32, xs 5 = z := ⟨_, rfl⟩
          refine lq_aload_n C (i := 1) rfl 3 rfl dL_law_2160 ?_
          refine lq_aload_n C (i := 0) rfl 4 rfl dL_law_2161 ?_
          refine lq_iload C 0 rfl dL_law_2162 ?_
          refine lq_iconst C (x := nI 1) rfl dL_law_2164 ?_
          refine lq_iadd C dL_law_2165 ?_
          refine lq_cast (.int (nI 1)) (congrArg Value.int (by decide)) ?_
          refine lq_sld C 1 (by decide) (by decide) dL_law_2166 ?_
          refine lq_cast (.int v1) (congrArg Value.int e_v1) ?_
          refine lq_aload_n C (i := 0) rfl 4 rfl dL_law_2167 ?_
          refine lq_iload C 0 rfl dL_law_2168 ?_
          refine lq_iconst C (x := nI 2) rfl dL_law_2170 ?_
          refine lq_iadd C dL_law_2171 ?_
          refine lq_cast (.int (nI 2)) (congrArg Value.int (by decide)) ?_
          refine lq_sld C 2 (by decide) (by decide) dL_law_2172 ?_
          refine lq_cast (.int (nI 0)) (congrArg Value.int e_v2) ?_
          refine lq_aload_n C (i := 0) rfl 4 rfl dL_law_2173 ?_
          refine lq_iload C 0 rfl dL_law_2174 ?_
          refine lq_iconst C (x := nI 3) rfl dL_law_2176 ?_
          refine lq_iadd C dL_law_2177 ?_
          refine lq_cast (.int (nI 3)) (congrArg Value.int (by decide)) ?_
          refine lq_sld C 3 (by decide) (by decide) dL_law_2178 ?_
          refine lq_cast (.int v3) (congrArg Value.int e_v3) ?_
          refine lq_if_eq C 2186 (by decide) dL_law_2179 (fun c_ => absurd c_ (cneg0_ne hneg_v3)) (fun _ => ?_)
          refine lq_iconst C (x := nI 1) rfl dL_law_2182 ?_
          refine lq_goto C 2187 (by decide) dL_law_2183 ?_
          refine lq_aload_n C (i := 3) rfl 1 rfl dL_law_2187 ?_
          refine lq_callW C (z226_L_near l hlt S dp x out v1 hneg_v1 Fm_x Fk_x) lH_313 rfl rfl ⟨by decide, by decide⟩ ⟨Nat.le_of_ble_eq_true rfl, Nat.le_of_ble_eq_true rfl⟩ rfl (Nat.le_of_ble_eq_true rfl) dL_law_2188 (fun r_2188 u_2188 h_2188 => ?_)
          obtain ⟨hr_2188, hu_2188⟩ := h_2188
          have hw_2188 := hu_2188.symm
          subst hw_2188
          have hx_2188 := hr_2188.symm
          subst hx_2188
          refine lq_istore C (lv' := [(5, .int (nI 1)), (4, .int (nI 0)), (3, .ref out), (2, .ref (a 0)), (1, .ref x), (0, .ref b)]) (by decide) rfl dL_law_2191 ?_
          refine lq_aload_n C (i := 2) rfl 3 rfl dL_law_2193 ?_
          refine lq_aload_n C (i := 0) rfl 5 rfl dL_law_2194 ?_
          refine lq_iload C 1 rfl dL_law_2195 ?_
          refine lq_iconst C (x := nI 1) rfl dL_law_2197 ?_
          refine lq_iadd C dL_law_2198 ?_
          refine lq_cast (.int (nI 1)) (congrArg Value.int (by decide)) ?_
          refine lq_sld C 1 (by decide) (by decide) dL_law_2199 ?_
          refine lq_cast (.int v1) (congrArg Value.int e_v1) ?_
          refine lq_aload_n C (i := 0) rfl 5 rfl dL_law_2200 ?_
          refine lq_iload C 1 rfl dL_law_2201 ?_
          refine lq_iconst C (x := nI 2) rfl dL_law_2203 ?_
          refine lq_iadd C dL_law_2204 ?_
          refine lq_cast (.int (nI 2)) (congrArg Value.int (by decide)) ?_
          refine lq_sld C 2 (by decide) (by decide) dL_law_2205 ?_
          refine lq_cast (.int (nI 0)) (congrArg Value.int e_v2) ?_
          refine lq_aload_n C (i := 0) rfl 5 rfl dL_law_2206 ?_
          refine lq_iload C 1 rfl dL_law_2207 ?_
          refine lq_iconst C (x := nI 3) rfl dL_law_2209 ?_
          refine lq_iadd C dL_law_2210 ?_
          refine lq_cast (.int (nI 3)) (congrArg Value.int (by decide)) ?_
          refine lq_sld C 3 (by decide) (by decide) dL_law_2211 ?_
          refine lq_cast (.int v3) (congrArg Value.int e_v3) ?_
          refine lq_if_eq C 2219 (by decide) dL_law_2212 (fun c_ => absurd c_ (cneg0_ne hneg_v3)) (fun _ => ?_)
          refine lq_iconst C (x := nI 1) rfl dL_law_2215 ?_
          refine lq_goto C 2220 (by decide) dL_law_2216 ?_
          refine lq_doM C (w143_near l v f g v1 hneg_v1 Mv_2) lM_316 rfl rfl ⟨by decide, by decide⟩ ⟨Nat.le_of_ble_eq_true rfl, Nat.le_of_ble_eq_true rfl⟩ rfl (Nat.le_of_ble_eq_true rfl) dL_law_2220 ?_
          refine lq_istore C (lv' := [(6, .int (nI 0)), (5, .int (nI 1)), (4, .int (nI 0)), (3, .ref out), (2, .ref (a 0)), (1, .ref x), (0, .ref b)]) (by decide) rfl dL_law_2223 ?_
          refine lq_aload_n C (i := 2) rfl 4 rfl dL_law_2225 ?_
          refine lq_doM C (w4_thrown l (upd (upd (upd v 4 (nI 0)) 77 (nI 0)) 99 (nI 1)) f g rfl) lM_192 rfl rfl ⟨by decide, by decide⟩ ⟨Nat.le_of_ble_eq_true rfl, Nat.le_of_ble_eq_true rfl⟩ rfl (Nat.le_of_ble_eq_true rfl) dL_law_2226 ?_
          refine lq_iload C 1 rfl dL_law_2229 ?_
          refine lq_icmp_eq C 2236 (by decide) dL_law_2231 (fun _ => ?_) (fun c_ => absurd (by decide) c_)
          refine lq_iload C 1 rfl dL_law_2236 ?_
          refine lq_if_ne C 2253 (by decide) dL_law_2238 (fun _ => ?_) (fun c_ => absurd c_ (by decide))
          refine lq_goto C 3491 (by decide) dL_law_2253 ?_
          exact lq_sub [2, 6] rfl (law_tail C (Nat.le_of_ble_eq_true rfl) (Nat.le_of_ble_eq_true rfl))
        · rcases Nat.lt_or_ge v2 21 with hlt_v2 | hlt_v2
          · obtain ⟨v4, e_v4⟩ : ∃ z : Int32, xs 4 = z := ⟨_, rfl⟩
            obtain ⟨v5, e_v5⟩ : ∃ z : Int32, xs 5 = z := ⟨_, rfl⟩
            refine lq_aload_n C (i := 1) rfl 3 rfl dL_law_2160 ?_
            refine lq_aload_n C (i := 0) rfl 4 rfl dL_law_2161 ?_
            refine lq_iload C 0 rfl dL_law_2162 ?_
            refine lq_iconst C (x := nI 1) rfl dL_law_2164 ?_
            refine lq_iadd C dL_law_2165 ?_
            refine lq_cast (.int (nI 1)) (congrArg Value.int (by decide)) ?_
            refine lq_sld C 1 (by decide) (by decide) dL_law_2166 ?_
            refine lq_cast (.int v1) (congrArg Value.int e_v1) ?_
            refine lq_aload_n C (i := 0) rfl 4 rfl dL_law_2167 ?_
            refine lq_iload C 0 rfl dL_law_2168 ?_
            refine lq_iconst C (x := nI 2) rfl dL_law_2170 ?_
            refine lq_iadd C dL_law_2171 ?_
            refine lq_cast (.int (nI 2)) (congrArg Value.int (by decide)) ?_
            refine lq_sld C 2 (by decide) (by decide) dL_law_2172 ?_
            refine lq_cast (.int (nI v2)) (congrArg Value.int e_v2) ?_
            refine lq_aload_n C (i := 0) rfl 4 rfl dL_law_2173 ?_
            refine lq_iload C 0 rfl dL_law_2174 ?_
            refine lq_iconst C (x := nI 3) rfl dL_law_2176 ?_
            refine lq_iadd C dL_law_2177 ?_
            refine lq_cast (.int (nI 3)) (congrArg Value.int (by decide)) ?_
            refine lq_sld C 3 (by decide) (by decide) dL_law_2178 ?_
            refine lq_cast (.int v3) (congrArg Value.int e_v3) ?_
            refine lq_if_eq C 2186 (by decide) dL_law_2179 (fun c_ => absurd c_ (cneg0_ne hneg_v3)) (fun _ => ?_)
            refine lq_iconst C (x := nI 1) rfl dL_law_2182 ?_
            refine lq_goto C 2187 (by decide) dL_law_2183 ?_
            refine lq_aload_n C (i := 3) rfl 1 rfl dL_law_2187 ?_
            refine lq_callW C (z230_L_near l hlt S dp x out v2 v1 hneg_v1 (by omega) (by omega) Fm_x Fk_x) lH_313 rfl rfl ⟨by decide, by decide⟩ ⟨Nat.le_of_ble_eq_true rfl, Nat.le_of_ble_eq_true rfl⟩ rfl (Nat.le_of_ble_eq_true rfl) dL_law_2188 (fun r_2188 u_2188 h_2188 => ?_)
            obtain ⟨hr_2188, hu_2188⟩ := h_2188
            have hw_2188 := hu_2188.symm
            subst hw_2188
            have hx_2188 := hr_2188.symm
            subst hx_2188
            refine lq_istore C (lv' := [(5, .int (nI 1)), (4, .int (nI 0)), (3, .ref out), (2, .ref (a 0)), (1, .ref x), (0, .ref b)]) (by decide) rfl dL_law_2191 ?_
            refine lq_aload_n C (i := 2) rfl 3 rfl dL_law_2193 ?_
            refine lq_aload_n C (i := 0) rfl 5 rfl dL_law_2194 ?_
            refine lq_iload C 1 rfl dL_law_2195 ?_
            refine lq_iconst C (x := nI 1) rfl dL_law_2197 ?_
            refine lq_iadd C dL_law_2198 ?_
            refine lq_cast (.int (nI 1)) (congrArg Value.int (by decide)) ?_
            refine lq_sld C 1 (by decide) (by decide) dL_law_2199 ?_
            refine lq_cast (.int v1) (congrArg Value.int e_v1) ?_
            refine lq_aload_n C (i := 0) rfl 5 rfl dL_law_2200 ?_
            refine lq_iload C 1 rfl dL_law_2201 ?_
            refine lq_iconst C (x := nI 2) rfl dL_law_2203 ?_
            refine lq_iadd C dL_law_2204 ?_
            refine lq_cast (.int (nI 2)) (congrArg Value.int (by decide)) ?_
            refine lq_sld C 2 (by decide) (by decide) dL_law_2205 ?_
            refine lq_cast (.int (nI v2)) (congrArg Value.int e_v2) ?_
            refine lq_aload_n C (i := 0) rfl 5 rfl dL_law_2206 ?_
            refine lq_iload C 1 rfl dL_law_2207 ?_
            refine lq_iconst C (x := nI 3) rfl dL_law_2209 ?_
            refine lq_iadd C dL_law_2210 ?_
            refine lq_cast (.int (nI 3)) (congrArg Value.int (by decide)) ?_
            refine lq_sld C 3 (by decide) (by decide) dL_law_2211 ?_
            refine lq_cast (.int v3) (congrArg Value.int e_v3) ?_
            refine lq_if_eq C 2219 (by decide) dL_law_2212 (fun c_ => absurd c_ (cneg0_ne hneg_v3)) (fun _ => ?_)
            refine lq_iconst C (x := nI 1) rfl dL_law_2215 ?_
            refine lq_goto C 2220 (by decide) dL_law_2216 ?_
            refine lq_doM C (w145_near l v f g v2 v1 hneg_v1 (by omega) (by omega) Mv_2) lM_316 rfl rfl ⟨by decide, by decide⟩ ⟨Nat.le_of_ble_eq_true rfl, Nat.le_of_ble_eq_true rfl⟩ rfl (Nat.le_of_ble_eq_true rfl) dL_law_2220 ?_
            refine lq_istore C (lv' := [(6, .int (nI 0)), (5, .int (nI 1)), (4, .int (nI 0)), (3, .ref out), (2, .ref (a 0)), (1, .ref x), (0, .ref b)]) (by decide) rfl dL_law_2223 ?_
            refine lq_aload_n C (i := 2) rfl 4 rfl dL_law_2225 ?_
            refine lq_doM C (w4_thrown l (upd (upd (upd v 4 (nI 0)) 77 (nI 0)) 99 (nI 1)) f g rfl) lM_192 rfl rfl ⟨by decide, by decide⟩ ⟨Nat.le_of_ble_eq_true rfl, Nat.le_of_ble_eq_true rfl⟩ rfl (Nat.le_of_ble_eq_true rfl) dL_law_2226 ?_
            refine lq_iload C 1 rfl dL_law_2229 ?_
            refine lq_icmp_eq C 2236 (by decide) dL_law_2231 (fun _ => ?_) (fun c_ => absurd (by decide) c_)
            refine lq_iload C 1 rfl dL_law_2236 ?_
            refine lq_if_ne C 2253 (by decide) dL_law_2238 (fun _ => ?_) (fun c_ => absurd c_ (by decide))
            refine lq_goto C 3491 (by decide) dL_law_2253 ?_
            exact lq_sub [2, 6] rfl (law_tail C (Nat.le_of_ble_eq_true rfl) (Nat.le_of_ble_eq_true rfl))
          · obtain ⟨v4, e_v4⟩ : ∃ z : Int32, xs 4 = z := ⟨_, rfl⟩
            obtain ⟨v5, e_v5⟩ : ∃ z : Int32, xs 5 = z := ⟨_, rfl⟩
            refine lq_aload_n C (i := 1) rfl 3 rfl dL_law_2160 ?_
            refine lq_aload_n C (i := 0) rfl 4 rfl dL_law_2161 ?_
            refine lq_iload C 0 rfl dL_law_2162 ?_
            refine lq_iconst C (x := nI 1) rfl dL_law_2164 ?_
            refine lq_iadd C dL_law_2165 ?_
            refine lq_cast (.int (nI 1)) (congrArg Value.int (by decide)) ?_
            refine lq_sld C 1 (by decide) (by decide) dL_law_2166 ?_
            refine lq_cast (.int v1) (congrArg Value.int e_v1) ?_
            refine lq_aload_n C (i := 0) rfl 4 rfl dL_law_2167 ?_
            refine lq_iload C 0 rfl dL_law_2168 ?_
            refine lq_iconst C (x := nI 2) rfl dL_law_2170 ?_
            refine lq_iadd C dL_law_2171 ?_
            refine lq_cast (.int (nI 2)) (congrArg Value.int (by decide)) ?_
            refine lq_sld C 2 (by decide) (by decide) dL_law_2172 ?_
            refine lq_cast (.int (nI v2)) (congrArg Value.int e_v2) ?_
            refine lq_aload_n C (i := 0) rfl 4 rfl dL_law_2173 ?_
            refine lq_iload C 0 rfl dL_law_2174 ?_
            refine lq_iconst C (x := nI 3) rfl dL_law_2176 ?_
            refine lq_iadd C dL_law_2177 ?_
            refine lq_cast (.int (nI 3)) (congrArg Value.int (by decide)) ?_
            refine lq_sld C 3 (by decide) (by decide) dL_law_2178 ?_
            refine lq_cast (.int v3) (congrArg Value.int e_v3) ?_
            refine lq_if_eq C 2186 (by decide) dL_law_2179 (fun c_ => absurd c_ (cneg0_ne hneg_v3)) (fun _ => ?_)
            refine lq_iconst C (x := nI 1) rfl dL_law_2182 ?_
            refine lq_goto C 2187 (by decide) dL_law_2183 ?_
            refine lq_aload_n C (i := 3) rfl 1 rfl dL_law_2187 ?_
            refine lq_callW C (z232_L_near l hlt S dp x out v2 v1 hneg_v1 (by omega) (by omega) Fm_x Fk_x) lH_313 rfl rfl ⟨by decide, by decide⟩ ⟨Nat.le_of_ble_eq_true rfl, Nat.le_of_ble_eq_true rfl⟩ rfl (Nat.le_of_ble_eq_true rfl) dL_law_2188 (fun r_2188 u_2188 h_2188 => ?_)
            obtain ⟨hr_2188, hu_2188⟩ := h_2188
            have hw_2188 := hu_2188.symm
            subst hw_2188
            have hx_2188 := hr_2188.symm
            subst hx_2188
            refine lq_istore C (lv' := [(5, .int (nI 1)), (4, .int (nI 0)), (3, .ref out), (2, .ref (a 0)), (1, .ref x), (0, .ref b)]) (by decide) rfl dL_law_2191 ?_
            refine lq_aload_n C (i := 2) rfl 3 rfl dL_law_2193 ?_
            refine lq_aload_n C (i := 0) rfl 5 rfl dL_law_2194 ?_
            refine lq_iload C 1 rfl dL_law_2195 ?_
            refine lq_iconst C (x := nI 1) rfl dL_law_2197 ?_
            refine lq_iadd C dL_law_2198 ?_
            refine lq_cast (.int (nI 1)) (congrArg Value.int (by decide)) ?_
            refine lq_sld C 1 (by decide) (by decide) dL_law_2199 ?_
            refine lq_cast (.int v1) (congrArg Value.int e_v1) ?_
            refine lq_aload_n C (i := 0) rfl 5 rfl dL_law_2200 ?_
            refine lq_iload C 1 rfl dL_law_2201 ?_
            refine lq_iconst C (x := nI 2) rfl dL_law_2203 ?_
            refine lq_iadd C dL_law_2204 ?_
            refine lq_cast (.int (nI 2)) (congrArg Value.int (by decide)) ?_
            refine lq_sld C 2 (by decide) (by decide) dL_law_2205 ?_
            refine lq_cast (.int (nI v2)) (congrArg Value.int e_v2) ?_
            refine lq_aload_n C (i := 0) rfl 5 rfl dL_law_2206 ?_
            refine lq_iload C 1 rfl dL_law_2207 ?_
            refine lq_iconst C (x := nI 3) rfl dL_law_2209 ?_
            refine lq_iadd C dL_law_2210 ?_
            refine lq_cast (.int (nI 3)) (congrArg Value.int (by decide)) ?_
            refine lq_sld C 3 (by decide) (by decide) dL_law_2211 ?_
            refine lq_cast (.int v3) (congrArg Value.int e_v3) ?_
            refine lq_if_eq C 2219 (by decide) dL_law_2212 (fun c_ => absurd c_ (cneg0_ne hneg_v3)) (fun _ => ?_)
            refine lq_iconst C (x := nI 1) rfl dL_law_2215 ?_
            refine lq_goto C 2220 (by decide) dL_law_2216 ?_
            refine lq_doM C (w147_near l v f g v2 v1 hneg_v1 (by omega) (by omega) Mv_2) lM_316 rfl rfl ⟨by decide, by decide⟩ ⟨Nat.le_of_ble_eq_true rfl, Nat.le_of_ble_eq_true rfl⟩ rfl (Nat.le_of_ble_eq_true rfl) dL_law_2220 ?_
            refine lq_istore C (lv' := [(6, .int (nI 0)), (5, .int (nI 1)), (4, .int (nI 0)), (3, .ref out), (2, .ref (a 0)), (1, .ref x), (0, .ref b)]) (by decide) rfl dL_law_2223 ?_
            refine lq_aload_n C (i := 2) rfl 4 rfl dL_law_2225 ?_
            refine lq_doM C (w4_thrown l (upd (upd (upd v 4 (nI 0)) 77 (nI 0)) 99 (nI 1)) f g rfl) lM_192 rfl rfl ⟨by decide, by decide⟩ ⟨Nat.le_of_ble_eq_true rfl, Nat.le_of_ble_eq_true rfl⟩ rfl (Nat.le_of_ble_eq_true rfl) dL_law_2226 ?_
            refine lq_iload C 1 rfl dL_law_2229 ?_
            refine lq_icmp_eq C 2236 (by decide) dL_law_2231 (fun _ => ?_) (fun c_ => absurd (by decide) c_)
            refine lq_iload C 1 rfl dL_law_2236 ?_
            refine lq_if_ne C 2253 (by decide) dL_law_2238 (fun _ => ?_) (fun c_ => absurd c_ (by decide))
            refine lq_goto C 3491 (by decide) dL_law_2253 ?_
            exact lq_sub [2, 6] rfl (law_tail C (Nat.le_of_ble_eq_true rfl) (Nat.le_of_ble_eq_true rfl))
    · rcases Nat.lt_or_ge v1 2 with hlt_v1 | hlt_v1
      · rcases c_sgn (xs 2) with hneg_v2 | ⟨v2, hr_v2, e_v2⟩
        · obtain ⟨v2, e_v2⟩ : ∃ z : Int32, xs 2 = z := ⟨_, rfl⟩
          rw [e_v2] at hneg_v2
          obtain ⟨v4, e_v4⟩ : ∃ z : Int32, xs 4 = z := ⟨_, rfl⟩
          obtain ⟨v5, e_v5⟩ : ∃ z : Int32, xs 5 = z := ⟨_, rfl⟩
          refine lq_aload_n C (i := 1) rfl 3 rfl dL_law_2160 ?_
          refine lq_aload_n C (i := 0) rfl 4 rfl dL_law_2161 ?_
          refine lq_iload C 0 rfl dL_law_2162 ?_
          refine lq_iconst C (x := nI 1) rfl dL_law_2164 ?_
          refine lq_iadd C dL_law_2165 ?_
          refine lq_cast (.int (nI 1)) (congrArg Value.int (by decide)) ?_
          refine lq_sld C 1 (by decide) (by decide) dL_law_2166 ?_
          refine lq_cast (.int (nI v1)) (congrArg Value.int e_v1) ?_
          refine lq_aload_n C (i := 0) rfl 4 rfl dL_law_2167 ?_
          refine lq_iload C 0 rfl dL_law_2168 ?_
          refine lq_iconst C (x := nI 2) rfl dL_law_2170 ?_
          refine lq_iadd C dL_law_2171 ?_
          refine lq_cast (.int (nI 2)) (congrArg Value.int (by decide)) ?_
          refine lq_sld C 2 (by decide) (by decide) dL_law_2172 ?_
          refine lq_cast (.int v2) (congrArg Value.int e_v2) ?_
          refine lq_aload_n C (i := 0) rfl 4 rfl dL_law_2173 ?_
          refine lq_iload C 0 rfl dL_law_2174 ?_
          refine lq_iconst C (x := nI 3) rfl dL_law_2176 ?_
          refine lq_iadd C dL_law_2177 ?_
          refine lq_cast (.int (nI 3)) (congrArg Value.int (by decide)) ?_
          refine lq_sld C 3 (by decide) (by decide) dL_law_2178 ?_
          refine lq_cast (.int v3) (congrArg Value.int e_v3) ?_
          refine lq_if_eq C 2186 (by decide) dL_law_2179 (fun c_ => absurd c_ (cneg0_ne hneg_v3)) (fun _ => ?_)
          refine lq_iconst C (x := nI 1) rfl dL_law_2182 ?_
          refine lq_goto C 2187 (by decide) dL_law_2183 ?_
          refine lq_aload_n C (i := 3) rfl 1 rfl dL_law_2187 ?_
          refine lq_callW C (z234_L_near l hlt S dp x out v1 v2 (by omega) hneg_v2 Fm_x Fk_x) lH_313 rfl rfl ⟨by decide, by decide⟩ ⟨Nat.le_of_ble_eq_true rfl, Nat.le_of_ble_eq_true rfl⟩ rfl (Nat.le_of_ble_eq_true rfl) dL_law_2188 (fun r_2188 u_2188 h_2188 => ?_)
          obtain ⟨hr_2188, hu_2188⟩ := h_2188
          have hw_2188 := hu_2188.symm
          subst hw_2188
          have hx_2188 := hr_2188.symm
          subst hx_2188
          refine lq_istore C (lv' := [(5, .int (nI 2)), (4, .int (nI 0)), (3, .ref out), (2, .ref (a 0)), (1, .ref x), (0, .ref b)]) (by decide) rfl dL_law_2191 ?_
          refine lq_aload_n C (i := 2) rfl 3 rfl dL_law_2193 ?_
          refine lq_aload_n C (i := 0) rfl 5 rfl dL_law_2194 ?_
          refine lq_iload C 1 rfl dL_law_2195 ?_
          refine lq_iconst C (x := nI 1) rfl dL_law_2197 ?_
          refine lq_iadd C dL_law_2198 ?_
          refine lq_cast (.int (nI 1)) (congrArg Value.int (by decide)) ?_
          refine lq_sld C 1 (by decide) (by decide) dL_law_2199 ?_
          refine lq_cast (.int (nI v1)) (congrArg Value.int e_v1) ?_
          refine lq_aload_n C (i := 0) rfl 5 rfl dL_law_2200 ?_
          refine lq_iload C 1 rfl dL_law_2201 ?_
          refine lq_iconst C (x := nI 2) rfl dL_law_2203 ?_
          refine lq_iadd C dL_law_2204 ?_
          refine lq_cast (.int (nI 2)) (congrArg Value.int (by decide)) ?_
          refine lq_sld C 2 (by decide) (by decide) dL_law_2205 ?_
          refine lq_cast (.int v2) (congrArg Value.int e_v2) ?_
          refine lq_aload_n C (i := 0) rfl 5 rfl dL_law_2206 ?_
          refine lq_iload C 1 rfl dL_law_2207 ?_
          refine lq_iconst C (x := nI 3) rfl dL_law_2209 ?_
          refine lq_iadd C dL_law_2210 ?_
          refine lq_cast (.int (nI 3)) (congrArg Value.int (by decide)) ?_
          refine lq_sld C 3 (by decide) (by decide) dL_law_2211 ?_
          refine lq_cast (.int v3) (congrArg Value.int e_v3) ?_
          refine lq_if_eq C 2219 (by decide) dL_law_2212 (fun c_ => absurd c_ (cneg0_ne hneg_v3)) (fun _ => ?_)
          refine lq_iconst C (x := nI 1) rfl dL_law_2215 ?_
          refine lq_goto C 2220 (by decide) dL_law_2216 ?_
          refine lq_doM C (w148_near l v f g v1 v2 (by omega) hneg_v2 Mv_2) lM_316 rfl rfl ⟨by decide, by decide⟩ ⟨Nat.le_of_ble_eq_true rfl, Nat.le_of_ble_eq_true rfl⟩ rfl (Nat.le_of_ble_eq_true rfl) dL_law_2220 ?_
          refine lq_istore C (lv' := [(6, .int (nI 0)), (5, .int (nI 2)), (4, .int (nI 0)), (3, .ref out), (2, .ref (a 0)), (1, .ref x), (0, .ref b)]) (by decide) rfl dL_law_2223 ?_
          refine lq_aload_n C (i := 2) rfl 4 rfl dL_law_2225 ?_
          refine lq_doM C (w116_thrown l (upd (upd (upd v 4 (nI 0)) 77 (nI 0)) 99 (nI 2)) f g rfl) lM_192 rfl rfl ⟨by decide, by decide⟩ ⟨Nat.le_of_ble_eq_true rfl, Nat.le_of_ble_eq_true rfl⟩ rfl (Nat.le_of_ble_eq_true rfl) dL_law_2226 ?_
          refine lq_iload C 1 rfl dL_law_2229 ?_
          refine lq_icmp_eq C 2236 (by decide) dL_law_2231 (fun _ => ?_) (fun c_ => absurd (by decide) c_)
          refine lq_iload C 1 rfl dL_law_2236 ?_
          refine lq_if_ne C 2253 (by decide) dL_law_2238 (fun _ => ?_) (fun c_ => absurd c_ (by decide))
          refine lq_goto C 3491 (by decide) dL_law_2253 ?_
          exact lq_sub [2, 6] rfl (law_tail C (Nat.le_of_ble_eq_true rfl) (Nat.le_of_ble_eq_true rfl))
        · rcases Nat.lt_or_ge v2 1 with hlt_v2 | hlt_v2
          · obtain rfl : v2 = 0 := by omega
            obtain ⟨v4, e_v4⟩ : ∃ z : Int32, xs 4 = z := ⟨_, rfl⟩
            obtain ⟨v5, e_v5⟩ : ∃ z : Int32, xs 5 = z := ⟨_, rfl⟩
            refine lq_aload_n C (i := 1) rfl 3 rfl dL_law_2160 ?_
            refine lq_aload_n C (i := 0) rfl 4 rfl dL_law_2161 ?_
            refine lq_iload C 0 rfl dL_law_2162 ?_
            refine lq_iconst C (x := nI 1) rfl dL_law_2164 ?_
            refine lq_iadd C dL_law_2165 ?_
            refine lq_cast (.int (nI 1)) (congrArg Value.int (by decide)) ?_
            refine lq_sld C 1 (by decide) (by decide) dL_law_2166 ?_
            refine lq_cast (.int (nI v1)) (congrArg Value.int e_v1) ?_
            refine lq_aload_n C (i := 0) rfl 4 rfl dL_law_2167 ?_
            refine lq_iload C 0 rfl dL_law_2168 ?_
            refine lq_iconst C (x := nI 2) rfl dL_law_2170 ?_
            refine lq_iadd C dL_law_2171 ?_
            refine lq_cast (.int (nI 2)) (congrArg Value.int (by decide)) ?_
            refine lq_sld C 2 (by decide) (by decide) dL_law_2172 ?_
            refine lq_cast (.int (nI 0)) (congrArg Value.int e_v2) ?_
            refine lq_aload_n C (i := 0) rfl 4 rfl dL_law_2173 ?_
            refine lq_iload C 0 rfl dL_law_2174 ?_
            refine lq_iconst C (x := nI 3) rfl dL_law_2176 ?_
            refine lq_iadd C dL_law_2177 ?_
            refine lq_cast (.int (nI 3)) (congrArg Value.int (by decide)) ?_
            refine lq_sld C 3 (by decide) (by decide) dL_law_2178 ?_
            refine lq_cast (.int v3) (congrArg Value.int e_v3) ?_
            refine lq_if_eq C 2186 (by decide) dL_law_2179 (fun c_ => absurd c_ (cneg0_ne hneg_v3)) (fun _ => ?_)
            refine lq_iconst C (x := nI 1) rfl dL_law_2182 ?_
            refine lq_goto C 2187 (by decide) dL_law_2183 ?_
            refine lq_aload_n C (i := 3) rfl 1 rfl dL_law_2187 ?_
            refine lq_callW C (z236_L_near l hlt S dp x out v1 (by omega) Fm_x Fk_x) lH_313 rfl rfl ⟨by decide, by decide⟩ ⟨Nat.le_of_ble_eq_true rfl, Nat.le_of_ble_eq_true rfl⟩ rfl (Nat.le_of_ble_eq_true rfl) dL_law_2188 (fun r_2188 u_2188 h_2188 => ?_)
            obtain ⟨hr_2188, hu_2188⟩ := h_2188
            have hw_2188 := hu_2188.symm
            subst hw_2188
            have hx_2188 := hr_2188.symm
            subst hx_2188
            refine lq_istore C (lv' := [(5, .int (nI 2)), (4, .int (nI 0)), (3, .ref out), (2, .ref (a 0)), (1, .ref x), (0, .ref b)]) (by decide) rfl dL_law_2191 ?_
            refine lq_aload_n C (i := 2) rfl 3 rfl dL_law_2193 ?_
            refine lq_aload_n C (i := 0) rfl 5 rfl dL_law_2194 ?_
            refine lq_iload C 1 rfl dL_law_2195 ?_
            refine lq_iconst C (x := nI 1) rfl dL_law_2197 ?_
            refine lq_iadd C dL_law_2198 ?_
            refine lq_cast (.int (nI 1)) (congrArg Value.int (by decide)) ?_
            refine lq_sld C 1 (by decide) (by decide) dL_law_2199 ?_
            refine lq_cast (.int (nI v1)) (congrArg Value.int e_v1) ?_
            refine lq_aload_n C (i := 0) rfl 5 rfl dL_law_2200 ?_
            refine lq_iload C 1 rfl dL_law_2201 ?_
            refine lq_iconst C (x := nI 2) rfl dL_law_2203 ?_
            refine lq_iadd C dL_law_2204 ?_
            refine lq_cast (.int (nI 2)) (congrArg Value.int (by decide)) ?_
            refine lq_sld C 2 (by decide) (by decide) dL_law_2205 ?_
            refine lq_cast (.int (nI 0)) (congrArg Value.int e_v2) ?_
            refine lq_aload_n C (i := 0) rfl 5 rfl dL_law_2206 ?_
            refine lq_iload C 1 rfl dL_law_2207 ?_
            refine lq_iconst C (x := nI 3) rfl dL_law_2209 ?_
            refine lq_iadd C dL_law_2210 ?_
            refine lq_cast (.int (nI 3)) (congrArg Value.int (by decide)) ?_
            refine lq_sld C 3 (by decide) (by decide) dL_law_2211 ?_
            refine lq_cast (.int v3) (congrArg Value.int e_v3) ?_
            refine lq_if_eq C 2219 (by decide) dL_law_2212 (fun c_ => absurd c_ (cneg0_ne hneg_v3)) (fun _ => ?_)
            refine lq_iconst C (x := nI 1) rfl dL_law_2215 ?_
            refine lq_goto C 2220 (by decide) dL_law_2216 ?_
            refine lq_doM C (w149_near l v f g v1 (by omega) Mv_2) lM_316 rfl rfl ⟨by decide, by decide⟩ ⟨Nat.le_of_ble_eq_true rfl, Nat.le_of_ble_eq_true rfl⟩ rfl (Nat.le_of_ble_eq_true rfl) dL_law_2220 ?_
            refine lq_istore C (lv' := [(6, .int (nI 0)), (5, .int (nI 2)), (4, .int (nI 0)), (3, .ref out), (2, .ref (a 0)), (1, .ref x), (0, .ref b)]) (by decide) rfl dL_law_2223 ?_
            refine lq_aload_n C (i := 2) rfl 4 rfl dL_law_2225 ?_
            refine lq_doM C (w116_thrown l (upd (upd (upd v 4 (nI 0)) 77 (nI 0)) 99 (nI 2)) f g rfl) lM_192 rfl rfl ⟨by decide, by decide⟩ ⟨Nat.le_of_ble_eq_true rfl, Nat.le_of_ble_eq_true rfl⟩ rfl (Nat.le_of_ble_eq_true rfl) dL_law_2226 ?_
            refine lq_iload C 1 rfl dL_law_2229 ?_
            refine lq_icmp_eq C 2236 (by decide) dL_law_2231 (fun _ => ?_) (fun c_ => absurd (by decide) c_)
            refine lq_iload C 1 rfl dL_law_2236 ?_
            refine lq_if_ne C 2253 (by decide) dL_law_2238 (fun _ => ?_) (fun c_ => absurd c_ (by decide))
            refine lq_goto C 3491 (by decide) dL_law_2253 ?_
            exact lq_sub [2, 6] rfl (law_tail C (Nat.le_of_ble_eq_true rfl) (Nat.le_of_ble_eq_true rfl))
          · rcases Nat.lt_or_ge v2 21 with hlt_v2 | hlt_v2
            · obtain ⟨v4, e_v4⟩ : ∃ z : Int32, xs 4 = z := ⟨_, rfl⟩
              obtain ⟨v5, e_v5⟩ : ∃ z : Int32, xs 5 = z := ⟨_, rfl⟩
              refine lq_aload_n C (i := 1) rfl 3 rfl dL_law_2160 ?_
              refine lq_aload_n C (i := 0) rfl 4 rfl dL_law_2161 ?_
              refine lq_iload C 0 rfl dL_law_2162 ?_
              refine lq_iconst C (x := nI 1) rfl dL_law_2164 ?_
              refine lq_iadd C dL_law_2165 ?_
              refine lq_cast (.int (nI 1)) (congrArg Value.int (by decide)) ?_
              refine lq_sld C 1 (by decide) (by decide) dL_law_2166 ?_
              refine lq_cast (.int (nI v1)) (congrArg Value.int e_v1) ?_
              refine lq_aload_n C (i := 0) rfl 4 rfl dL_law_2167 ?_
              refine lq_iload C 0 rfl dL_law_2168 ?_
              refine lq_iconst C (x := nI 2) rfl dL_law_2170 ?_
              refine lq_iadd C dL_law_2171 ?_
              refine lq_cast (.int (nI 2)) (congrArg Value.int (by decide)) ?_
              refine lq_sld C 2 (by decide) (by decide) dL_law_2172 ?_
              refine lq_cast (.int (nI v2)) (congrArg Value.int e_v2) ?_
              refine lq_aload_n C (i := 0) rfl 4 rfl dL_law_2173 ?_
              refine lq_iload C 0 rfl dL_law_2174 ?_
              refine lq_iconst C (x := nI 3) rfl dL_law_2176 ?_
              refine lq_iadd C dL_law_2177 ?_
              refine lq_cast (.int (nI 3)) (congrArg Value.int (by decide)) ?_
              refine lq_sld C 3 (by decide) (by decide) dL_law_2178 ?_
              refine lq_cast (.int v3) (congrArg Value.int e_v3) ?_
              refine lq_if_eq C 2186 (by decide) dL_law_2179 (fun c_ => absurd c_ (cneg0_ne hneg_v3)) (fun _ => ?_)
              refine lq_iconst C (x := nI 1) rfl dL_law_2182 ?_
              refine lq_goto C 2187 (by decide) dL_law_2183 ?_
              refine lq_aload_n C (i := 3) rfl 1 rfl dL_law_2187 ?_
              refine lq_callW C (z238_L_near l hlt S dp x out q1 q2 v1 v2 (by omega) (by omega) (by omega) Fr_352_x Fk_x Fm_x Fr_96_q1 Fk_q1 Fm_q1 Fi_289_q2 Fk_q2 Fm_q2) lH_313 rfl rfl ⟨by decide, by decide⟩ ⟨Nat.le_of_ble_eq_true rfl, Nat.le_of_ble_eq_true rfl⟩ rfl (Nat.le_of_ble_eq_true rfl) dL_law_2188 (fun r_2188 u_2188 h_2188 => ?_)
              obtain ⟨S1, hS1, S2, hS2, hr_2188, hu_2188⟩ := h_2188
              have hw_2188 := hu_2188.symm
              subst hw_2188
              have hx_2188 := hr_2188.symm
              subst hx_2188
              refine lq_istore C (lv' := [(5, .int (nI 3)), (4, .int (nI 0)), (3, .ref out), (2, .ref (a 0)), (1, .ref x), (0, .ref b)]) (by decide) rfl dL_law_2191 ?_
              refine lq_aload_n C (i := 2) rfl 3 rfl dL_law_2193 ?_
              refine lq_aload_n C (i := 0) rfl 5 rfl dL_law_2194 ?_
              refine lq_iload C 1 rfl dL_law_2195 ?_
              refine lq_iconst C (x := nI 1) rfl dL_law_2197 ?_
              refine lq_iadd C dL_law_2198 ?_
              refine lq_cast (.int (nI 1)) (congrArg Value.int (by decide)) ?_
              refine lq_sld C 1 (by decide) (by decide) dL_law_2199 ?_
              refine lq_cast (.int (nI v1)) (congrArg Value.int e_v1) ?_
              refine lq_aload_n C (i := 0) rfl 5 rfl dL_law_2200 ?_
              refine lq_iload C 1 rfl dL_law_2201 ?_
              refine lq_iconst C (x := nI 2) rfl dL_law_2203 ?_
              refine lq_iadd C dL_law_2204 ?_
              refine lq_cast (.int (nI 2)) (congrArg Value.int (by decide)) ?_
              refine lq_sld C 2 (by decide) (by decide) dL_law_2205 ?_
              refine lq_cast (.int (nI v2)) (congrArg Value.int e_v2) ?_
              refine lq_aload_n C (i := 0) rfl 5 rfl dL_law_2206 ?_
              refine lq_iload C 1 rfl dL_law_2207 ?_
              refine lq_iconst C (x := nI 3) rfl dL_law_2209 ?_
              refine lq_iadd C dL_law_2210 ?_
              refine lq_cast (.int (nI 3)) (congrArg Value.int (by decide)) ?_
              refine lq_sld C 3 (by decide) (by decide) dL_law_2211 ?_
              refine lq_cast (.int v3) (congrArg Value.int e_v3) ?_
              refine lq_if_eq C 2219 (by decide) dL_law_2212 (fun c_ => absurd c_ (cneg0_ne hneg_v3)) (fun _ => ?_)
              refine lq_iconst C (x := nI 1) rfl dL_law_2215 ?_
              refine lq_goto C 2220 (by decide) dL_law_2216 ?_
              refine lq_doM C (w150_near l v f g v1 v2 (by omega) (by omega) (by omega) Mv_2) lM_316 rfl rfl ⟨by decide, by decide⟩ ⟨Nat.le_of_ble_eq_true rfl, Nat.le_of_ble_eq_true rfl⟩ rfl (Nat.le_of_ble_eq_true rfl) dL_law_2220 ?_
              refine lq_istore C (lv' := [(6, .int (nI 0)), (5, .int (nI 3)), (4, .int (nI 0)), (3, .ref out), (2, .ref (a 0)), (1, .ref x), (0, .ref b)]) (by decide) rfl dL_law_2223 ?_
              refine lq_aload_n C (i := 2) rfl 4 rfl dL_law_2225 ?_
              refine lq_doM C (w133_thrown l (upd (upd (upd v 4 (nI 0)) 77 (nI 0)) 99 (nI 3)) f g rfl) lM_192 rfl rfl ⟨by decide, by decide⟩ ⟨Nat.le_of_ble_eq_true rfl, Nat.le_of_ble_eq_true rfl⟩ rfl (Nat.le_of_ble_eq_true rfl) dL_law_2226 ?_
              refine lq_iload C 1 rfl dL_law_2229 ?_
              refine lq_icmp_eq C 2236 (by decide) dL_law_2231 (fun _ => ?_) (fun c_ => absurd (by decide) c_)
              refine lq_iload C 1 rfl dL_law_2236 ?_
              refine lq_if_ne C 2253 (by decide) dL_law_2238 (fun _ => ?_) (fun c_ => absurd c_ (by decide))
              refine lq_goto C 3491 (by decide) dL_law_2253 ?_
              exact lq_sub [2, 6] rfl (law_tail C (Nat.le_of_ble_eq_true rfl) (Nat.le_of_ble_eq_true rfl))
            · obtain ⟨v4, e_v4⟩ : ∃ z : Int32, xs 4 = z := ⟨_, rfl⟩
              obtain ⟨v5, e_v5⟩ : ∃ z : Int32, xs 5 = z := ⟨_, rfl⟩
              refine lq_aload_n C (i := 1) rfl 3 rfl dL_law_2160 ?_
              refine lq_aload_n C (i := 0) rfl 4 rfl dL_law_2161 ?_
              refine lq_iload C 0 rfl dL_law_2162 ?_
              refine lq_iconst C (x := nI 1) rfl dL_law_2164 ?_
              refine lq_iadd C dL_law_2165 ?_
              refine lq_cast (.int (nI 1)) (congrArg Value.int (by decide)) ?_
              refine lq_sld C 1 (by decide) (by decide) dL_law_2166 ?_
              refine lq_cast (.int (nI v1)) (congrArg Value.int e_v1) ?_
              refine lq_aload_n C (i := 0) rfl 4 rfl dL_law_2167 ?_
              refine lq_iload C 0 rfl dL_law_2168 ?_
              refine lq_iconst C (x := nI 2) rfl dL_law_2170 ?_
              refine lq_iadd C dL_law_2171 ?_
              refine lq_cast (.int (nI 2)) (congrArg Value.int (by decide)) ?_
              refine lq_sld C 2 (by decide) (by decide) dL_law_2172 ?_
              refine lq_cast (.int (nI v2)) (congrArg Value.int e_v2) ?_
              refine lq_aload_n C (i := 0) rfl 4 rfl dL_law_2173 ?_
              refine lq_iload C 0 rfl dL_law_2174 ?_
              refine lq_iconst C (x := nI 3) rfl dL_law_2176 ?_
              refine lq_iadd C dL_law_2177 ?_
              refine lq_cast (.int (nI 3)) (congrArg Value.int (by decide)) ?_
              refine lq_sld C 3 (by decide) (by decide) dL_law_2178 ?_
              refine lq_cast (.int v3) (congrArg Value.int e_v3) ?_
              refine lq_if_eq C 2186 (by decide) dL_law_2179 (fun c_ => absurd c_ (cneg0_ne hneg_v3)) (fun _ => ?_)
              refine lq_iconst C (x := nI 1) rfl dL_law_2182 ?_
              refine lq_goto C 2187 (by decide) dL_law_2183 ?_
              refine lq_aload_n C (i := 3) rfl 1 rfl dL_law_2187 ?_
              refine lq_callW C (z240_L_near l hlt S dp x out v1 v2 (by omega) (by omega) (by omega) Fm_x Fk_x) lH_313 rfl rfl ⟨by decide, by decide⟩ ⟨Nat.le_of_ble_eq_true rfl, Nat.le_of_ble_eq_true rfl⟩ rfl (Nat.le_of_ble_eq_true rfl) dL_law_2188 (fun r_2188 u_2188 h_2188 => ?_)
              obtain ⟨hr_2188, hu_2188⟩ := h_2188
              have hw_2188 := hu_2188.symm
              subst hw_2188
              have hx_2188 := hr_2188.symm
              subst hx_2188
              refine lq_istore C (lv' := [(5, .int (nI 2)), (4, .int (nI 0)), (3, .ref out), (2, .ref (a 0)), (1, .ref x), (0, .ref b)]) (by decide) rfl dL_law_2191 ?_
              refine lq_aload_n C (i := 2) rfl 3 rfl dL_law_2193 ?_
              refine lq_aload_n C (i := 0) rfl 5 rfl dL_law_2194 ?_
              refine lq_iload C 1 rfl dL_law_2195 ?_
              refine lq_iconst C (x := nI 1) rfl dL_law_2197 ?_
              refine lq_iadd C dL_law_2198 ?_
              refine lq_cast (.int (nI 1)) (congrArg Value.int (by decide)) ?_
              refine lq_sld C 1 (by decide) (by decide) dL_law_2199 ?_
              refine lq_cast (.int (nI v1)) (congrArg Value.int e_v1) ?_
              refine lq_aload_n C (i := 0) rfl 5 rfl dL_law_2200 ?_
              refine lq_iload C 1 rfl dL_law_2201 ?_
              refine lq_iconst C (x := nI 2) rfl dL_law_2203 ?_
              refine lq_iadd C dL_law_2204 ?_
              refine lq_cast (.int (nI 2)) (congrArg Value.int (by decide)) ?_
              refine lq_sld C 2 (by decide) (by decide) dL_law_2205 ?_
              refine lq_cast (.int (nI v2)) (congrArg Value.int e_v2) ?_
              refine lq_aload_n C (i := 0) rfl 5 rfl dL_law_2206 ?_
              refine lq_iload C 1 rfl dL_law_2207 ?_
              refine lq_iconst C (x := nI 3) rfl dL_law_2209 ?_
              refine lq_iadd C dL_law_2210 ?_
              refine lq_cast (.int (nI 3)) (congrArg Value.int (by decide)) ?_
              refine lq_sld C 3 (by decide) (by decide) dL_law_2211 ?_
              refine lq_cast (.int v3) (congrArg Value.int e_v3) ?_
              refine lq_if_eq C 2219 (by decide) dL_law_2212 (fun c_ => absurd c_ (cneg0_ne hneg_v3)) (fun _ => ?_)
              refine lq_iconst C (x := nI 1) rfl dL_law_2215 ?_
              refine lq_goto C 2220 (by decide) dL_law_2216 ?_
              refine lq_doM C (w151_near l v f g v1 v2 (by omega) (by omega) (by omega) Mv_2) lM_316 rfl rfl ⟨by decide, by decide⟩ ⟨Nat.le_of_ble_eq_true rfl, Nat.le_of_ble_eq_true rfl⟩ rfl (Nat.le_of_ble_eq_true rfl) dL_law_2220 ?_
              refine lq_istore C (lv' := [(6, .int (nI 0)), (5, .int (nI 2)), (4, .int (nI 0)), (3, .ref out), (2, .ref (a 0)), (1, .ref x), (0, .ref b)]) (by decide) rfl dL_law_2223 ?_
              refine lq_aload_n C (i := 2) rfl 4 rfl dL_law_2225 ?_
              refine lq_doM C (w116_thrown l (upd (upd (upd v 4 (nI 0)) 77 (nI 0)) 99 (nI 2)) f g rfl) lM_192 rfl rfl ⟨by decide, by decide⟩ ⟨Nat.le_of_ble_eq_true rfl, Nat.le_of_ble_eq_true rfl⟩ rfl (Nat.le_of_ble_eq_true rfl) dL_law_2226 ?_
              refine lq_iload C 1 rfl dL_law_2229 ?_
              refine lq_icmp_eq C 2236 (by decide) dL_law_2231 (fun _ => ?_) (fun c_ => absurd (by decide) c_)
              refine lq_iload C 1 rfl dL_law_2236 ?_
              refine lq_if_ne C 2253 (by decide) dL_law_2238 (fun _ => ?_) (fun c_ => absurd c_ (by decide))
              refine lq_goto C 3491 (by decide) dL_law_2253 ?_
              exact lq_sub [2, 6] rfl (law_tail C (Nat.le_of_ble_eq_true rfl) (Nat.le_of_ble_eq_true rfl))
      · rcases c_sgn (xs 2) with hneg_v2 | ⟨v2, hr_v2, e_v2⟩
        · obtain ⟨v2, e_v2⟩ : ∃ z : Int32, xs 2 = z := ⟨_, rfl⟩
          rw [e_v2] at hneg_v2
          obtain ⟨v4, e_v4⟩ : ∃ z : Int32, xs 4 = z := ⟨_, rfl⟩
          obtain ⟨v5, e_v5⟩ : ∃ z : Int32, xs 5 = z := ⟨_, rfl⟩
          refine lq_aload_n C (i := 1) rfl 3 rfl dL_law_2160 ?_
          refine lq_aload_n C (i := 0) rfl 4 rfl dL_law_2161 ?_
          refine lq_iload C 0 rfl dL_law_2162 ?_
          refine lq_iconst C (x := nI 1) rfl dL_law_2164 ?_
          refine lq_iadd C dL_law_2165 ?_
          refine lq_cast (.int (nI 1)) (congrArg Value.int (by decide)) ?_
          refine lq_sld C 1 (by decide) (by decide) dL_law_2166 ?_
          refine lq_cast (.int (nI v1)) (congrArg Value.int e_v1) ?_
          refine lq_aload_n C (i := 0) rfl 4 rfl dL_law_2167 ?_
          refine lq_iload C 0 rfl dL_law_2168 ?_
          refine lq_iconst C (x := nI 2) rfl dL_law_2170 ?_
          refine lq_iadd C dL_law_2171 ?_
          refine lq_cast (.int (nI 2)) (congrArg Value.int (by decide)) ?_
          refine lq_sld C 2 (by decide) (by decide) dL_law_2172 ?_
          refine lq_cast (.int v2) (congrArg Value.int e_v2) ?_
          refine lq_aload_n C (i := 0) rfl 4 rfl dL_law_2173 ?_
          refine lq_iload C 0 rfl dL_law_2174 ?_
          refine lq_iconst C (x := nI 3) rfl dL_law_2176 ?_
          refine lq_iadd C dL_law_2177 ?_
          refine lq_cast (.int (nI 3)) (congrArg Value.int (by decide)) ?_
          refine lq_sld C 3 (by decide) (by decide) dL_law_2178 ?_
          refine lq_cast (.int v3) (congrArg Value.int e_v3) ?_
          refine lq_if_eq C 2186 (by decide) dL_law_2179 (fun c_ => absurd c_ (cneg0_ne hneg_v3)) (fun _ => ?_)
          refine lq_iconst C (x := nI 1) rfl dL_law_2182 ?_
          refine lq_goto C 2187 (by decide) dL_law_2183 ?_
          refine lq_aload_n C (i := 3) rfl 1 rfl dL_law_2187 ?_
          refine lq_callW C (z244_L_near l hlt S dp x out v1 v2 (by omega) (by omega) hneg_v2 Fm_x Fk_x) lH_313 rfl rfl ⟨by decide, by decide⟩ ⟨Nat.le_of_ble_eq_true rfl, Nat.le_of_ble_eq_true rfl⟩ rfl (Nat.le_of_ble_eq_true rfl) dL_law_2188 (fun r_2188 u_2188 h_2188 => ?_)
          obtain ⟨hr_2188, hu_2188⟩ := h_2188
          have hw_2188 := hu_2188.symm
          subst hw_2188
          have hx_2188 := hr_2188.symm
          subst hx_2188
          refine lq_istore C (lv' := [(5, .int (nI 1)), (4, .int (nI 0)), (3, .ref out), (2, .ref (a 0)), (1, .ref x), (0, .ref b)]) (by decide) rfl dL_law_2191 ?_
          refine lq_aload_n C (i := 2) rfl 3 rfl dL_law_2193 ?_
          refine lq_aload_n C (i := 0) rfl 5 rfl dL_law_2194 ?_
          refine lq_iload C 1 rfl dL_law_2195 ?_
          refine lq_iconst C (x := nI 1) rfl dL_law_2197 ?_
          refine lq_iadd C dL_law_2198 ?_
          refine lq_cast (.int (nI 1)) (congrArg Value.int (by decide)) ?_
          refine lq_sld C 1 (by decide) (by decide) dL_law_2199 ?_
          refine lq_cast (.int (nI v1)) (congrArg Value.int e_v1) ?_
          refine lq_aload_n C (i := 0) rfl 5 rfl dL_law_2200 ?_
          refine lq_iload C 1 rfl dL_law_2201 ?_
          refine lq_iconst C (x := nI 2) rfl dL_law_2203 ?_
          refine lq_iadd C dL_law_2204 ?_
          refine lq_cast (.int (nI 2)) (congrArg Value.int (by decide)) ?_
          refine lq_sld C 2 (by decide) (by decide) dL_law_2205 ?_
          refine lq_cast (.int v2) (congrArg Value.int e_v2) ?_
          refine lq_aload_n C (i := 0) rfl 5 rfl dL_law_2206 ?_
          refine lq_iload C 1 rfl dL_law_2207 ?_
          refine lq_iconst C (x := nI 3) rfl dL_law_2209 ?_
          refine lq_iadd C dL_law_2210 ?_
          refine lq_cast (.int (nI 3)) (congrArg Value.int (by decide)) ?_
          refine lq_sld C 3 (by decide) (by decide) dL_law_2211 ?_
          refine lq_cast (.int v3) (congrArg Value.int e_v3) ?_
          refine lq_if_eq C 2219 (by decide) dL_law_2212 (fun c_ => absurd c_ (cneg0_ne hneg_v3)) (fun _ => ?_)
          refine lq_iconst C (x := nI 1) rfl dL_law_2215 ?_
          refine lq_goto C 2220 (by decide) dL_law_2216 ?_
          refine lq_doM C (w152_near l v f g v1 v2 (by omega) (by omega) hneg_v2 Mv_2) lM_316 rfl rfl ⟨by decide, by decide⟩ ⟨Nat.le_of_ble_eq_true rfl, Nat.le_of_ble_eq_true rfl⟩ rfl (Nat.le_of_ble_eq_true rfl) dL_law_2220 ?_
          refine lq_istore C (lv' := [(6, .int (nI 0)), (5, .int (nI 1)), (4, .int (nI 0)), (3, .ref out), (2, .ref (a 0)), (1, .ref x), (0, .ref b)]) (by decide) rfl dL_law_2223 ?_
          refine lq_aload_n C (i := 2) rfl 4 rfl dL_law_2225 ?_
          refine lq_doM C (w4_thrown l (upd (upd (upd v 4 (nI 0)) 77 (nI 0)) 99 (nI 1)) f g rfl) lM_192 rfl rfl ⟨by decide, by decide⟩ ⟨Nat.le_of_ble_eq_true rfl, Nat.le_of_ble_eq_true rfl⟩ rfl (Nat.le_of_ble_eq_true rfl) dL_law_2226 ?_
          refine lq_iload C 1 rfl dL_law_2229 ?_
          refine lq_icmp_eq C 2236 (by decide) dL_law_2231 (fun _ => ?_) (fun c_ => absurd (by decide) c_)
          refine lq_iload C 1 rfl dL_law_2236 ?_
          refine lq_if_ne C 2253 (by decide) dL_law_2238 (fun _ => ?_) (fun c_ => absurd c_ (by decide))
          refine lq_goto C 3491 (by decide) dL_law_2253 ?_
          exact lq_sub [2, 6] rfl (law_tail C (Nat.le_of_ble_eq_true rfl) (Nat.le_of_ble_eq_true rfl))
        · rcases Nat.lt_or_ge v2 1 with hlt_v2 | hlt_v2
          · obtain rfl : v2 = 0 := by omega
            obtain ⟨v4, e_v4⟩ : ∃ z : Int32, xs 4 = z := ⟨_, rfl⟩
            obtain ⟨v5, e_v5⟩ : ∃ z : Int32, xs 5 = z := ⟨_, rfl⟩
            refine lq_aload_n C (i := 1) rfl 3 rfl dL_law_2160 ?_
            refine lq_aload_n C (i := 0) rfl 4 rfl dL_law_2161 ?_
            refine lq_iload C 0 rfl dL_law_2162 ?_
            refine lq_iconst C (x := nI 1) rfl dL_law_2164 ?_
            refine lq_iadd C dL_law_2165 ?_
            refine lq_cast (.int (nI 1)) (congrArg Value.int (by decide)) ?_
            refine lq_sld C 1 (by decide) (by decide) dL_law_2166 ?_
            refine lq_cast (.int (nI v1)) (congrArg Value.int e_v1) ?_
            refine lq_aload_n C (i := 0) rfl 4 rfl dL_law_2167 ?_
            refine lq_iload C 0 rfl dL_law_2168 ?_
            refine lq_iconst C (x := nI 2) rfl dL_law_2170 ?_
            refine lq_iadd C dL_law_2171 ?_
            refine lq_cast (.int (nI 2)) (congrArg Value.int (by decide)) ?_
            refine lq_sld C 2 (by decide) (by decide) dL_law_2172 ?_
            refine lq_cast (.int (nI 0)) (congrArg Value.int e_v2) ?_
            refine lq_aload_n C (i := 0) rfl 4 rfl dL_law_2173 ?_
            refine lq_iload C 0 rfl dL_law_2174 ?_
            refine lq_iconst C (x := nI 3) rfl dL_law_2176 ?_
            refine lq_iadd C dL_law_2177 ?_
            refine lq_cast (.int (nI 3)) (congrArg Value.int (by decide)) ?_
            refine lq_sld C 3 (by decide) (by decide) dL_law_2178 ?_
            refine lq_cast (.int v3) (congrArg Value.int e_v3) ?_
            refine lq_if_eq C 2186 (by decide) dL_law_2179 (fun c_ => absurd c_ (cneg0_ne hneg_v3)) (fun _ => ?_)
            refine lq_iconst C (x := nI 1) rfl dL_law_2182 ?_
            refine lq_goto C 2187 (by decide) dL_law_2183 ?_
            refine lq_aload_n C (i := 3) rfl 1 rfl dL_law_2187 ?_
            refine lq_callW C (z248_L_near l hlt S dp x out v1 (by omega) (by omega) Fm_x Fk_x) lH_313 rfl rfl ⟨by decide, by decide⟩ ⟨Nat.le_of_ble_eq_true rfl, Nat.le_of_ble_eq_true rfl⟩ rfl (Nat.le_of_ble_eq_true rfl) dL_law_2188 (fun r_2188 u_2188 h_2188 => ?_)
            obtain ⟨hr_2188, hu_2188⟩ := h_2188
            have hw_2188 := hu_2188.symm
            subst hw_2188
            have hx_2188 := hr_2188.symm
            subst hx_2188
            refine lq_istore C (lv' := [(5, .int (nI 1)), (4, .int (nI 0)), (3, .ref out), (2, .ref (a 0)), (1, .ref x), (0, .ref b)]) (by decide) rfl dL_law_2191 ?_
            refine lq_aload_n C (i := 2) rfl 3 rfl dL_law_2193 ?_
            refine lq_aload_n C (i := 0) rfl 5 rfl dL_law_2194 ?_
            refine lq_iload C 1 rfl dL_law_2195 ?_
            refine lq_iconst C (x := nI 1) rfl dL_law_2197 ?_
            refine lq_iadd C dL_law_2198 ?_
            refine lq_cast (.int (nI 1)) (congrArg Value.int (by decide)) ?_
            refine lq_sld C 1 (by decide) (by decide) dL_law_2199 ?_
            refine lq_cast (.int (nI v1)) (congrArg Value.int e_v1) ?_
            refine lq_aload_n C (i := 0) rfl 5 rfl dL_law_2200 ?_
            refine lq_iload C 1 rfl dL_law_2201 ?_
            refine lq_iconst C (x := nI 2) rfl dL_law_2203 ?_
            refine lq_iadd C dL_law_2204 ?_
            refine lq_cast (.int (nI 2)) (congrArg Value.int (by decide)) ?_
            refine lq_sld C 2 (by decide) (by decide) dL_law_2205 ?_
            refine lq_cast (.int (nI 0)) (congrArg Value.int e_v2) ?_
            refine lq_aload_n C (i := 0) rfl 5 rfl dL_law_2206 ?_
            refine lq_iload C 1 rfl dL_law_2207 ?_
            refine lq_iconst C (x := nI 3) rfl dL_law_2209 ?_
            refine lq_iadd C dL_law_2210 ?_
            refine lq_cast (.int (nI 3)) (congrArg Value.int (by decide)) ?_
            refine lq_sld C 3 (by decide) (by decide) dL_law_2211 ?_
            refine lq_cast (.int v3) (congrArg Value.int e_v3) ?_
            refine lq_if_eq C 2219 (by decide) dL_law_2212 (fun c_ => absurd c_ (cneg0_ne hneg_v3)) (fun _ => ?_)
            refine lq_iconst C (x := nI 1) rfl dL_law_2215 ?_
            refine lq_goto C 2220 (by decide) dL_law_2216 ?_
            refine lq_doM C (w153_near l v f g v1 (by omega) (by omega) Mv_2) lM_316 rfl rfl ⟨by decide, by decide⟩ ⟨Nat.le_of_ble_eq_true rfl, Nat.le_of_ble_eq_true rfl⟩ rfl (Nat.le_of_ble_eq_true rfl) dL_law_2220 ?_
            refine lq_istore C (lv' := [(6, .int (nI 0)), (5, .int (nI 1)), (4, .int (nI 0)), (3, .ref out), (2, .ref (a 0)), (1, .ref x), (0, .ref b)]) (by decide) rfl dL_law_2223 ?_
            refine lq_aload_n C (i := 2) rfl 4 rfl dL_law_2225 ?_
            refine lq_doM C (w4_thrown l (upd (upd (upd v 4 (nI 0)) 77 (nI 0)) 99 (nI 1)) f g rfl) lM_192 rfl rfl ⟨by decide, by decide⟩ ⟨Nat.le_of_ble_eq_true rfl, Nat.le_of_ble_eq_true rfl⟩ rfl (Nat.le_of_ble_eq_true rfl) dL_law_2226 ?_
            refine lq_iload C 1 rfl dL_law_2229 ?_
            refine lq_icmp_eq C 2236 (by decide) dL_law_2231 (fun _ => ?_) (fun c_ => absurd (by decide) c_)
            refine lq_iload C 1 rfl dL_law_2236 ?_
            refine lq_if_ne C 2253 (by decide) dL_law_2238 (fun _ => ?_) (fun c_ => absurd c_ (by decide))
            refine lq_goto C 3491 (by decide) dL_law_2253 ?_
            exact lq_sub [2, 6] rfl (law_tail C (Nat.le_of_ble_eq_true rfl) (Nat.le_of_ble_eq_true rfl))
          · rcases Nat.lt_or_ge v2 21 with hlt_v2 | hlt_v2
            · obtain ⟨v4, e_v4⟩ : ∃ z : Int32, xs 4 = z := ⟨_, rfl⟩
              obtain ⟨v5, e_v5⟩ : ∃ z : Int32, xs 5 = z := ⟨_, rfl⟩
              refine lq_aload_n C (i := 1) rfl 3 rfl dL_law_2160 ?_
              refine lq_aload_n C (i := 0) rfl 4 rfl dL_law_2161 ?_
              refine lq_iload C 0 rfl dL_law_2162 ?_
              refine lq_iconst C (x := nI 1) rfl dL_law_2164 ?_
              refine lq_iadd C dL_law_2165 ?_
              refine lq_cast (.int (nI 1)) (congrArg Value.int (by decide)) ?_
              refine lq_sld C 1 (by decide) (by decide) dL_law_2166 ?_
              refine lq_cast (.int (nI v1)) (congrArg Value.int e_v1) ?_
              refine lq_aload_n C (i := 0) rfl 4 rfl dL_law_2167 ?_
              refine lq_iload C 0 rfl dL_law_2168 ?_
              refine lq_iconst C (x := nI 2) rfl dL_law_2170 ?_
              refine lq_iadd C dL_law_2171 ?_
              refine lq_cast (.int (nI 2)) (congrArg Value.int (by decide)) ?_
              refine lq_sld C 2 (by decide) (by decide) dL_law_2172 ?_
              refine lq_cast (.int (nI v2)) (congrArg Value.int e_v2) ?_
              refine lq_aload_n C (i := 0) rfl 4 rfl dL_law_2173 ?_
              refine lq_iload C 0 rfl dL_law_2174 ?_
              refine lq_iconst C (x := nI 3) rfl dL_law_2176 ?_
              refine lq_iadd C dL_law_2177 ?_
              refine lq_cast (.int (nI 3)) (congrArg Value.int (by decide)) ?_
              refine lq_sld C 3 (by decide) (by decide) dL_law_2178 ?_
              refine lq_cast (.int v3) (congrArg Value.int e_v3) ?_
              refine lq_if_eq C 2186 (by decide) dL_law_2179 (fun c_ => absurd c_ (cneg0_ne hneg_v3)) (fun _ => ?_)
              refine lq_iconst C (x := nI 1) rfl dL_law_2182 ?_
              refine lq_goto C 2187 (by decide) dL_law_2183 ?_
              refine lq_aload_n C (i := 3) rfl 1 rfl dL_law_2187 ?_
              refine lq_callW C (z252_L_near l hlt S dp x out v1 v2 (by omega) (by omega) (by omega) (by omega) Fm_x Fk_x) lH_313 rfl rfl ⟨by decide, by decide⟩ ⟨Nat.le_of_ble_eq_true rfl, Nat.le_of_ble_eq_true rfl⟩ rfl (Nat.le_of_ble_eq_true rfl) dL_law_2188 (fun r_2188 u_2188 h_2188 => ?_)
              obtain ⟨hr_2188, hu_2188⟩ := h_2188
              have hw_2188 := hu_2188.symm
              subst hw_2188
              have hx_2188 := hr_2188.symm
              subst hx_2188
              refine lq_istore C (lv' := [(5, .int (nI 1)), (4, .int (nI 0)), (3, .ref out), (2, .ref (a 0)), (1, .ref x), (0, .ref b)]) (by decide) rfl dL_law_2191 ?_
              refine lq_aload_n C (i := 2) rfl 3 rfl dL_law_2193 ?_
              refine lq_aload_n C (i := 0) rfl 5 rfl dL_law_2194 ?_
              refine lq_iload C 1 rfl dL_law_2195 ?_
              refine lq_iconst C (x := nI 1) rfl dL_law_2197 ?_
              refine lq_iadd C dL_law_2198 ?_
              refine lq_cast (.int (nI 1)) (congrArg Value.int (by decide)) ?_
              refine lq_sld C 1 (by decide) (by decide) dL_law_2199 ?_
              refine lq_cast (.int (nI v1)) (congrArg Value.int e_v1) ?_
              refine lq_aload_n C (i := 0) rfl 5 rfl dL_law_2200 ?_
              refine lq_iload C 1 rfl dL_law_2201 ?_
              refine lq_iconst C (x := nI 2) rfl dL_law_2203 ?_
              refine lq_iadd C dL_law_2204 ?_
              refine lq_cast (.int (nI 2)) (congrArg Value.int (by decide)) ?_
              refine lq_sld C 2 (by decide) (by decide) dL_law_2205 ?_
              refine lq_cast (.int (nI v2)) (congrArg Value.int e_v2) ?_
              refine lq_aload_n C (i := 0) rfl 5 rfl dL_law_2206 ?_
              refine lq_iload C 1 rfl dL_law_2207 ?_
              refine lq_iconst C (x := nI 3) rfl dL_law_2209 ?_
              refine lq_iadd C dL_law_2210 ?_
              refine lq_cast (.int (nI 3)) (congrArg Value.int (by decide)) ?_
              refine lq_sld C 3 (by decide) (by decide) dL_law_2211 ?_
              refine lq_cast (.int v3) (congrArg Value.int e_v3) ?_
              refine lq_if_eq C 2219 (by decide) dL_law_2212 (fun c_ => absurd c_ (cneg0_ne hneg_v3)) (fun _ => ?_)
              refine lq_iconst C (x := nI 1) rfl dL_law_2215 ?_
              refine lq_goto C 2220 (by decide) dL_law_2216 ?_
              refine lq_doM C (w154_near l v f g v1 v2 (by omega) (by omega) (by omega) (by omega) Mv_2) lM_316 rfl rfl ⟨by decide, by decide⟩ ⟨Nat.le_of_ble_eq_true rfl, Nat.le_of_ble_eq_true rfl⟩ rfl (Nat.le_of_ble_eq_true rfl) dL_law_2220 ?_
              refine lq_istore C (lv' := [(6, .int (nI 0)), (5, .int (nI 1)), (4, .int (nI 0)), (3, .ref out), (2, .ref (a 0)), (1, .ref x), (0, .ref b)]) (by decide) rfl dL_law_2223 ?_
              refine lq_aload_n C (i := 2) rfl 4 rfl dL_law_2225 ?_
              refine lq_doM C (w4_thrown l (upd (upd (upd v 4 (nI 0)) 77 (nI 0)) 99 (nI 1)) f g rfl) lM_192 rfl rfl ⟨by decide, by decide⟩ ⟨Nat.le_of_ble_eq_true rfl, Nat.le_of_ble_eq_true rfl⟩ rfl (Nat.le_of_ble_eq_true rfl) dL_law_2226 ?_
              refine lq_iload C 1 rfl dL_law_2229 ?_
              refine lq_icmp_eq C 2236 (by decide) dL_law_2231 (fun _ => ?_) (fun c_ => absurd (by decide) c_)
              refine lq_iload C 1 rfl dL_law_2236 ?_
              refine lq_if_ne C 2253 (by decide) dL_law_2238 (fun _ => ?_) (fun c_ => absurd c_ (by decide))
              refine lq_goto C 3491 (by decide) dL_law_2253 ?_
              exact lq_sub [2, 6] rfl (law_tail C (Nat.le_of_ble_eq_true rfl) (Nat.le_of_ble_eq_true rfl))
            · obtain ⟨v4, e_v4⟩ : ∃ z : Int32, xs 4 = z := ⟨_, rfl⟩
              obtain ⟨v5, e_v5⟩ : ∃ z : Int32, xs 5 = z := ⟨_, rfl⟩
              refine lq_aload_n C (i := 1) rfl 3 rfl dL_law_2160 ?_
              refine lq_aload_n C (i := 0) rfl 4 rfl dL_law_2161 ?_
              refine lq_iload C 0 rfl dL_law_2162 ?_
              refine lq_iconst C (x := nI 1) rfl dL_law_2164 ?_
              refine lq_iadd C dL_law_2165 ?_
              refine lq_cast (.int (nI 1)) (congrArg Value.int (by decide)) ?_
              refine lq_sld C 1 (by decide) (by decide) dL_law_2166 ?_
              refine lq_cast (.int (nI v1)) (congrArg Value.int e_v1) ?_
              refine lq_aload_n C (i := 0) rfl 4 rfl dL_law_2167 ?_
              refine lq_iload C 0 rfl dL_law_2168 ?_
              refine lq_iconst C (x := nI 2) rfl dL_law_2170 ?_
              refine lq_iadd C dL_law_2171 ?_
              refine lq_cast (.int (nI 2)) (congrArg Value.int (by decide)) ?_
              refine lq_sld C 2 (by decide) (by decide) dL_law_2172 ?_
              refine lq_cast (.int (nI v2)) (congrArg Value.int e_v2) ?_
              refine lq_aload_n C (i := 0) rfl 4 rfl dL_law_2173 ?_
              refine lq_iload C 0 rfl dL_law_2174 ?_
              refine lq_iconst C (x := nI 3) rfl dL_law_2176 ?_
              refine lq_iadd C dL_law_2177 ?_
              refine lq_cast (.int (nI 3)) (congrArg Value.int (by decide)) ?_
              refine lq_sld C 3 (by decide) (by decide) dL_law_2178 ?_
              refine lq_cast (.int v3) (congrArg Value.int e_v3) ?_
              refine lq_if_eq C 2186 (by decide) dL_law_2179 (fun c_ => absurd c_ (cneg0_ne hneg_v3)) (fun _ => ?_)
              refine lq_iconst C (x := nI 1) rfl dL_law_2182 ?_
              refine lq_goto C 2187 (by decide) dL_law_2183 ?_
              refine lq_aload_n C (i := 3) rfl 1 rfl dL_law_2187 ?_
              refine lq_callW C (z254_L_near l hlt S dp x out v1 v2 (by omega) (by omega) (by omega) (by omega) Fm_x Fk_x) lH_313 rfl rfl ⟨by decide, by decide⟩ ⟨Nat.le_of_ble_eq_true rfl, Nat.le_of_ble_eq_true rfl⟩ rfl (Nat.le_of_ble_eq_true rfl) dL_law_2188 (fun r_2188 u_2188 h_2188 => ?_)
              obtain ⟨hr_2188, hu_2188⟩ := h_2188
              have hw_2188 := hu_2188.symm
              subst hw_2188
              have hx_2188 := hr_2188.symm
              subst hx_2188
              refine lq_istore C (lv' := [(5, .int (nI 1)), (4, .int (nI 0)), (3, .ref out), (2, .ref (a 0)), (1, .ref x), (0, .ref b)]) (by decide) rfl dL_law_2191 ?_
              refine lq_aload_n C (i := 2) rfl 3 rfl dL_law_2193 ?_
              refine lq_aload_n C (i := 0) rfl 5 rfl dL_law_2194 ?_
              refine lq_iload C 1 rfl dL_law_2195 ?_
              refine lq_iconst C (x := nI 1) rfl dL_law_2197 ?_
              refine lq_iadd C dL_law_2198 ?_
              refine lq_cast (.int (nI 1)) (congrArg Value.int (by decide)) ?_
              refine lq_sld C 1 (by decide) (by decide) dL_law_2199 ?_
              refine lq_cast (.int (nI v1)) (congrArg Value.int e_v1) ?_
              refine lq_aload_n C (i := 0) rfl 5 rfl dL_law_2200 ?_
              refine lq_iload C 1 rfl dL_law_2201 ?_
              refine lq_iconst C (x := nI 2) rfl dL_law_2203 ?_
              refine lq_iadd C dL_law_2204 ?_
              refine lq_cast (.int (nI 2)) (congrArg Value.int (by decide)) ?_
              refine lq_sld C 2 (by decide) (by decide) dL_law_2205 ?_
              refine lq_cast (.int (nI v2)) (congrArg Value.int e_v2) ?_
              refine lq_aload_n C (i := 0) rfl 5 rfl dL_law_2206 ?_
              refine lq_iload C 1 rfl dL_law_2207 ?_
              refine lq_iconst C (x := nI 3) rfl dL_law_2209 ?_
              refine lq_iadd C dL_law_2210 ?_
              refine lq_cast (.int (nI 3)) (congrArg Value.int (by decide)) ?_
              refine lq_sld C 3 (by decide) (by decide) dL_law_2211 ?_
              refine lq_cast (.int v3) (congrArg Value.int e_v3) ?_
              refine lq_if_eq C 2219 (by decide) dL_law_2212 (fun c_ => absurd c_ (cneg0_ne hneg_v3)) (fun _ => ?_)
              refine lq_iconst C (x := nI 1) rfl dL_law_2215 ?_
              refine lq_goto C 2220 (by decide) dL_law_2216 ?_
              refine lq_doM C (w155_near l v f g v1 v2 (by omega) (by omega) (by omega) (by omega) Mv_2) lM_316 rfl rfl ⟨by decide, by decide⟩ ⟨Nat.le_of_ble_eq_true rfl, Nat.le_of_ble_eq_true rfl⟩ rfl (Nat.le_of_ble_eq_true rfl) dL_law_2220 ?_
              refine lq_istore C (lv' := [(6, .int (nI 0)), (5, .int (nI 1)), (4, .int (nI 0)), (3, .ref out), (2, .ref (a 0)), (1, .ref x), (0, .ref b)]) (by decide) rfl dL_law_2223 ?_
              refine lq_aload_n C (i := 2) rfl 4 rfl dL_law_2225 ?_
              refine lq_doM C (w4_thrown l (upd (upd (upd v 4 (nI 0)) 77 (nI 0)) 99 (nI 1)) f g rfl) lM_192 rfl rfl ⟨by decide, by decide⟩ ⟨Nat.le_of_ble_eq_true rfl, Nat.le_of_ble_eq_true rfl⟩ rfl (Nat.le_of_ble_eq_true rfl) dL_law_2226 ?_
              refine lq_iload C 1 rfl dL_law_2229 ?_
              refine lq_icmp_eq C 2236 (by decide) dL_law_2231 (fun _ => ?_) (fun c_ => absurd (by decide) c_)
              refine lq_iload C 1 rfl dL_law_2236 ?_
              refine lq_if_ne C 2253 (by decide) dL_law_2238 (fun _ => ?_) (fun c_ => absurd c_ (by decide))
              refine lq_goto C 3491 (by decide) dL_law_2253 ?_
              exact lq_sub [2, 6] rfl (law_tail C (Nat.le_of_ble_eq_true rfl) (Nat.le_of_ble_eq_true rfl))
  · rcases Nat.lt_or_ge v3 1 with hlt_v3 | hlt_v3
    · obtain rfl : v3 = 0 := by omega
      rcases c_sgn (xs 1) with hneg_v1 | ⟨v1, hr_v1, e_v1⟩
      · obtain ⟨v1, e_v1⟩ : ∃ z : Int32, xs 1 = z := ⟨_, rfl⟩
        rw [e_v1] at hneg_v1
        rcases c_sgn (xs 2) with hneg_v2 | ⟨v2, hr_v2, e_v2⟩
        · obtain ⟨v2, e_v2⟩ : ∃ z : Int32, xs 2 = z := ⟨_, rfl⟩
          rw [e_v2] at hneg_v2
          obtain ⟨v4, e_v4⟩ : ∃ z : Int32, xs 4 = z := ⟨_, rfl⟩
          obtain ⟨v5, e_v5⟩ : ∃ z : Int32, xs 5 = z := ⟨_, rfl⟩
          refine lq_aload_n C (i := 1) rfl 3 rfl dL_law_2160 ?_
          refine lq_aload_n C (i := 0) rfl 4 rfl dL_law_2161 ?_
          refine lq_iload C 0 rfl dL_law_2162 ?_
          refine lq_iconst C (x := nI 1) rfl dL_law_2164 ?_
          refine lq_iadd C dL_law_2165 ?_
          refine lq_cast (.int (nI 1)) (congrArg Value.int (by decide)) ?_
          refine lq_sld C 1 (by decide) (by decide) dL_law_2166 ?_
          refine lq_cast (.int v1) (congrArg Value.int e_v1) ?_
          refine lq_aload_n C (i := 0) rfl 4 rfl dL_law_2167 ?_
          refine lq_iload C 0 rfl dL_law_2168 ?_
          refine lq_iconst C (x := nI 2) rfl dL_law_2170 ?_
          refine lq_iadd C dL_law_2171 ?_
          refine lq_cast (.int (nI 2)) (congrArg Value.int (by decide)) ?_
          refine lq_sld C 2 (by decide) (by decide) dL_law_2172 ?_
          refine lq_cast (.int v2) (congrArg Value.int e_v2) ?_
          refine lq_aload_n C (i := 0) rfl 4 rfl dL_law_2173 ?_
          refine lq_iload C 0 rfl dL_law_2174 ?_
          refine lq_iconst C (x := nI 3) rfl dL_law_2176 ?_
          refine lq_iadd C dL_law_2177 ?_
          refine lq_cast (.int (nI 3)) (congrArg Value.int (by decide)) ?_
          refine lq_sld C 3 (by decide) (by decide) dL_law_2178 ?_
          refine lq_cast (.int (nI 0)) (congrArg Value.int e_v3) ?_
          refine lq_if_eq C 2186 (by decide) dL_law_2179 (fun _ => ?_) (fun c_ => absurd (by decide) c_)
          refine lq_iconst C (x := nI 0) rfl dL_law_2186 ?_
          refine lq_aload_n C (i := 3) rfl 1 rfl dL_law_2187 ?_
          refine lq_callW C (z258_L_near l hlt S dp x out v1 v2 hneg_v1 hneg_v2 Fm_x Fk_x) lH_313 rfl rfl ⟨by decide, by decide⟩ ⟨Nat.le_of_ble_eq_true rfl, Nat.le_of_ble_eq_true rfl⟩ rfl (Nat.le_of_ble_eq_true rfl) dL_law_2188 (fun r_2188 u_2188 h_2188 => ?_)
          obtain ⟨hr_2188, hu_2188⟩ := h_2188
          have hw_2188 := hu_2188.symm
          subst hw_2188
          have hx_2188 := hr_2188.symm
          subst hx_2188
          refine lq_istore C (lv' := [(5, .int (nI 1)), (4, .int (nI 0)), (3, .ref out), (2, .ref (a 0)), (1, .ref x), (0, .ref b)]) (by decide) rfl dL_law_2191 ?_
          refine lq_aload_n C (i := 2) rfl 3 rfl dL_law_2193 ?_
          refine lq_aload_n C (i := 0) rfl 5 rfl dL_law_2194 ?_
          refine lq_iload C 1 rfl dL_law_2195 ?_
          refine lq_iconst C (x := nI 1) rfl dL_law_2197 ?_
          refine lq_iadd C dL_law_2198 ?_
          refine lq_cast (.int (nI 1)) (congrArg Value.int (by decide)) ?_
          refine lq_sld C 1 (by decide) (by decide) dL_law_2199 ?_
          refine lq_cast (.int v1) (congrArg Value.int e_v1) ?_
          refine lq_aload_n C (i := 0) rfl 5 rfl dL_law_2200 ?_
          refine lq_iload C 1 rfl dL_law_2201 ?_
          refine lq_iconst C (x := nI 2) rfl dL_law_2203 ?_
          refine lq_iadd C dL_law_2204 ?_
          refine lq_cast (.int (nI 2)) (congrArg Value.int (by decide)) ?_
          refine lq_sld C 2 (by decide) (by decide) dL_law_2205 ?_
          refine lq_cast (.int v2) (congrArg Value.int e_v2) ?_
          refine lq_aload_n C (i := 0) rfl 5 rfl dL_law_2206 ?_
          refine lq_iload C 1 rfl dL_law_2207 ?_
          refine lq_iconst C (x := nI 3) rfl dL_law_2209 ?_
          refine lq_iadd C dL_law_2210 ?_
          refine lq_cast (.int (nI 3)) (congrArg Value.int (by decide)) ?_
          refine lq_sld C 3 (by decide) (by decide) dL_law_2211 ?_
          refine lq_cast (.int (nI 0)) (congrArg Value.int e_v3) ?_
          refine lq_if_eq C 2219 (by decide) dL_law_2212 (fun _ => ?_) (fun c_ => absurd (by decide) c_)
          refine lq_iconst C (x := nI 0) rfl dL_law_2219 ?_
          refine lq_doM C (w156_near l v f g v1 v2 hneg_v1 hneg_v2 Mv_2) lM_316 rfl rfl ⟨by decide, by decide⟩ ⟨Nat.le_of_ble_eq_true rfl, Nat.le_of_ble_eq_true rfl⟩ rfl (Nat.le_of_ble_eq_true rfl) dL_law_2220 ?_
          refine lq_istore C (lv' := [(6, .int (nI 0)), (5, .int (nI 1)), (4, .int (nI 0)), (3, .ref out), (2, .ref (a 0)), (1, .ref x), (0, .ref b)]) (by decide) rfl dL_law_2223 ?_
          refine lq_aload_n C (i := 2) rfl 4 rfl dL_law_2225 ?_
          refine lq_doM C (w4_thrown l (upd (upd (upd v 4 (nI 0)) 77 (nI 0)) 99 (nI 1)) f g rfl) lM_192 rfl rfl ⟨by decide, by decide⟩ ⟨Nat.le_of_ble_eq_true rfl, Nat.le_of_ble_eq_true rfl⟩ rfl (Nat.le_of_ble_eq_true rfl) dL_law_2226 ?_
          refine lq_iload C 1 rfl dL_law_2229 ?_
          refine lq_icmp_eq C 2236 (by decide) dL_law_2231 (fun _ => ?_) (fun c_ => absurd (by decide) c_)
          refine lq_iload C 1 rfl dL_law_2236 ?_
          refine lq_if_ne C 2253 (by decide) dL_law_2238 (fun _ => ?_) (fun c_ => absurd c_ (by decide))
          refine lq_goto C 3491 (by decide) dL_law_2253 ?_
          exact lq_sub [2, 6] rfl (law_tail C (Nat.le_of_ble_eq_true rfl) (Nat.le_of_ble_eq_true rfl))
        · rcases Nat.lt_or_ge v2 1 with hlt_v2 | hlt_v2
          · obtain rfl : v2 = 0 := by omega
            obtain ⟨v4, e_v4⟩ : ∃ z : Int32, xs 4 = z := ⟨_, rfl⟩
            obtain ⟨v5, e_v5⟩ : ∃ z : Int32, xs 5 = z := ⟨_, rfl⟩
            refine lq_aload_n C (i := 1) rfl 3 rfl dL_law_2160 ?_
            refine lq_aload_n C (i := 0) rfl 4 rfl dL_law_2161 ?_
            refine lq_iload C 0 rfl dL_law_2162 ?_
            refine lq_iconst C (x := nI 1) rfl dL_law_2164 ?_
            refine lq_iadd C dL_law_2165 ?_
            refine lq_cast (.int (nI 1)) (congrArg Value.int (by decide)) ?_
            refine lq_sld C 1 (by decide) (by decide) dL_law_2166 ?_
            refine lq_cast (.int v1) (congrArg Value.int e_v1) ?_
            refine lq_aload_n C (i := 0) rfl 4 rfl dL_law_2167 ?_
            refine lq_iload C 0 rfl dL_law_2168 ?_
            refine lq_iconst C (x := nI 2) rfl dL_law_2170 ?_
            refine lq_iadd C dL_law_2171 ?_
            refine lq_cast (.int (nI 2)) (congrArg Value.int (by decide)) ?_
            refine lq_sld C 2 (by decide) (by decide) dL_law_2172 ?_
            refine lq_cast (.int (nI 0)) (congrArg Value.int e_v2) ?_
            refine lq_aload_n C (i := 0) rfl 4 rfl dL_law_2173 ?_
            refine lq_iload C 0 rfl dL_law_2174 ?_
            refine lq_iconst C (x := nI 3) rfl dL_law_2176 ?_
            refine lq_iadd C dL_law_2177 ?_
            refine lq_cast (.int (nI 3)) (congrArg Value.int (by decide)) ?_
            refine lq_sld C 3 (by decide) (by decide) dL_law_2178 ?_
            refine lq_cast (.int (nI 0)) (congrArg Value.int e_v3) ?_
            refine lq_if_eq C 2186 (by decide) dL_law_2179 (fun _ => ?_) (fun c_ => absurd (by decide) c_)
            refine lq_iconst C (x := nI 0) rfl dL_law_2186 ?_
            refine lq_aload_n C (i := 3) rfl 1 rfl dL_law_2187 ?_
            refine lq_callW C (z262_L_near l hlt S dp x out v1 hneg_v1 Fm_x Fk_x) lH_313 rfl rfl ⟨by decide, by decide⟩ ⟨Nat.le_of_ble_eq_true rfl, Nat.le_of_ble_eq_true rfl⟩ rfl (Nat.le_of_ble_eq_true rfl) dL_law_2188 (fun r_2188 u_2188 h_2188 => ?_)
            obtain ⟨hr_2188, hu_2188⟩ := h_2188
            have hw_2188 := hu_2188.symm
            subst hw_2188
            have hx_2188 := hr_2188.symm
            subst hx_2188
            refine lq_istore C (lv' := [(5, .int (nI 1)), (4, .int (nI 0)), (3, .ref out), (2, .ref (a 0)), (1, .ref x), (0, .ref b)]) (by decide) rfl dL_law_2191 ?_
            refine lq_aload_n C (i := 2) rfl 3 rfl dL_law_2193 ?_
            refine lq_aload_n C (i := 0) rfl 5 rfl dL_law_2194 ?_
            refine lq_iload C 1 rfl dL_law_2195 ?_
            refine lq_iconst C (x := nI 1) rfl dL_law_2197 ?_
            refine lq_iadd C dL_law_2198 ?_
            refine lq_cast (.int (nI 1)) (congrArg Value.int (by decide)) ?_
            refine lq_sld C 1 (by decide) (by decide) dL_law_2199 ?_
            refine lq_cast (.int v1) (congrArg Value.int e_v1) ?_
            refine lq_aload_n C (i := 0) rfl 5 rfl dL_law_2200 ?_
            refine lq_iload C 1 rfl dL_law_2201 ?_
            refine lq_iconst C (x := nI 2) rfl dL_law_2203 ?_
            refine lq_iadd C dL_law_2204 ?_
            refine lq_cast (.int (nI 2)) (congrArg Value.int (by decide)) ?_
            refine lq_sld C 2 (by decide) (by decide) dL_law_2205 ?_
            refine lq_cast (.int (nI 0)) (congrArg Value.int e_v2) ?_
            refine lq_aload_n C (i := 0) rfl 5 rfl dL_law_2206 ?_
            refine lq_iload C 1 rfl dL_law_2207 ?_
            refine lq_iconst C (x := nI 3) rfl dL_law_2209 ?_
            refine lq_iadd C dL_law_2210 ?_
            refine lq_cast (.int (nI 3)) (congrArg Value.int (by decide)) ?_
            refine lq_sld C 3 (by decide) (by decide) dL_law_2211 ?_
            refine lq_cast (.int (nI 0)) (congrArg Value.int e_v3) ?_
            refine lq_if_eq C 2219 (by decide) dL_law_2212 (fun _ => ?_) (fun c_ => absurd (by decide) c_)
            refine lq_iconst C (x := nI 0) rfl dL_law_2219 ?_
            refine lq_doM C (w157_near l v f g v1 hneg_v1 Mv_2) lM_316 rfl rfl ⟨by decide, by decide⟩ ⟨Nat.le_of_ble_eq_true rfl, Nat.le_of_ble_eq_true rfl⟩ rfl (Nat.le_of_ble_eq_true rfl) dL_law_2220 ?_
            refine lq_istore C (lv' := [(6, .int (nI 0)), (5, .int (nI 1)), (4, .int (nI 0)), (3, .ref out), (2, .ref (a 0)), (1, .ref x), (0, .ref b)]) (by decide) rfl dL_law_2223 ?_
            refine lq_aload_n C (i := 2) rfl 4 rfl dL_law_2225 ?_
            refine lq_doM C (w4_thrown l (upd (upd (upd v 4 (nI 0)) 77 (nI 0)) 99 (nI 1)) f g rfl) lM_192 rfl rfl ⟨by decide, by decide⟩ ⟨Nat.le_of_ble_eq_true rfl, Nat.le_of_ble_eq_true rfl⟩ rfl (Nat.le_of_ble_eq_true rfl) dL_law_2226 ?_
            refine lq_iload C 1 rfl dL_law_2229 ?_
            refine lq_icmp_eq C 2236 (by decide) dL_law_2231 (fun _ => ?_) (fun c_ => absurd (by decide) c_)
            refine lq_iload C 1 rfl dL_law_2236 ?_
            refine lq_if_ne C 2253 (by decide) dL_law_2238 (fun _ => ?_) (fun c_ => absurd c_ (by decide))
            refine lq_goto C 3491 (by decide) dL_law_2253 ?_
            exact lq_sub [2, 6] rfl (law_tail C (Nat.le_of_ble_eq_true rfl) (Nat.le_of_ble_eq_true rfl))
          · rcases Nat.lt_or_ge v2 21 with hlt_v2 | hlt_v2
            · obtain ⟨v4, e_v4⟩ : ∃ z : Int32, xs 4 = z := ⟨_, rfl⟩
              obtain ⟨v5, e_v5⟩ : ∃ z : Int32, xs 5 = z := ⟨_, rfl⟩
              refine lq_aload_n C (i := 1) rfl 3 rfl dL_law_2160 ?_
              refine lq_aload_n C (i := 0) rfl 4 rfl dL_law_2161 ?_
              refine lq_iload C 0 rfl dL_law_2162 ?_
              refine lq_iconst C (x := nI 1) rfl dL_law_2164 ?_
              refine lq_iadd C dL_law_2165 ?_
              refine lq_cast (.int (nI 1)) (congrArg Value.int (by decide)) ?_
              refine lq_sld C 1 (by decide) (by decide) dL_law_2166 ?_
              refine lq_cast (.int v1) (congrArg Value.int e_v1) ?_
              refine lq_aload_n C (i := 0) rfl 4 rfl dL_law_2167 ?_
              refine lq_iload C 0 rfl dL_law_2168 ?_
              refine lq_iconst C (x := nI 2) rfl dL_law_2170 ?_
              refine lq_iadd C dL_law_2171 ?_
              refine lq_cast (.int (nI 2)) (congrArg Value.int (by decide)) ?_
              refine lq_sld C 2 (by decide) (by decide) dL_law_2172 ?_
              refine lq_cast (.int (nI v2)) (congrArg Value.int e_v2) ?_
              refine lq_aload_n C (i := 0) rfl 4 rfl dL_law_2173 ?_
              refine lq_iload C 0 rfl dL_law_2174 ?_
              refine lq_iconst C (x := nI 3) rfl dL_law_2176 ?_
              refine lq_iadd C dL_law_2177 ?_
              refine lq_cast (.int (nI 3)) (congrArg Value.int (by decide)) ?_
              refine lq_sld C 3 (by decide) (by decide) dL_law_2178 ?_
              refine lq_cast (.int (nI 0)) (congrArg Value.int e_v3) ?_
              refine lq_if_eq C 2186 (by decide) dL_law_2179 (fun _ => ?_) (fun c_ => absurd (by decide) c_)
              refine lq_iconst C (x := nI 0) rfl dL_law_2186 ?_
              refine lq_aload_n C (i := 3) rfl 1 rfl dL_law_2187 ?_
              refine lq_callW C (z266_L_near l hlt S dp x out v2 v1 hneg_v1 (by omega) (by omega) Fm_x Fk_x) lH_313 rfl rfl ⟨by decide, by decide⟩ ⟨Nat.le_of_ble_eq_true rfl, Nat.le_of_ble_eq_true rfl⟩ rfl (Nat.le_of_ble_eq_true rfl) dL_law_2188 (fun r_2188 u_2188 h_2188 => ?_)
              obtain ⟨hr_2188, hu_2188⟩ := h_2188
              have hw_2188 := hu_2188.symm
              subst hw_2188
              have hx_2188 := hr_2188.symm
              subst hx_2188
              refine lq_istore C (lv' := [(5, .int (nI 1)), (4, .int (nI 0)), (3, .ref out), (2, .ref (a 0)), (1, .ref x), (0, .ref b)]) (by decide) rfl dL_law_2191 ?_
              refine lq_aload_n C (i := 2) rfl 3 rfl dL_law_2193 ?_
              refine lq_aload_n C (i := 0) rfl 5 rfl dL_law_2194 ?_
              refine lq_iload C 1 rfl dL_law_2195 ?_
              refine lq_iconst C (x := nI 1) rfl dL_law_2197 ?_
              refine lq_iadd C dL_law_2198 ?_
              refine lq_cast (.int (nI 1)) (congrArg Value.int (by decide)) ?_
              refine lq_sld C 1 (by decide) (by decide) dL_law_2199 ?_
              refine lq_cast (.int v1) (congrArg Value.int e_v1) ?_
              refine lq_aload_n C (i := 0) rfl 5 rfl dL_law_2200 ?_
              refine lq_iload C 1 rfl dL_law_2201 ?_
              refine lq_iconst C (x := nI 2) rfl dL_law_2203 ?_
              refine lq_iadd C dL_law_2204 ?_
              refine lq_cast (.int (nI 2)) (congrArg Value.int (by decide)) ?_
              refine lq_sld C 2 (by decide) (by decide) dL_law_2205 ?_
              refine lq_cast (.int (nI v2)) (congrArg Value.int e_v2) ?_
              refine lq_aload_n C (i := 0) rfl 5 rfl dL_law_2206 ?_
              refine lq_iload C 1 rfl dL_law_2207 ?_
              refine lq_iconst C (x := nI 3) rfl dL_law_2209 ?_
              refine lq_iadd C dL_law_2210 ?_
              refine lq_cast (.int (nI 3)) (congrArg Value.int (by decide)) ?_
              refine lq_sld C 3 (by decide) (by decide) dL_law_2211 ?_
              refine lq_cast (.int (nI 0)) (congrArg Value.int e_v3) ?_
              refine lq_if_eq C 2219 (by decide) dL_law_2212 (fun _ => ?_) (fun c_ => absurd (by decide) c_)
              refine lq_iconst C (x := nI 0) rfl dL_law_2219 ?_
              refine lq_doM C (w158_near l v f g v2 v1 hneg_v1 (by omega) (by omega) Mv_2) lM_316 rfl rfl ⟨by decide, by decide⟩ ⟨Nat.le_of_ble_eq_true rfl, Nat.le_of_ble_eq_true rfl⟩ rfl (Nat.le_of_ble_eq_true rfl) dL_law_2220 ?_
              refine lq_istore C (lv' := [(6, .int (nI 0)), (5, .int (nI 1)), (4, .int (nI 0)), (3, .ref out), (2, .ref (a 0)), (1, .ref x), (0, .ref b)]) (by decide) rfl dL_law_2223 ?_
              refine lq_aload_n C (i := 2) rfl 4 rfl dL_law_2225 ?_
              refine lq_doM C (w4_thrown l (upd (upd (upd v 4 (nI 0)) 77 (nI 0)) 99 (nI 1)) f g rfl) lM_192 rfl rfl ⟨by decide, by decide⟩ ⟨Nat.le_of_ble_eq_true rfl, Nat.le_of_ble_eq_true rfl⟩ rfl (Nat.le_of_ble_eq_true rfl) dL_law_2226 ?_
              refine lq_iload C 1 rfl dL_law_2229 ?_
              refine lq_icmp_eq C 2236 (by decide) dL_law_2231 (fun _ => ?_) (fun c_ => absurd (by decide) c_)
              refine lq_iload C 1 rfl dL_law_2236 ?_
              refine lq_if_ne C 2253 (by decide) dL_law_2238 (fun _ => ?_) (fun c_ => absurd c_ (by decide))
              refine lq_goto C 3491 (by decide) dL_law_2253 ?_
              exact lq_sub [2, 6] rfl (law_tail C (Nat.le_of_ble_eq_true rfl) (Nat.le_of_ble_eq_true rfl))
            · obtain ⟨v4, e_v4⟩ : ∃ z : Int32, xs 4 = z := ⟨_, rfl⟩
              obtain ⟨v5, e_v5⟩ : ∃ z : Int32, xs 5 = z := ⟨_, rfl⟩
              refine lq_aload_n C (i := 1) rfl 3 rfl dL_law_2160 ?_
              refine lq_aload_n C (i := 0) rfl 4 rfl dL_law_2161 ?_
              refine lq_iload C 0 rfl dL_law_2162 ?_
              refine lq_iconst C (x := nI 1) rfl dL_law_2164 ?_
              refine lq_iadd C dL_law_2165 ?_
              refine lq_cast (.int (nI 1)) (congrArg Value.int (by decide)) ?_
              refine lq_sld C 1 (by decide) (by decide) dL_law_2166 ?_
              refine lq_cast (.int v1) (congrArg Value.int e_v1) ?_
              refine lq_aload_n C (i := 0) rfl 4 rfl dL_law_2167 ?_
              refine lq_iload C 0 rfl dL_law_2168 ?_
              refine lq_iconst C (x := nI 2) rfl dL_law_2170 ?_
              refine lq_iadd C dL_law_2171 ?_
              refine lq_cast (.int (nI 2)) (congrArg Value.int (by decide)) ?_
              refine lq_sld C 2 (by decide) (by decide) dL_law_2172 ?_
              refine lq_cast (.int (nI v2)) (congrArg Value.int e_v2) ?_
              refine lq_aload_n C (i := 0) rfl 4 rfl dL_law_2173 ?_
              refine lq_iload C 0 rfl dL_law_2174 ?_
              refine lq_iconst C (x := nI 3) rfl dL_law_2176 ?_
              refine lq_iadd C dL_law_2177 ?_
              refine lq_cast (.int (nI 3)) (congrArg Value.int (by decide)) ?_
              refine lq_sld C 3 (by decide) (by decide) dL_law_2178 ?_
              refine lq_cast (.int (nI 0)) (congrArg Value.int e_v3) ?_
              refine lq_if_eq C 2186 (by decide) dL_law_2179 (fun _ => ?_) (fun c_ => absurd (by decide) c_)
              refine lq_iconst C (x := nI 0) rfl dL_law_2186 ?_
              refine lq_aload_n C (i := 3) rfl 1 rfl dL_law_2187 ?_
              refine lq_callW C (z268_L_near l hlt S dp x out v2 v1 hneg_v1 (by omega) (by omega) Fm_x Fk_x) lH_313 rfl rfl ⟨by decide, by decide⟩ ⟨Nat.le_of_ble_eq_true rfl, Nat.le_of_ble_eq_true rfl⟩ rfl (Nat.le_of_ble_eq_true rfl) dL_law_2188 (fun r_2188 u_2188 h_2188 => ?_)
              obtain ⟨hr_2188, hu_2188⟩ := h_2188
              have hw_2188 := hu_2188.symm
              subst hw_2188
              have hx_2188 := hr_2188.symm
              subst hx_2188
              refine lq_istore C (lv' := [(5, .int (nI 1)), (4, .int (nI 0)), (3, .ref out), (2, .ref (a 0)), (1, .ref x), (0, .ref b)]) (by decide) rfl dL_law_2191 ?_
              refine lq_aload_n C (i := 2) rfl 3 rfl dL_law_2193 ?_
              refine lq_aload_n C (i := 0) rfl 5 rfl dL_law_2194 ?_
              refine lq_iload C 1 rfl dL_law_2195 ?_
              refine lq_iconst C (x := nI 1) rfl dL_law_2197 ?_
              refine lq_iadd C dL_law_2198 ?_
              refine lq_cast (.int (nI 1)) (congrArg Value.int (by decide)) ?_
              refine lq_sld C 1 (by decide) (by decide) dL_law_2199 ?_
              refine lq_cast (.int v1) (congrArg Value.int e_v1) ?_
              refine lq_aload_n C (i := 0) rfl 5 rfl dL_law_2200 ?_
              refine lq_iload C 1 rfl dL_law_2201 ?_
              refine lq_iconst C (x := nI 2) rfl dL_law_2203 ?_
              refine lq_iadd C dL_law_2204 ?_
              refine lq_cast (.int (nI 2)) (congrArg Value.int (by decide)) ?_
              refine lq_sld C 2 (by decide) (by decide) dL_law_2205 ?_
              refine lq_cast (.int (nI v2)) (congrArg Value.int e_v2) ?_
              refine lq_aload_n C (i := 0) rfl 5 rfl dL_law_2206 ?_
              refine lq_iload C 1 rfl dL_law_2207 ?_
              refine lq_iconst C (x := nI 3) rfl dL_law_2209 ?_
              refine lq_iadd C dL_law_2210 ?_
              refine lq_cast (.int (nI 3)) (congrArg Value.int (by decide)) ?_
              refine lq_sld C 3 (by decide) (by decide) dL_law_2211 ?_
              refine lq_cast (.int (nI 0)) (congrArg Value.int e_v3) ?_
              refine lq_if_eq C 2219 (by decide) dL_law_2212 (fun _ => ?_) (fun c_ => absurd (by decide) c_)
              refine lq_iconst C (x := nI 0) rfl dL_law_2219 ?_
              refine lq_doM C (w159_near l v f g v2 v1 hneg_v1 (by omega) (by omega) Mv_2) lM_316 rfl rfl ⟨by decide, by decide⟩ ⟨Nat.le_of_ble_eq_true rfl, Nat.le_of_ble_eq_true rfl⟩ rfl (Nat.le_of_ble_eq_true rfl) dL_law_2220 ?_
              refine lq_istore C (lv' := [(6, .int (nI 0)), (5, .int (nI 1)), (4, .int (nI 0)), (3, .ref out), (2, .ref (a 0)), (1, .ref x), (0, .ref b)]) (by decide) rfl dL_law_2223 ?_
              refine lq_aload_n C (i := 2) rfl 4 rfl dL_law_2225 ?_
              refine lq_doM C (w4_thrown l (upd (upd (upd v 4 (nI 0)) 77 (nI 0)) 99 (nI 1)) f g rfl) lM_192 rfl rfl ⟨by decide, by decide⟩ ⟨Nat.le_of_ble_eq_true rfl, Nat.le_of_ble_eq_true rfl⟩ rfl (Nat.le_of_ble_eq_true rfl) dL_law_2226 ?_
              refine lq_iload C 1 rfl dL_law_2229 ?_
              refine lq_icmp_eq C 2236 (by decide) dL_law_2231 (fun _ => ?_) (fun c_ => absurd (by decide) c_)
              refine lq_iload C 1 rfl dL_law_2236 ?_
              refine lq_if_ne C 2253 (by decide) dL_law_2238 (fun _ => ?_) (fun c_ => absurd c_ (by decide))
              refine lq_goto C 3491 (by decide) dL_law_2253 ?_
              exact lq_sub [2, 6] rfl (law_tail C (Nat.le_of_ble_eq_true rfl) (Nat.le_of_ble_eq_true rfl))
      · rcases Nat.lt_or_ge v1 2 with hlt_v1 | hlt_v1
        · rcases c_sgn (xs 2) with hneg_v2 | ⟨v2, hr_v2, e_v2⟩
          · obtain ⟨v2, e_v2⟩ : ∃ z : Int32, xs 2 = z := ⟨_, rfl⟩
            rw [e_v2] at hneg_v2
            obtain ⟨v4, e_v4⟩ : ∃ z : Int32, xs 4 = z := ⟨_, rfl⟩
            obtain ⟨v5, e_v5⟩ : ∃ z : Int32, xs 5 = z := ⟨_, rfl⟩
            refine lq_aload_n C (i := 1) rfl 3 rfl dL_law_2160 ?_
            refine lq_aload_n C (i := 0) rfl 4 rfl dL_law_2161 ?_
            refine lq_iload C 0 rfl dL_law_2162 ?_
            refine lq_iconst C (x := nI 1) rfl dL_law_2164 ?_
            refine lq_iadd C dL_law_2165 ?_
            refine lq_cast (.int (nI 1)) (congrArg Value.int (by decide)) ?_
            refine lq_sld C 1 (by decide) (by decide) dL_law_2166 ?_
            refine lq_cast (.int (nI v1)) (congrArg Value.int e_v1) ?_
            refine lq_aload_n C (i := 0) rfl 4 rfl dL_law_2167 ?_
            refine lq_iload C 0 rfl dL_law_2168 ?_
            refine lq_iconst C (x := nI 2) rfl dL_law_2170 ?_
            refine lq_iadd C dL_law_2171 ?_
            refine lq_cast (.int (nI 2)) (congrArg Value.int (by decide)) ?_
            refine lq_sld C 2 (by decide) (by decide) dL_law_2172 ?_
            refine lq_cast (.int v2) (congrArg Value.int e_v2) ?_
            refine lq_aload_n C (i := 0) rfl 4 rfl dL_law_2173 ?_
            refine lq_iload C 0 rfl dL_law_2174 ?_
            refine lq_iconst C (x := nI 3) rfl dL_law_2176 ?_
            refine lq_iadd C dL_law_2177 ?_
            refine lq_cast (.int (nI 3)) (congrArg Value.int (by decide)) ?_
            refine lq_sld C 3 (by decide) (by decide) dL_law_2178 ?_
            refine lq_cast (.int (nI 0)) (congrArg Value.int e_v3) ?_
            refine lq_if_eq C 2186 (by decide) dL_law_2179 (fun _ => ?_) (fun c_ => absurd (by decide) c_)
            refine lq_iconst C (x := nI 0) rfl dL_law_2186 ?_
            refine lq_aload_n C (i := 3) rfl 1 rfl dL_law_2187 ?_
            refine lq_callW C (z270_L_near l hlt S dp x out v1 v2 (by omega) hneg_v2 Fm_x Fk_x) lH_313 rfl rfl ⟨by decide, by decide⟩ ⟨Nat.le_of_ble_eq_true rfl, Nat.le_of_ble_eq_true rfl⟩ rfl (Nat.le_of_ble_eq_true rfl) dL_law_2188 (fun r_2188 u_2188 h_2188 => ?_)
            obtain ⟨hr_2188, hu_2188⟩ := h_2188
            have hw_2188 := hu_2188.symm
            subst hw_2188
            have hx_2188 := hr_2188.symm
            subst hx_2188
            refine lq_istore C (lv' := [(5, .int (nI 2)), (4, .int (nI 0)), (3, .ref out), (2, .ref (a 0)), (1, .ref x), (0, .ref b)]) (by decide) rfl dL_law_2191 ?_
            refine lq_aload_n C (i := 2) rfl 3 rfl dL_law_2193 ?_
            refine lq_aload_n C (i := 0) rfl 5 rfl dL_law_2194 ?_
            refine lq_iload C 1 rfl dL_law_2195 ?_
            refine lq_iconst C (x := nI 1) rfl dL_law_2197 ?_
            refine lq_iadd C dL_law_2198 ?_
            refine lq_cast (.int (nI 1)) (congrArg Value.int (by decide)) ?_
            refine lq_sld C 1 (by decide) (by decide) dL_law_2199 ?_
            refine lq_cast (.int (nI v1)) (congrArg Value.int e_v1) ?_
            refine lq_aload_n C (i := 0) rfl 5 rfl dL_law_2200 ?_
            refine lq_iload C 1 rfl dL_law_2201 ?_
            refine lq_iconst C (x := nI 2) rfl dL_law_2203 ?_
            refine lq_iadd C dL_law_2204 ?_
            refine lq_cast (.int (nI 2)) (congrArg Value.int (by decide)) ?_
            refine lq_sld C 2 (by decide) (by decide) dL_law_2205 ?_
            refine lq_cast (.int v2) (congrArg Value.int e_v2) ?_
            refine lq_aload_n C (i := 0) rfl 5 rfl dL_law_2206 ?_
            refine lq_iload C 1 rfl dL_law_2207 ?_
            refine lq_iconst C (x := nI 3) rfl dL_law_2209 ?_
            refine lq_iadd C dL_law_2210 ?_
            refine lq_cast (.int (nI 3)) (congrArg Value.int (by decide)) ?_
            refine lq_sld C 3 (by decide) (by decide) dL_law_2211 ?_
            refine lq_cast (.int (nI 0)) (congrArg Value.int e_v3) ?_
            refine lq_if_eq C 2219 (by decide) dL_law_2212 (fun _ => ?_) (fun c_ => absurd (by decide) c_)
            refine lq_iconst C (x := nI 0) rfl dL_law_2219 ?_
            refine lq_doM C (w160_near l v f g v1 v2 (by omega) hneg_v2 Mv_2) lM_316 rfl rfl ⟨by decide, by decide⟩ ⟨Nat.le_of_ble_eq_true rfl, Nat.le_of_ble_eq_true rfl⟩ rfl (Nat.le_of_ble_eq_true rfl) dL_law_2220 ?_
            refine lq_istore C (lv' := [(6, .int (nI 0)), (5, .int (nI 2)), (4, .int (nI 0)), (3, .ref out), (2, .ref (a 0)), (1, .ref x), (0, .ref b)]) (by decide) rfl dL_law_2223 ?_
            refine lq_aload_n C (i := 2) rfl 4 rfl dL_law_2225 ?_
            refine lq_doM C (w116_thrown l (upd (upd (upd v 4 (nI 0)) 77 (nI 0)) 99 (nI 2)) f g rfl) lM_192 rfl rfl ⟨by decide, by decide⟩ ⟨Nat.le_of_ble_eq_true rfl, Nat.le_of_ble_eq_true rfl⟩ rfl (Nat.le_of_ble_eq_true rfl) dL_law_2226 ?_
            refine lq_iload C 1 rfl dL_law_2229 ?_
            refine lq_icmp_eq C 2236 (by decide) dL_law_2231 (fun _ => ?_) (fun c_ => absurd (by decide) c_)
            refine lq_iload C 1 rfl dL_law_2236 ?_
            refine lq_if_ne C 2253 (by decide) dL_law_2238 (fun _ => ?_) (fun c_ => absurd c_ (by decide))
            refine lq_goto C 3491 (by decide) dL_law_2253 ?_
            exact lq_sub [2, 6] rfl (law_tail C (Nat.le_of_ble_eq_true rfl) (Nat.le_of_ble_eq_true rfl))
          · rcases Nat.lt_or_ge v2 1 with hlt_v2 | hlt_v2
            · obtain rfl : v2 = 0 := by omega
              obtain ⟨v4, e_v4⟩ : ∃ z : Int32, xs 4 = z := ⟨_, rfl⟩
              obtain ⟨v5, e_v5⟩ : ∃ z : Int32, xs 5 = z := ⟨_, rfl⟩
              refine lq_aload_n C (i := 1) rfl 3 rfl dL_law_2160 ?_
              refine lq_aload_n C (i := 0) rfl 4 rfl dL_law_2161 ?_
              refine lq_iload C 0 rfl dL_law_2162 ?_
              refine lq_iconst C (x := nI 1) rfl dL_law_2164 ?_
              refine lq_iadd C dL_law_2165 ?_
              refine lq_cast (.int (nI 1)) (congrArg Value.int (by decide)) ?_
              refine lq_sld C 1 (by decide) (by decide) dL_law_2166 ?_
              refine lq_cast (.int (nI v1)) (congrArg Value.int e_v1) ?_
              refine lq_aload_n C (i := 0) rfl 4 rfl dL_law_2167 ?_
              refine lq_iload C 0 rfl dL_law_2168 ?_
              refine lq_iconst C (x := nI 2) rfl dL_law_2170 ?_
              refine lq_iadd C dL_law_2171 ?_
              refine lq_cast (.int (nI 2)) (congrArg Value.int (by decide)) ?_
              refine lq_sld C 2 (by decide) (by decide) dL_law_2172 ?_
              refine lq_cast (.int (nI 0)) (congrArg Value.int e_v2) ?_
              refine lq_aload_n C (i := 0) rfl 4 rfl dL_law_2173 ?_
              refine lq_iload C 0 rfl dL_law_2174 ?_
              refine lq_iconst C (x := nI 3) rfl dL_law_2176 ?_
              refine lq_iadd C dL_law_2177 ?_
              refine lq_cast (.int (nI 3)) (congrArg Value.int (by decide)) ?_
              refine lq_sld C 3 (by decide) (by decide) dL_law_2178 ?_
              refine lq_cast (.int (nI 0)) (congrArg Value.int e_v3) ?_
              refine lq_if_eq C 2186 (by decide) dL_law_2179 (fun _ => ?_) (fun c_ => absurd (by decide) c_)
              refine lq_iconst C (x := nI 0) rfl dL_law_2186 ?_
              refine lq_aload_n C (i := 3) rfl 1 rfl dL_law_2187 ?_
              refine lq_callW C (z272_L_near l hlt S dp x out v1 (by omega) Fm_x Fk_x) lH_313 rfl rfl ⟨by decide, by decide⟩ ⟨Nat.le_of_ble_eq_true rfl, Nat.le_of_ble_eq_true rfl⟩ rfl (Nat.le_of_ble_eq_true rfl) dL_law_2188 (fun r_2188 u_2188 h_2188 => ?_)
              obtain ⟨hr_2188, hu_2188⟩ := h_2188
              have hw_2188 := hu_2188.symm
              subst hw_2188
              have hx_2188 := hr_2188.symm
              subst hx_2188
              refine lq_istore C (lv' := [(5, .int (nI 2)), (4, .int (nI 0)), (3, .ref out), (2, .ref (a 0)), (1, .ref x), (0, .ref b)]) (by decide) rfl dL_law_2191 ?_
              refine lq_aload_n C (i := 2) rfl 3 rfl dL_law_2193 ?_
              refine lq_aload_n C (i := 0) rfl 5 rfl dL_law_2194 ?_
              refine lq_iload C 1 rfl dL_law_2195 ?_
              refine lq_iconst C (x := nI 1) rfl dL_law_2197 ?_
              refine lq_iadd C dL_law_2198 ?_
              refine lq_cast (.int (nI 1)) (congrArg Value.int (by decide)) ?_
              refine lq_sld C 1 (by decide) (by decide) dL_law_2199 ?_
              refine lq_cast (.int (nI v1)) (congrArg Value.int e_v1) ?_
              refine lq_aload_n C (i := 0) rfl 5 rfl dL_law_2200 ?_
              refine lq_iload C 1 rfl dL_law_2201 ?_
              refine lq_iconst C (x := nI 2) rfl dL_law_2203 ?_
              refine lq_iadd C dL_law_2204 ?_
              refine lq_cast (.int (nI 2)) (congrArg Value.int (by decide)) ?_
              refine lq_sld C 2 (by decide) (by decide) dL_law_2205 ?_
              refine lq_cast (.int (nI 0)) (congrArg Value.int e_v2) ?_
              refine lq_aload_n C (i := 0) rfl 5 rfl dL_law_2206 ?_
              refine lq_iload C 1 rfl dL_law_2207 ?_
              refine lq_iconst C (x := nI 3) rfl dL_law_2209 ?_
              refine lq_iadd C dL_law_2210 ?_
              refine lq_cast (.int (nI 3)) (congrArg Value.int (by decide)) ?_
              refine lq_sld C 3 (by decide) (by decide) dL_law_2211 ?_
              refine lq_cast (.int (nI 0)) (congrArg Value.int e_v3) ?_
              refine lq_if_eq C 2219 (by decide) dL_law_2212 (fun _ => ?_) (fun c_ => absurd (by decide) c_)
              refine lq_iconst C (x := nI 0) rfl dL_law_2219 ?_
              refine lq_doM C (w161_near l v f g v1 (by omega) Mv_2) lM_316 rfl rfl ⟨by decide, by decide⟩ ⟨Nat.le_of_ble_eq_true rfl, Nat.le_of_ble_eq_true rfl⟩ rfl (Nat.le_of_ble_eq_true rfl) dL_law_2220 ?_
              refine lq_istore C (lv' := [(6, .int (nI 0)), (5, .int (nI 2)), (4, .int (nI 0)), (3, .ref out), (2, .ref (a 0)), (1, .ref x), (0, .ref b)]) (by decide) rfl dL_law_2223 ?_
              refine lq_aload_n C (i := 2) rfl 4 rfl dL_law_2225 ?_
              refine lq_doM C (w116_thrown l (upd (upd (upd v 4 (nI 0)) 77 (nI 0)) 99 (nI 2)) f g rfl) lM_192 rfl rfl ⟨by decide, by decide⟩ ⟨Nat.le_of_ble_eq_true rfl, Nat.le_of_ble_eq_true rfl⟩ rfl (Nat.le_of_ble_eq_true rfl) dL_law_2226 ?_
              refine lq_iload C 1 rfl dL_law_2229 ?_
              refine lq_icmp_eq C 2236 (by decide) dL_law_2231 (fun _ => ?_) (fun c_ => absurd (by decide) c_)
              refine lq_iload C 1 rfl dL_law_2236 ?_
              refine lq_if_ne C 2253 (by decide) dL_law_2238 (fun _ => ?_) (fun c_ => absurd c_ (by decide))
              refine lq_goto C 3491 (by decide) dL_law_2253 ?_
              exact lq_sub [2, 6] rfl (law_tail C (Nat.le_of_ble_eq_true rfl) (Nat.le_of_ble_eq_true rfl))
            · rcases Nat.lt_or_ge v2 21 with hlt_v2 | hlt_v2
              · obtain ⟨v4, e_v4⟩ : ∃ z : Int32, xs 4 = z := ⟨_, rfl⟩
                obtain ⟨v5, e_v5⟩ : ∃ z : Int32, xs 5 = z := ⟨_, rfl⟩
                refine lq_aload_n C (i := 1) rfl 3 rfl dL_law_2160 ?_
                refine lq_aload_n C (i := 0) rfl 4 rfl dL_law_2161 ?_
                refine lq_iload C 0 rfl dL_law_2162 ?_
                refine lq_iconst C (x := nI 1) rfl dL_law_2164 ?_
                refine lq_iadd C dL_law_2165 ?_
                refine lq_cast (.int (nI 1)) (congrArg Value.int (by decide)) ?_
                refine lq_sld C 1 (by decide) (by decide) dL_law_2166 ?_
                refine lq_cast (.int (nI v1)) (congrArg Value.int e_v1) ?_
                refine lq_aload_n C (i := 0) rfl 4 rfl dL_law_2167 ?_
                refine lq_iload C 0 rfl dL_law_2168 ?_
                refine lq_iconst C (x := nI 2) rfl dL_law_2170 ?_
                refine lq_iadd C dL_law_2171 ?_
                refine lq_cast (.int (nI 2)) (congrArg Value.int (by decide)) ?_
                refine lq_sld C 2 (by decide) (by decide) dL_law_2172 ?_
                refine lq_cast (.int (nI v2)) (congrArg Value.int e_v2) ?_
                refine lq_aload_n C (i := 0) rfl 4 rfl dL_law_2173 ?_
                refine lq_iload C 0 rfl dL_law_2174 ?_
                refine lq_iconst C (x := nI 3) rfl dL_law_2176 ?_
                refine lq_iadd C dL_law_2177 ?_
                refine lq_cast (.int (nI 3)) (congrArg Value.int (by decide)) ?_
                refine lq_sld C 3 (by decide) (by decide) dL_law_2178 ?_
                refine lq_cast (.int (nI 0)) (congrArg Value.int e_v3) ?_
                refine lq_if_eq C 2186 (by decide) dL_law_2179 (fun _ => ?_) (fun c_ => absurd (by decide) c_)
                refine lq_iconst C (x := nI 0) rfl dL_law_2186 ?_
                refine lq_aload_n C (i := 3) rfl 1 rfl dL_law_2187 ?_
                refine lq_callW C (z274_L_near l hlt S dp x out q1 q2 v1 v2 (by omega) (by omega) (by omega) Fr_352_x Fk_x Fm_x Fr_96_q1 Fk_q1 Fm_q1 Fi_289_q2 Fk_q2 Fm_q2) lH_313 rfl rfl ⟨by decide, by decide⟩ ⟨Nat.le_of_ble_eq_true rfl, Nat.le_of_ble_eq_true rfl⟩ rfl (Nat.le_of_ble_eq_true rfl) dL_law_2188 (fun r_2188 u_2188 h_2188 => ?_)
                obtain ⟨S1, hS1, S2, hS2, hr_2188, hu_2188⟩ := h_2188
                have hw_2188 := hu_2188.symm
                subst hw_2188
                have hx_2188 := hr_2188.symm
                subst hx_2188
                refine lq_istore C (lv' := [(5, .int (nI 3)), (4, .int (nI 0)), (3, .ref out), (2, .ref (a 0)), (1, .ref x), (0, .ref b)]) (by decide) rfl dL_law_2191 ?_
                refine lq_aload_n C (i := 2) rfl 3 rfl dL_law_2193 ?_
                refine lq_aload_n C (i := 0) rfl 5 rfl dL_law_2194 ?_
                refine lq_iload C 1 rfl dL_law_2195 ?_
                refine lq_iconst C (x := nI 1) rfl dL_law_2197 ?_
                refine lq_iadd C dL_law_2198 ?_
                refine lq_cast (.int (nI 1)) (congrArg Value.int (by decide)) ?_
                refine lq_sld C 1 (by decide) (by decide) dL_law_2199 ?_
                refine lq_cast (.int (nI v1)) (congrArg Value.int e_v1) ?_
                refine lq_aload_n C (i := 0) rfl 5 rfl dL_law_2200 ?_
                refine lq_iload C 1 rfl dL_law_2201 ?_
                refine lq_iconst C (x := nI 2) rfl dL_law_2203 ?_
                refine lq_iadd C dL_law_2204 ?_
                refine lq_cast (.int (nI 2)) (congrArg Value.int (by decide)) ?_
                refine lq_sld C 2 (by decide) (by decide) dL_law_2205 ?_
                refine lq_cast (.int (nI v2)) (congrArg Value.int e_v2) ?_
                refine lq_aload_n C (i := 0) rfl 5 rfl dL_law_2206 ?_
                refine lq_iload C 1 rfl dL_law_2207 ?_
                refine lq_iconst C (x := nI 3) rfl dL_law_2209 ?_
                refine lq_iadd C dL_law_2210 ?_
                refine lq_cast (.int (nI 3)) (congrArg Value.int (by decide)) ?_
                refine lq_sld C 3 (by decide) (by decide) dL_law_2211 ?_
                refine lq_cast (.int (nI 0)) (congrArg Value.int e_v3) ?_
                refine lq_if_eq C 2219 (by decide) dL_law_2212 (fun _ => ?_) (fun c_ => absurd (by decide) c_)
                refine lq_iconst C (x := nI 0) rfl dL_law_2219 ?_
                refine lq_doM C (w162_near l v f g v1 v2 (by omega) (by omega) (by omega) Mv_2) lM_316 rfl rfl ⟨by decide, by decide⟩ ⟨Nat.le_of_ble_eq_true rfl, Nat.le_of_ble_eq_true rfl⟩ rfl (Nat.le_of_ble_eq_true rfl) dL_law_2220 ?_
                refine lq_istore C (lv' := [(6, .int (nI 0)), (5, .int (nI 3)), (4, .int (nI 0)), (3, .ref out), (2, .ref (a 0)), (1, .ref x), (0, .ref b)]) (by decide) rfl dL_law_2223 ?_
                refine lq_aload_n C (i := 2) rfl 4 rfl dL_law_2225 ?_
                refine lq_doM C (w133_thrown l (upd (upd (upd v 4 (nI 0)) 77 (nI 0)) 99 (nI 3)) f g rfl) lM_192 rfl rfl ⟨by decide, by decide⟩ ⟨Nat.le_of_ble_eq_true rfl, Nat.le_of_ble_eq_true rfl⟩ rfl (Nat.le_of_ble_eq_true rfl) dL_law_2226 ?_
                refine lq_iload C 1 rfl dL_law_2229 ?_
                refine lq_icmp_eq C 2236 (by decide) dL_law_2231 (fun _ => ?_) (fun c_ => absurd (by decide) c_)
                refine lq_iload C 1 rfl dL_law_2236 ?_
                refine lq_if_ne C 2253 (by decide) dL_law_2238 (fun _ => ?_) (fun c_ => absurd c_ (by decide))
                refine lq_goto C 3491 (by decide) dL_law_2253 ?_
                exact lq_sub [2, 6] rfl (law_tail C (Nat.le_of_ble_eq_true rfl) (Nat.le_of_ble_eq_true rfl))
              · obtain ⟨v4, e_v4⟩ : ∃ z : Int32, xs 4 = z := ⟨_, rfl⟩
                obtain ⟨v5, e_v5⟩ : ∃ z : Int32, xs 5 = z := ⟨_, rfl⟩
                refine lq_aload_n C (i := 1) rfl 3 rfl dL_law_2160 ?_
                refine lq_aload_n C (i := 0) rfl 4 rfl dL_law_2161 ?_
                refine lq_iload C 0 rfl dL_law_2162 ?_
                refine lq_iconst C (x := nI 1) rfl dL_law_2164 ?_
                refine lq_iadd C dL_law_2165 ?_
                refine lq_cast (.int (nI 1)) (congrArg Value.int (by decide)) ?_
                refine lq_sld C 1 (by decide) (by decide) dL_law_2166 ?_
                refine lq_cast (.int (nI v1)) (congrArg Value.int e_v1) ?_
                refine lq_aload_n C (i := 0) rfl 4 rfl dL_law_2167 ?_
                refine lq_iload C 0 rfl dL_law_2168 ?_
                refine lq_iconst C (x := nI 2) rfl dL_law_2170 ?_
                refine lq_iadd C dL_law_2171 ?_
                refine lq_cast (.int (nI 2)) (congrArg Value.int (by decide)) ?_
                refine lq_sld C 2 (by decide) (by decide) dL_law_2172 ?_
                refine lq_cast (.int (nI v2)) (congrArg Value.int e_v2) ?_
                refine lq_aload_n C (i := 0) rfl 4 rfl dL_law_2173 ?_
                refine lq_iload C 0 rfl dL_law_2174 ?_
                refine lq_iconst C (x := nI 3) rfl dL_law_2176 ?_
                refine lq_iadd C dL_law_2177 ?_
                refine lq_cast (.int (nI 3)) (congrArg Value.int (by decide)) ?_
                refine lq_sld C 3 (by decide) (by decide) dL_law_2178 ?_
                refine lq_cast (.int (nI 0)) (congrArg Value.int e_v3) ?_
                refine lq_if_eq C 2186 (by decide) dL_law_2179 (fun _ => ?_) (fun c_ => absurd (by decide) c_)
                refine lq_iconst C (x := nI 0) rfl dL_law_2186 ?_
                refine lq_aload_n C (i := 3) rfl 1 rfl dL_law_2187 ?_
                refine lq_callW C (z276_L_near l hlt S dp x out v1 v2 (by omega) (by omega) (by omega) Fm_x Fk_x) lH_313 rfl rfl ⟨by decide, by decide⟩ ⟨Nat.le_of_ble_eq_true rfl, Nat.le_of_ble_eq_true rfl⟩ rfl (Nat.le_of_ble_eq_true rfl) dL_law_2188 (fun r_2188 u_2188 h_2188 => ?_)
                obtain ⟨hr_2188, hu_2188⟩ := h_2188
                have hw_2188 := hu_2188.symm
                subst hw_2188
                have hx_2188 := hr_2188.symm
                subst hx_2188
                refine lq_istore C (lv' := [(5, .int (nI 2)), (4, .int (nI 0)), (3, .ref out), (2, .ref (a 0)), (1, .ref x), (0, .ref b)]) (by decide) rfl dL_law_2191 ?_
                refine lq_aload_n C (i := 2) rfl 3 rfl dL_law_2193 ?_
                refine lq_aload_n C (i := 0) rfl 5 rfl dL_law_2194 ?_
                refine lq_iload C 1 rfl dL_law_2195 ?_
                refine lq_iconst C (x := nI 1) rfl dL_law_2197 ?_
                refine lq_iadd C dL_law_2198 ?_
                refine lq_cast (.int (nI 1)) (congrArg Value.int (by decide)) ?_
                refine lq_sld C 1 (by decide) (by decide) dL_law_2199 ?_
                refine lq_cast (.int (nI v1)) (congrArg Value.int e_v1) ?_
                refine lq_aload_n C (i := 0) rfl 5 rfl dL_law_2200 ?_
                refine lq_iload C 1 rfl dL_law_2201 ?_
                refine lq_iconst C (x := nI 2) rfl dL_law_2203 ?_
                refine lq_iadd C dL_law_2204 ?_
                refine lq_cast (.int (nI 2)) (congrArg Value.int (by decide)) ?_
                refine lq_sld C 2 (by decide) (by decide) dL_law_2205 ?_
                refine lq_cast (.int (nI v2)) (congrArg Value.int e_v2) ?_
                refine lq_aload_n C (i := 0) rfl 5 rfl dL_law_2206 ?_
                refine lq_iload C 1 rfl dL_law_2207 ?_
                refine lq_iconst C (x := nI 3) rfl dL_law_2209 ?_
                refine lq_iadd C dL_law_2210 ?_
                refine lq_cast (.int (nI 3)) (congrArg Value.int (by decide)) ?_
                refine lq_sld C 3 (by decide) (by decide) dL_law_2211 ?_
                refine lq_cast (.int (nI 0)) (congrArg Value.int e_v3) ?_
                refine lq_if_eq C 2219 (by decide) dL_law_2212 (fun _ => ?_) (fun c_ => absurd (by decide) c_)
                refine lq_iconst C (x := nI 0) rfl dL_law_2219 ?_
                refine lq_doM C (w163_near l v f g v1 v2 (by omega) (by omega) (by omega) Mv_2) lM_316 rfl rfl ⟨by decide, by decide⟩ ⟨Nat.le_of_ble_eq_true rfl, Nat.le_of_ble_eq_true rfl⟩ rfl (Nat.le_of_ble_eq_true rfl) dL_law_2220 ?_
                refine lq_istore C (lv' := [(6, .int (nI 0)), (5, .int (nI 2)), (4, .int (nI 0)), (3, .ref out), (2, .ref (a 0)), (1, .ref x), (0, .ref b)]) (by decide) rfl dL_law_2223 ?_
                refine lq_aload_n C (i := 2) rfl 4 rfl dL_law_2225 ?_
                refine lq_doM C (w116_thrown l (upd (upd (upd v 4 (nI 0)) 77 (nI 0)) 99 (nI 2)) f g rfl) lM_192 rfl rfl ⟨by decide, by decide⟩ ⟨Nat.le_of_ble_eq_true rfl, Nat.le_of_ble_eq_true rfl⟩ rfl (Nat.le_of_ble_eq_true rfl) dL_law_2226 ?_
                refine lq_iload C 1 rfl dL_law_2229 ?_
                refine lq_icmp_eq C 2236 (by decide) dL_law_2231 (fun _ => ?_) (fun c_ => absurd (by decide) c_)
                refine lq_iload C 1 rfl dL_law_2236 ?_
                refine lq_if_ne C 2253 (by decide) dL_law_2238 (fun _ => ?_) (fun c_ => absurd c_ (by decide))
                refine lq_goto C 3491 (by decide) dL_law_2253 ?_
                exact lq_sub [2, 6] rfl (law_tail C (Nat.le_of_ble_eq_true rfl) (Nat.le_of_ble_eq_true rfl))
        · rcases c_sgn (xs 2) with hneg_v2 | ⟨v2, hr_v2, e_v2⟩
          · obtain ⟨v2, e_v2⟩ : ∃ z : Int32, xs 2 = z := ⟨_, rfl⟩
            rw [e_v2] at hneg_v2
            obtain ⟨v4, e_v4⟩ : ∃ z : Int32, xs 4 = z := ⟨_, rfl⟩
            obtain ⟨v5, e_v5⟩ : ∃ z : Int32, xs 5 = z := ⟨_, rfl⟩
            refine lq_aload_n C (i := 1) rfl 3 rfl dL_law_2160 ?_
            refine lq_aload_n C (i := 0) rfl 4 rfl dL_law_2161 ?_
            refine lq_iload C 0 rfl dL_law_2162 ?_
            refine lq_iconst C (x := nI 1) rfl dL_law_2164 ?_
            refine lq_iadd C dL_law_2165 ?_
            refine lq_cast (.int (nI 1)) (congrArg Value.int (by decide)) ?_
            refine lq_sld C 1 (by decide) (by decide) dL_law_2166 ?_
            refine lq_cast (.int (nI v1)) (congrArg Value.int e_v1) ?_
            refine lq_aload_n C (i := 0) rfl 4 rfl dL_law_2167 ?_
            refine lq_iload C 0 rfl dL_law_2168 ?_
            refine lq_iconst C (x := nI 2) rfl dL_law_2170 ?_
            refine lq_iadd C dL_law_2171 ?_
            refine lq_cast (.int (nI 2)) (congrArg Value.int (by decide)) ?_
            refine lq_sld C 2 (by decide) (by decide) dL_law_2172 ?_
            refine lq_cast (.int v2) (congrArg Value.int e_v2) ?_
            refine lq_aload_n C (i := 0) rfl 4 rfl dL_law_2173 ?_
            refine lq_iload C 0 rfl dL_law_2174 ?_
            refine lq_iconst C (x := nI 3) rfl dL_law_2176 ?_
            refine lq_iadd C dL_law_2177 ?_
            refine lq_cast (.int (nI 3)) (congrArg Value.int (by decide)) ?_
            refine lq_sld C 3 (by decide) (by decide) dL_law_2178 ?_
            refine lq_cast (.int (nI 0)) (congrArg Value.int e_v3) ?_
            refine lq_if_eq C 2186 (by decide) dL_law_2179 (fun _ => ?_) (fun c_ => absurd (by decide) c_)
            refine lq_iconst C (x := nI 0) rfl dL_law_2186 ?_
            refine lq_aload_n C (i := 3) rfl 1 rfl dL_law_2187 ?_
            refine lq_callW C (z280_L_near l hlt S dp x out v1 v2 (by omega) (by omega) hneg_v2 Fm_x Fk_x) lH_313 rfl rfl ⟨by decide, by decide⟩ ⟨Nat.le_of_ble_eq_true rfl, Nat.le_of_ble_eq_true rfl⟩ rfl (Nat.le_of_ble_eq_true rfl) dL_law_2188 (fun r_2188 u_2188 h_2188 => ?_)
            obtain ⟨hr_2188, hu_2188⟩ := h_2188
            have hw_2188 := hu_2188.symm
            subst hw_2188
            have hx_2188 := hr_2188.symm
            subst hx_2188
            refine lq_istore C (lv' := [(5, .int (nI 1)), (4, .int (nI 0)), (3, .ref out), (2, .ref (a 0)), (1, .ref x), (0, .ref b)]) (by decide) rfl dL_law_2191 ?_
            refine lq_aload_n C (i := 2) rfl 3 rfl dL_law_2193 ?_
            refine lq_aload_n C (i := 0) rfl 5 rfl dL_law_2194 ?_
            refine lq_iload C 1 rfl dL_law_2195 ?_
            refine lq_iconst C (x := nI 1) rfl dL_law_2197 ?_
            refine lq_iadd C dL_law_2198 ?_
            refine lq_cast (.int (nI 1)) (congrArg Value.int (by decide)) ?_
            refine lq_sld C 1 (by decide) (by decide) dL_law_2199 ?_
            refine lq_cast (.int (nI v1)) (congrArg Value.int e_v1) ?_
            refine lq_aload_n C (i := 0) rfl 5 rfl dL_law_2200 ?_
            refine lq_iload C 1 rfl dL_law_2201 ?_
            refine lq_iconst C (x := nI 2) rfl dL_law_2203 ?_
            refine lq_iadd C dL_law_2204 ?_
            refine lq_cast (.int (nI 2)) (congrArg Value.int (by decide)) ?_
            refine lq_sld C 2 (by decide) (by decide) dL_law_2205 ?_
            refine lq_cast (.int v2) (congrArg Value.int e_v2) ?_
            refine lq_aload_n C (i := 0) rfl 5 rfl dL_law_2206 ?_
            refine lq_iload C 1 rfl dL_law_2207 ?_
            refine lq_iconst C (x := nI 3) rfl dL_law_2209 ?_
            refine lq_iadd C dL_law_2210 ?_
            refine lq_cast (.int (nI 3)) (congrArg Value.int (by decide)) ?_
            refine lq_sld C 3 (by decide) (by decide) dL_law_2211 ?_
            refine lq_cast (.int (nI 0)) (congrArg Value.int e_v3) ?_
            refine lq_if_eq C 2219 (by decide) dL_law_2212 (fun _ => ?_) (fun c_ => absurd (by decide) c_)
            refine lq_iconst C (x := nI 0) rfl dL_law_2219 ?_
            refine lq_doM C (w164_near l v f g v1 v2 (by omega) (by omega) hneg_v2 Mv_2) lM_316 rfl rfl ⟨by decide, by decide⟩ ⟨Nat.le_of_ble_eq_true rfl, Nat.le_of_ble_eq_true rfl⟩ rfl (Nat.le_of_ble_eq_true rfl) dL_law_2220 ?_
            refine lq_istore C (lv' := [(6, .int (nI 0)), (5, .int (nI 1)), (4, .int (nI 0)), (3, .ref out), (2, .ref (a 0)), (1, .ref x), (0, .ref b)]) (by decide) rfl dL_law_2223 ?_
            refine lq_aload_n C (i := 2) rfl 4 rfl dL_law_2225 ?_
            refine lq_doM C (w4_thrown l (upd (upd (upd v 4 (nI 0)) 77 (nI 0)) 99 (nI 1)) f g rfl) lM_192 rfl rfl ⟨by decide, by decide⟩ ⟨Nat.le_of_ble_eq_true rfl, Nat.le_of_ble_eq_true rfl⟩ rfl (Nat.le_of_ble_eq_true rfl) dL_law_2226 ?_
            refine lq_iload C 1 rfl dL_law_2229 ?_
            refine lq_icmp_eq C 2236 (by decide) dL_law_2231 (fun _ => ?_) (fun c_ => absurd (by decide) c_)
            refine lq_iload C 1 rfl dL_law_2236 ?_
            refine lq_if_ne C 2253 (by decide) dL_law_2238 (fun _ => ?_) (fun c_ => absurd c_ (by decide))
            refine lq_goto C 3491 (by decide) dL_law_2253 ?_
            exact lq_sub [2, 6] rfl (law_tail C (Nat.le_of_ble_eq_true rfl) (Nat.le_of_ble_eq_true rfl))
          · rcases Nat.lt_or_ge v2 1 with hlt_v2 | hlt_v2
            · obtain rfl : v2 = 0 := by omega
              obtain ⟨v4, e_v4⟩ : ∃ z : Int32, xs 4 = z := ⟨_, rfl⟩
              obtain ⟨v5, e_v5⟩ : ∃ z : Int32, xs 5 = z := ⟨_, rfl⟩
              refine lq_aload_n C (i := 1) rfl 3 rfl dL_law_2160 ?_
              refine lq_aload_n C (i := 0) rfl 4 rfl dL_law_2161 ?_
              refine lq_iload C 0 rfl dL_law_2162 ?_
              refine lq_iconst C (x := nI 1) rfl dL_law_2164 ?_
              refine lq_iadd C dL_law_2165 ?_
              refine lq_cast (.int (nI 1)) (congrArg Value.int (by decide)) ?_
              refine lq_sld C 1 (by decide) (by decide) dL_law_2166 ?_
              refine lq_cast (.int (nI v1)) (congrArg Value.int e_v1) ?_
              refine lq_aload_n C (i := 0) rfl 4 rfl dL_law_2167 ?_
              refine lq_iload C 0 rfl dL_law_2168 ?_
              refine lq_iconst C (x := nI 2) rfl dL_law_2170 ?_
              refine lq_iadd C dL_law_2171 ?_
              refine lq_cast (.int (nI 2)) (congrArg Value.int (by decide)) ?_
              refine lq_sld C 2 (by decide) (by decide) dL_law_2172 ?_
              refine lq_cast (.int (nI 0)) (congrArg Value.int e_v2) ?_
              refine lq_aload_n C (i := 0) rfl 4 rfl dL_law_2173 ?_
              refine lq_iload C 0 rfl dL_law_2174 ?_
              refine lq_iconst C (x := nI 3) rfl dL_law_2176 ?_
              refine lq_iadd C dL_law_2177 ?_
              refine lq_cast (.int (nI 3)) (congrArg Value.int (by decide)) ?_
              refine lq_sld C 3 (by decide) (by decide) dL_law_2178 ?_
              refine lq_cast (.int (nI 0)) (congrArg Value.int e_v3) ?_
              refine lq_if_eq C 2186 (by decide) dL_law_2179 (fun _ => ?_) (fun c_ => absurd (by decide) c_)
              refine lq_iconst C (x := nI 0) rfl dL_law_2186 ?_
              refine lq_aload_n C (i := 3) rfl 1 rfl dL_law_2187 ?_
              refine lq_callW C (z284_L_near l hlt S dp x out v1 (by omega) (by omega) Fm_x Fk_x) lH_313 rfl rfl ⟨by decide, by decide⟩ ⟨Nat.le_of_ble_eq_true rfl, Nat.le_of_ble_eq_true rfl⟩ rfl (Nat.le_of_ble_eq_true rfl) dL_law_2188 (fun r_2188 u_2188 h_2188 => ?_)
              obtain ⟨hr_2188, hu_2188⟩ := h_2188
              have hw_2188 := hu_2188.symm
              subst hw_2188
              have hx_2188 := hr_2188.symm
              subst hx_2188
              refine lq_istore C (lv' := [(5, .int (nI 1)), (4, .int (nI 0)), (3, .ref out), (2, .ref (a 0)), (1, .ref x), (0, .ref b)]) (by decide) rfl dL_law_2191 ?_
              refine lq_aload_n C (i := 2) rfl 3 rfl dL_law_2193 ?_
              refine lq_aload_n C (i := 0) rfl 5 rfl dL_law_2194 ?_
              refine lq_iload C 1 rfl dL_law_2195 ?_
              refine lq_iconst C (x := nI 1) rfl dL_law_2197 ?_
              refine lq_iadd C dL_law_2198 ?_
              refine lq_cast (.int (nI 1)) (congrArg Value.int (by decide)) ?_
              refine lq_sld C 1 (by decide) (by decide) dL_law_2199 ?_
              refine lq_cast (.int (nI v1)) (congrArg Value.int e_v1) ?_
              refine lq_aload_n C (i := 0) rfl 5 rfl dL_law_2200 ?_
              refine lq_iload C 1 rfl dL_law_2201 ?_
              refine lq_iconst C (x := nI 2) rfl dL_law_2203 ?_
              refine lq_iadd C dL_law_2204 ?_
              refine lq_cast (.int (nI 2)) (congrArg Value.int (by decide)) ?_
              refine lq_sld C 2 (by decide) (by decide) dL_law_2205 ?_
              refine lq_cast (.int (nI 0)) (congrArg Value.int e_v2) ?_
              refine lq_aload_n C (i := 0) rfl 5 rfl dL_law_2206 ?_
              refine lq_iload C 1 rfl dL_law_2207 ?_
              refine lq_iconst C (x := nI 3) rfl dL_law_2209 ?_
              refine lq_iadd C dL_law_2210 ?_
              refine lq_cast (.int (nI 3)) (congrArg Value.int (by decide)) ?_
              refine lq_sld C 3 (by decide) (by decide) dL_law_2211 ?_
              refine lq_cast (.int (nI 0)) (congrArg Value.int e_v3) ?_
              refine lq_if_eq C 2219 (by decide) dL_law_2212 (fun _ => ?_) (fun c_ => absurd (by decide) c_)
              refine lq_iconst C (x := nI 0) rfl dL_law_2219 ?_
              refine lq_doM C (w165_near l v f g v1 (by omega) (by omega) Mv_2) lM_316 rfl rfl ⟨by decide, by decide⟩ ⟨Nat.le_of_ble_eq_true rfl, Nat.le_of_ble_eq_true rfl⟩ rfl (Nat.le_of_ble_eq_true rfl) dL_law_2220 ?_
              refine lq_istore C (lv' := [(6, .int (nI 0)), (5, .int (nI 1)), (4, .int (nI 0)), (3, .ref out), (2, .ref (a 0)), (1, .ref x), (0, .ref b)]) (by decide) rfl dL_law_2223 ?_
              refine lq_aload_n C (i := 2) rfl 4 rfl dL_law_2225 ?_
              refine lq_doM C (w4_thrown l (upd (upd (upd v 4 (nI 0)) 77 (nI 0)) 99 (nI 1)) f g rfl) lM_192 rfl rfl ⟨by decide, by decide⟩ ⟨Nat.le_of_ble_eq_true rfl, Nat.le_of_ble_eq_true rfl⟩ rfl (Nat.le_of_ble_eq_true rfl) dL_law_2226 ?_
              refine lq_iload C 1 rfl dL_law_2229 ?_
              refine lq_icmp_eq C 2236 (by decide) dL_law_2231 (fun _ => ?_) (fun c_ => absurd (by decide) c_)
              refine lq_iload C 1 rfl dL_law_2236 ?_
              refine lq_if_ne C 2253 (by decide) dL_law_2238 (fun _ => ?_) (fun c_ => absurd c_ (by decide))
              refine lq_goto C 3491 (by decide) dL_law_2253 ?_
              exact lq_sub [2, 6] rfl (law_tail C (Nat.le_of_ble_eq_true rfl) (Nat.le_of_ble_eq_true rfl))
            · rcases Nat.lt_or_ge v2 21 with hlt_v2 | hlt_v2
              · obtain ⟨v4, e_v4⟩ : ∃ z : Int32, xs 4 = z := ⟨_, rfl⟩
                obtain ⟨v5, e_v5⟩ : ∃ z : Int32, xs 5 = z := ⟨_, rfl⟩
                refine lq_aload_n C (i := 1) rfl 3 rfl dL_law_2160 ?_
                refine lq_aload_n C (i := 0) rfl 4 rfl dL_law_2161 ?_
                refine lq_iload C 0 rfl dL_law_2162 ?_
                refine lq_iconst C (x := nI 1) rfl dL_law_2164 ?_
                refine lq_iadd C dL_law_2165 ?_
                refine lq_cast (.int (nI 1)) (congrArg Value.int (by decide)) ?_
                refine lq_sld C 1 (by decide) (by decide) dL_law_2166 ?_
                refine lq_cast (.int (nI v1)) (congrArg Value.int e_v1) ?_
                refine lq_aload_n C (i := 0) rfl 4 rfl dL_law_2167 ?_
                refine lq_iload C 0 rfl dL_law_2168 ?_
                refine lq_iconst C (x := nI 2) rfl dL_law_2170 ?_
                refine lq_iadd C dL_law_2171 ?_
                refine lq_cast (.int (nI 2)) (congrArg Value.int (by decide)) ?_
                refine lq_sld C 2 (by decide) (by decide) dL_law_2172 ?_
                refine lq_cast (.int (nI v2)) (congrArg Value.int e_v2) ?_
                refine lq_aload_n C (i := 0) rfl 4 rfl dL_law_2173 ?_
                refine lq_iload C 0 rfl dL_law_2174 ?_
                refine lq_iconst C (x := nI 3) rfl dL_law_2176 ?_
                refine lq_iadd C dL_law_2177 ?_
                refine lq_cast (.int (nI 3)) (congrArg Value.int (by decide)) ?_
                refine lq_sld C 3 (by decide) (by decide) dL_law_2178 ?_
                refine lq_cast (.int (nI 0)) (congrArg Value.int e_v3) ?_
                refine lq_if_eq C 2186 (by decide) dL_law_2179 (fun _ => ?_) (fun c_ => absurd (by decide) c_)
                refine lq_iconst C (x := nI 0) rfl dL_law_2186 ?_
                refine lq_aload_n C (i := 3) rfl 1 rfl dL_law_2187 ?_
                refine lq_callW C (z288_L_near l hlt S dp x out v1 v2 (by omega) (by omega) (by omega) (by omega) Fm_x Fk_x) lH_313 rfl rfl ⟨by decide, by decide⟩ ⟨Nat.le_of_ble_eq_true rfl, Nat.le_of_ble_eq_true rfl⟩ rfl (Nat.le_of_ble_eq_true rfl) dL_law_2188 (fun r_2188 u_2188 h_2188 => ?_)
                obtain ⟨hr_2188, hu_2188⟩ := h_2188
                have hw_2188 := hu_2188.symm
                subst hw_2188
                have hx_2188 := hr_2188.symm
                subst hx_2188
                refine lq_istore C (lv' := [(5, .int (nI 1)), (4, .int (nI 0)), (3, .ref out), (2, .ref (a 0)), (1, .ref x), (0, .ref b)]) (by decide) rfl dL_law_2191 ?_
                refine lq_aload_n C (i := 2) rfl 3 rfl dL_law_2193 ?_
                refine lq_aload_n C (i := 0) rfl 5 rfl dL_law_2194 ?_
                refine lq_iload C 1 rfl dL_law_2195 ?_
                refine lq_iconst C (x := nI 1) rfl dL_law_2197 ?_
                refine lq_iadd C dL_law_2198 ?_
                refine lq_cast (.int (nI 1)) (congrArg Value.int (by decide)) ?_
                refine lq_sld C 1 (by decide) (by decide) dL_law_2199 ?_
                refine lq_cast (.int (nI v1)) (congrArg Value.int e_v1) ?_
                refine lq_aload_n C (i := 0) rfl 5 rfl dL_law_2200 ?_
                refine lq_iload C 1 rfl dL_law_2201 ?_
                refine lq_iconst C (x := nI 2) rfl dL_law_2203 ?_
                refine lq_iadd C dL_law_2204 ?_
                refine lq_cast (.int (nI 2)) (congrArg Value.int (by decide)) ?_
                refine lq_sld C 2 (by decide) (by decide) dL_law_2205 ?_
                refine lq_cast (.int (nI v2)) (congrArg Value.int e_v2) ?_
                refine lq_aload_n C (i := 0) rfl 5 rfl dL_law_2206 ?_
                refine lq_iload C 1 rfl dL_law_2207 ?_
                refine lq_iconst C (x := nI 3) rfl dL_law_2209 ?_
                refine lq_iadd C dL_law_2210 ?_
                refine lq_cast (.int (nI 3)) (congrArg Value.int (by decide)) ?_
                refine lq_sld C 3 (by decide) (by decide) dL_law_2211 ?_
                refine lq_cast (.int (nI 0)) (congrArg Value.int e_v3) ?_
                refine lq_if_eq C 2219 (by decide) dL_law_2212 (fun _ => ?_) (fun c_ => absurd (by decide) c_)
                refine lq_iconst C (x := nI 0) rfl dL_law_2219 ?_
                refine lq_doM C (w166_near l v f g v1 v2 (by omega) (by omega) (by omega) (by omega) Mv_2) lM_316 rfl rfl ⟨by decide, by decide⟩ ⟨Nat.le_of_ble_eq_true rfl, Nat.le_of_ble_eq_true rfl⟩ rfl (Nat.le_of_ble_eq_true rfl) dL_law_2220 ?_
                refine lq_istore C (lv' := [(6, .int (nI 0)), (5, .int (nI 1)), (4, .int (nI 0)), (3, .ref out), (2, .ref (a 0)), (1, .ref x), (0, .ref b)]) (by decide) rfl dL_law_2223 ?_
                refine lq_aload_n C (i := 2) rfl 4 rfl dL_law_2225 ?_
                refine lq_doM C (w4_thrown l (upd (upd (upd v 4 (nI 0)) 77 (nI 0)) 99 (nI 1)) f g rfl) lM_192 rfl rfl ⟨by decide, by decide⟩ ⟨Nat.le_of_ble_eq_true rfl, Nat.le_of_ble_eq_true rfl⟩ rfl (Nat.le_of_ble_eq_true rfl) dL_law_2226 ?_
                refine lq_iload C 1 rfl dL_law_2229 ?_
                refine lq_icmp_eq C 2236 (by decide) dL_law_2231 (fun _ => ?_) (fun c_ => absurd (by decide) c_)
                refine lq_iload C 1 rfl dL_law_2236 ?_
                refine lq_if_ne C 2253 (by decide) dL_law_2238 (fun _ => ?_) (fun c_ => absurd c_ (by decide))
                refine lq_goto C 3491 (by decide) dL_law_2253 ?_
                exact lq_sub [2, 6] rfl (law_tail C (Nat.le_of_ble_eq_true rfl) (Nat.le_of_ble_eq_true rfl))
              · obtain ⟨v4, e_v4⟩ : ∃ z : Int32, xs 4 = z := ⟨_, rfl⟩
                obtain ⟨v5, e_v5⟩ : ∃ z : Int32, xs 5 = z := ⟨_, rfl⟩
                refine lq_aload_n C (i := 1) rfl 3 rfl dL_law_2160 ?_
                refine lq_aload_n C (i := 0) rfl 4 rfl dL_law_2161 ?_
                refine lq_iload C 0 rfl dL_law_2162 ?_
                refine lq_iconst C (x := nI 1) rfl dL_law_2164 ?_
                refine lq_iadd C dL_law_2165 ?_
                refine lq_cast (.int (nI 1)) (congrArg Value.int (by decide)) ?_
                refine lq_sld C 1 (by decide) (by decide) dL_law_2166 ?_
                refine lq_cast (.int (nI v1)) (congrArg Value.int e_v1) ?_
                refine lq_aload_n C (i := 0) rfl 4 rfl dL_law_2167 ?_
                refine lq_iload C 0 rfl dL_law_2168 ?_
                refine lq_iconst C (x := nI 2) rfl dL_law_2170 ?_
                refine lq_iadd C dL_law_2171 ?_
                refine lq_cast (.int (nI 2)) (congrArg Value.int (by decide)) ?_
                refine lq_sld C 2 (by decide) (by decide) dL_law_2172 ?_
                refine lq_cast (.int (nI v2)) (congrArg Value.int e_v2) ?_
                refine lq_aload_n C (i := 0) rfl 4 rfl dL_law_2173 ?_
                refine lq_iload C 0 rfl dL_law_2174 ?_
                refine lq_iconst C (x := nI 3) rfl dL_law_2176 ?_
                refine lq_iadd C dL_law_2177 ?_
                refine lq_cast (.int (nI 3)) (congrArg Value.int (by decide)) ?_
                refine lq_sld C 3 (by decide) (by decide) dL_law_2178 ?_
                refine lq_cast (.int (nI 0)) (congrArg Value.int e_v3) ?_
                refine lq_if_eq C 2186 (by decide) dL_law_2179 (fun _ => ?_) (fun c_ => absurd (by decide) c_)
                refine lq_iconst C (x := nI 0) rfl dL_law_2186 ?_
                refine lq_aload_n C (i := 3) rfl 1 rfl dL_law_2187 ?_
                refine lq_callW C (z290_L_near l hlt S dp x out v1 v2 (by omega) (by omega) (by omega) (by omega) Fm_x Fk_x) lH_313 rfl rfl ⟨by decide, by decide⟩ ⟨Nat.le_of_ble_eq_true rfl, Nat.le_of_ble_eq_true rfl⟩ rfl (Nat.le_of_ble_eq_true rfl) dL_law_2188 (fun r_2188 u_2188 h_2188 => ?_)
                obtain ⟨hr_2188, hu_2188⟩ := h_2188
                have hw_2188 := hu_2188.symm
                subst hw_2188
                have hx_2188 := hr_2188.symm
                subst hx_2188
                refine lq_istore C (lv' := [(5, .int (nI 1)), (4, .int (nI 0)), (3, .ref out), (2, .ref (a 0)), (1, .ref x), (0, .ref b)]) (by decide) rfl dL_law_2191 ?_
                refine lq_aload_n C (i := 2) rfl 3 rfl dL_law_2193 ?_
                refine lq_aload_n C (i := 0) rfl 5 rfl dL_law_2194 ?_
                refine lq_iload C 1 rfl dL_law_2195 ?_
                refine lq_iconst C (x := nI 1) rfl dL_law_2197 ?_
                refine lq_iadd C dL_law_2198 ?_
                refine lq_cast (.int (nI 1)) (congrArg Value.int (by decide)) ?_
                refine lq_sld C 1 (by decide) (by decide) dL_law_2199 ?_
                refine lq_cast (.int (nI v1)) (congrArg Value.int e_v1) ?_
                refine lq_aload_n C (i := 0) rfl 5 rfl dL_law_2200 ?_
                refine lq_iload C 1 rfl dL_law_2201 ?_
                refine lq_iconst C (x := nI 2) rfl dL_law_2203 ?_
                refine lq_iadd C dL_law_2204 ?_
                refine lq_cast (.int (nI 2)) (congrArg Value.int (by decide)) ?_
                refine lq_sld C 2 (by decide) (by decide) dL_law_2205 ?_
                refine lq_cast (.int (nI v2)) (congrArg Value.int e_v2) ?_
                refine lq_aload_n C (i := 0) rfl 5 rfl dL_law_2206 ?_
                refine lq_iload C 1 rfl dL_law_2207 ?_
                refine lq_iconst C (x := nI 3) rfl dL_law_2209 ?_
                refine lq_iadd C dL_law_2210 ?_
                refine lq_cast (.int (nI 3)) (congrArg Value.int (by decide)) ?_
                refine lq_sld C 3 (by decide) (by decide) dL_law_2211 ?_
                refine lq_cast (.int (nI 0)) (congrArg Value.int e_v3) ?_
                refine lq_if_eq C 2219 (by decide) dL_law_2212 (fun _ => ?_) (fun c_ => absurd (by decide) c_)
                refine lq_iconst C (x := nI 0) rfl dL_law_2219 ?_
                refine lq_doM C (w167_near l v f g v1 v2 (by omega) (by omega) (by omega) (by omega) Mv_2) lM_316 rfl rfl ⟨by decide, by decide⟩ ⟨Nat.le_of_ble_eq_true rfl, Nat.le_of_ble_eq_true rfl⟩ rfl (Nat.le_of_ble_eq_true rfl) dL_law_2220 ?_
                refine lq_istore C (lv' := [(6, .int (nI 0)), (5, .int (nI 1)), (4, .int (nI 0)), (3, .ref out), (2, .ref (a 0)), (1, .ref x), (0, .ref b)]) (by decide) rfl dL_law_2223 ?_
                refine lq_aload_n C (i := 2) rfl 4 rfl dL_law_2225 ?_
                refine lq_doM C (w4_thrown l (upd (upd (upd v 4 (nI 0)) 77 (nI 0)) 99 (nI 1)) f g rfl) lM_192 rfl rfl ⟨by decide, by decide⟩ ⟨Nat.le_of_ble_eq_true rfl, Nat.le_of_ble_eq_true rfl⟩ rfl (Nat.le_of_ble_eq_true rfl) dL_law_2226 ?_
                refine lq_iload C 1 rfl dL_law_2229 ?_
                refine lq_icmp_eq C 2236 (by decide) dL_law_2231 (fun _ => ?_) (fun c_ => absurd (by decide) c_)
                refine lq_iload C 1 rfl dL_law_2236 ?_
                refine lq_if_ne C 2253 (by decide) dL_law_2238 (fun _ => ?_) (fun c_ => absurd c_ (by decide))
                refine lq_goto C 3491 (by decide) dL_law_2253 ?_
                exact lq_sub [2, 6] rfl (law_tail C (Nat.le_of_ble_eq_true rfl) (Nat.le_of_ble_eq_true rfl))
    · rcases c_sgn (xs 1) with hneg_v1 | ⟨v1, hr_v1, e_v1⟩
      · obtain ⟨v1, e_v1⟩ : ∃ z : Int32, xs 1 = z := ⟨_, rfl⟩
        rw [e_v1] at hneg_v1
        rcases c_sgn (xs 2) with hneg_v2 | ⟨v2, hr_v2, e_v2⟩
        · obtain ⟨v2, e_v2⟩ : ∃ z : Int32, xs 2 = z := ⟨_, rfl⟩
          rw [e_v2] at hneg_v2
          obtain ⟨v4, e_v4⟩ : ∃ z : Int32, xs 4 = z := ⟨_, rfl⟩
          obtain ⟨v5, e_v5⟩ : ∃ z : Int32, xs 5 = z := ⟨_, rfl⟩
          refine lq_aload_n C (i := 1) rfl 3 rfl dL_law_2160 ?_
          refine lq_aload_n C (i := 0) rfl 4 rfl dL_law_2161 ?_
          refine lq_iload C 0 rfl dL_law_2162 ?_
          refine lq_iconst C (x := nI 1) rfl dL_law_2164 ?_
          refine lq_iadd C dL_law_2165 ?_
          refine lq_cast (.int (nI 1)) (congrArg Value.int (by decide)) ?_
          refine lq_sld C 1 (by decide) (by decide) dL_law_2166 ?_
          refine lq_cast (.int v1) (congrArg Value.int e_v1) ?_
          refine lq_aload_n C (i := 0) rfl 4 rfl dL_law_2167 ?_
          refine lq_iload C 0 rfl dL_law_2168 ?_
          refine lq_iconst C (x := nI 2) rfl dL_law_2170 ?_
          refine lq_iadd C dL_law_2171 ?_
          refine lq_cast (.int (nI 2)) (congrArg Value.int (by decide)) ?_
          refine lq_sld C 2 (by decide) (by decide) dL_law_2172 ?_
          refine lq_cast (.int v2) (congrArg Value.int e_v2) ?_
          refine lq_aload_n C (i := 0) rfl 4 rfl dL_law_2173 ?_
          refine lq_iload C 0 rfl dL_law_2174 ?_
          refine lq_iconst C (x := nI 3) rfl dL_law_2176 ?_
          refine lq_iadd C dL_law_2177 ?_
          refine lq_cast (.int (nI 3)) (congrArg Value.int (by decide)) ?_
          refine lq_sld C 3 (by decide) (by decide) dL_law_2178 ?_
          refine lq_cast (.int (nI v3)) (congrArg Value.int e_v3) ?_
          refine lq_if_eq C 2186 (by decide) dL_law_2179 (fun c_ => absurd c_ (nI_ne0 (by omega) (by omega))) (fun _ => ?_)
          refine lq_iconst C (x := nI 1) rfl dL_law_2182 ?_
          refine lq_goto C 2187 (by decide) dL_law_2183 ?_
          refine lq_aload_n C (i := 3) rfl 1 rfl dL_law_2187 ?_
          refine lq_callW C (z222_L_near l hlt S dp x out v1 v2 hneg_v1 hneg_v2 Fm_x Fk_x) lH_313 rfl rfl ⟨by decide, by decide⟩ ⟨Nat.le_of_ble_eq_true rfl, Nat.le_of_ble_eq_true rfl⟩ rfl (Nat.le_of_ble_eq_true rfl) dL_law_2188 (fun r_2188 u_2188 h_2188 => ?_)
          obtain ⟨hr_2188, hu_2188⟩ := h_2188
          have hw_2188 := hu_2188.symm
          subst hw_2188
          have hx_2188 := hr_2188.symm
          subst hx_2188
          refine lq_istore C (lv' := [(5, .int (nI 1)), (4, .int (nI 0)), (3, .ref out), (2, .ref (a 0)), (1, .ref x), (0, .ref b)]) (by decide) rfl dL_law_2191 ?_
          refine lq_aload_n C (i := 2) rfl 3 rfl dL_law_2193 ?_
          refine lq_aload_n C (i := 0) rfl 5 rfl dL_law_2194 ?_
          refine lq_iload C 1 rfl dL_law_2195 ?_
          refine lq_iconst C (x := nI 1) rfl dL_law_2197 ?_
          refine lq_iadd C dL_law_2198 ?_
          refine lq_cast (.int (nI 1)) (congrArg Value.int (by decide)) ?_
          refine lq_sld C 1 (by decide) (by decide) dL_law_2199 ?_
          refine lq_cast (.int v1) (congrArg Value.int e_v1) ?_
          refine lq_aload_n C (i := 0) rfl 5 rfl dL_law_2200 ?_
          refine lq_iload C 1 rfl dL_law_2201 ?_
          refine lq_iconst C (x := nI 2) rfl dL_law_2203 ?_
          refine lq_iadd C dL_law_2204 ?_
          refine lq_cast (.int (nI 2)) (congrArg Value.int (by decide)) ?_
          refine lq_sld C 2 (by decide) (by decide) dL_law_2205 ?_
          refine lq_cast (.int v2) (congrArg Value.int e_v2) ?_
          refine lq_aload_n C (i := 0) rfl 5 rfl dL_law_2206 ?_
          refine lq_iload C 1 rfl dL_law_2207 ?_
          refine lq_iconst C (x := nI 3) rfl dL_law_2209 ?_
          refine lq_iadd C dL_law_2210 ?_
          refine lq_cast (.int (nI 3)) (congrArg Value.int (by decide)) ?_
          refine lq_sld C 3 (by decide) (by decide) dL_law_2211 ?_
          refine lq_cast (.int (nI v3)) (congrArg Value.int e_v3) ?_
          refine lq_if_eq C 2219 (by decide) dL_law_2212 (fun c_ => absurd c_ (nI_ne0 (by omega) (by omega))) (fun _ => ?_)
          refine lq_iconst C (x := nI 1) rfl dL_law_2215 ?_
          refine lq_goto C 2220 (by decide) dL_law_2216 ?_
          refine lq_doM C (w141_near l v f g v1 v2 hneg_v1 hneg_v2 Mv_2) lM_316 rfl rfl ⟨by decide, by decide⟩ ⟨Nat.le_of_ble_eq_true rfl, Nat.le_of_ble_eq_true rfl⟩ rfl (Nat.le_of_ble_eq_true rfl) dL_law_2220 ?_
          refine lq_istore C (lv' := [(6, .int (nI 0)), (5, .int (nI 1)), (4, .int (nI 0)), (3, .ref out), (2, .ref (a 0)), (1, .ref x), (0, .ref b)]) (by decide) rfl dL_law_2223 ?_
          refine lq_aload_n C (i := 2) rfl 4 rfl dL_law_2225 ?_
          refine lq_doM C (w4_thrown l (upd (upd (upd v 4 (nI 0)) 77 (nI 0)) 99 (nI 1)) f g rfl) lM_192 rfl rfl ⟨by decide, by decide⟩ ⟨Nat.le_of_ble_eq_true rfl, Nat.le_of_ble_eq_true rfl⟩ rfl (Nat.le_of_ble_eq_true rfl) dL_law_2226 ?_
          refine lq_iload C 1 rfl dL_law_2229 ?_
          refine lq_icmp_eq C 2236 (by decide) dL_law_2231 (fun _ => ?_) (fun c_ => absurd (by decide) c_)
          refine lq_iload C 1 rfl dL_law_2236 ?_
          refine lq_if_ne C 2253 (by decide) dL_law_2238 (fun _ => ?_) (fun c_ => absurd c_ (by decide))
          refine lq_goto C 3491 (by decide) dL_law_2253 ?_
          exact lq_sub [2, 6] rfl (law_tail C (Nat.le_of_ble_eq_true rfl) (Nat.le_of_ble_eq_true rfl))
        · rcases Nat.lt_or_ge v2 1 with hlt_v2 | hlt_v2
          · obtain rfl : v2 = 0 := by omega
            obtain ⟨v4, e_v4⟩ : ∃ z : Int32, xs 4 = z := ⟨_, rfl⟩
            obtain ⟨v5, e_v5⟩ : ∃ z : Int32, xs 5 = z := ⟨_, rfl⟩
            refine lq_aload_n C (i := 1) rfl 3 rfl dL_law_2160 ?_
            refine lq_aload_n C (i := 0) rfl 4 rfl dL_law_2161 ?_
            refine lq_iload C 0 rfl dL_law_2162 ?_
            refine lq_iconst C (x := nI 1) rfl dL_law_2164 ?_
            refine lq_iadd C dL_law_2165 ?_
            refine lq_cast (.int (nI 1)) (congrArg Value.int (by decide)) ?_
            refine lq_sld C 1 (by decide) (by decide) dL_law_2166 ?_
            refine lq_cast (.int v1) (congrArg Value.int e_v1) ?_
            refine lq_aload_n C (i := 0) rfl 4 rfl dL_law_2167 ?_
            refine lq_iload C 0 rfl dL_law_2168 ?_
            refine lq_iconst C (x := nI 2) rfl dL_law_2170 ?_
            refine lq_iadd C dL_law_2171 ?_
            refine lq_cast (.int (nI 2)) (congrArg Value.int (by decide)) ?_
            refine lq_sld C 2 (by decide) (by decide) dL_law_2172 ?_
            refine lq_cast (.int (nI 0)) (congrArg Value.int e_v2) ?_
            refine lq_aload_n C (i := 0) rfl 4 rfl dL_law_2173 ?_
            refine lq_iload C 0 rfl dL_law_2174 ?_
            refine lq_iconst C (x := nI 3) rfl dL_law_2176 ?_
            refine lq_iadd C dL_law_2177 ?_
            refine lq_cast (.int (nI 3)) (congrArg Value.int (by decide)) ?_
            refine lq_sld C 3 (by decide) (by decide) dL_law_2178 ?_
            refine lq_cast (.int (nI v3)) (congrArg Value.int e_v3) ?_
            refine lq_if_eq C 2186 (by decide) dL_law_2179 (fun c_ => absurd c_ (nI_ne0 (by omega) (by omega))) (fun _ => ?_)
            refine lq_iconst C (x := nI 1) rfl dL_law_2182 ?_
            refine lq_goto C 2187 (by decide) dL_law_2183 ?_
            refine lq_aload_n C (i := 3) rfl 1 rfl dL_law_2187 ?_
            refine lq_callW C (z226_L_near l hlt S dp x out v1 hneg_v1 Fm_x Fk_x) lH_313 rfl rfl ⟨by decide, by decide⟩ ⟨Nat.le_of_ble_eq_true rfl, Nat.le_of_ble_eq_true rfl⟩ rfl (Nat.le_of_ble_eq_true rfl) dL_law_2188 (fun r_2188 u_2188 h_2188 => ?_)
            obtain ⟨hr_2188, hu_2188⟩ := h_2188
            have hw_2188 := hu_2188.symm
            subst hw_2188
            have hx_2188 := hr_2188.symm
            subst hx_2188
            refine lq_istore C (lv' := [(5, .int (nI 1)), (4, .int (nI 0)), (3, .ref out), (2, .ref (a 0)), (1, .ref x), (0, .ref b)]) (by decide) rfl dL_law_2191 ?_
            refine lq_aload_n C (i := 2) rfl 3 rfl dL_law_2193 ?_
            refine lq_aload_n C (i := 0) rfl 5 rfl dL_law_2194 ?_
            refine lq_iload C 1 rfl dL_law_2195 ?_
            refine lq_iconst C (x := nI 1) rfl dL_law_2197 ?_
            refine lq_iadd C dL_law_2198 ?_
            refine lq_cast (.int (nI 1)) (congrArg Value.int (by decide)) ?_
            refine lq_sld C 1 (by decide) (by decide) dL_law_2199 ?_
            refine lq_cast (.int v1) (congrArg Value.int e_v1) ?_
            refine lq_aload_n C (i := 0) rfl 5 rfl dL_law_2200 ?_
            refine lq_iload C 1 rfl dL_law_2201 ?_
            refine lq_iconst C (x := nI 2) rfl dL_law_2203 ?_
            refine lq_iadd C dL_law_2204 ?_
            refine lq_cast (.int (nI 2)) (congrArg Value.int (by decide)) ?_
            refine lq_sld C 2 (by decide) (by decide) dL_law_2205 ?_
            refine lq_cast (.int (nI 0)) (congrArg Value.int e_v2) ?_
            refine lq_aload_n C (i := 0) rfl 5 rfl dL_law_2206 ?_
            refine lq_iload C 1 rfl dL_law_2207 ?_
            refine lq_iconst C (x := nI 3) rfl dL_law_2209 ?_
            refine lq_iadd C dL_law_2210 ?_
            refine lq_cast (.int (nI 3)) (congrArg Value.int (by decide)) ?_
            refine lq_sld C 3 (by decide) (by decide) dL_law_2211 ?_
            refine lq_cast (.int (nI v3)) (congrArg Value.int e_v3) ?_
            refine lq_if_eq C 2219 (by decide) dL_law_2212 (fun c_ => absurd c_ (nI_ne0 (by omega) (by omega))) (fun _ => ?_)
            refine lq_iconst C (x := nI 1) rfl dL_law_2215 ?_
            refine lq_goto C 2220 (by decide) dL_law_2216 ?_
            refine lq_doM C (w143_near l v f g v1 hneg_v1 Mv_2) lM_316 rfl rfl ⟨by decide, by decide⟩ ⟨Nat.le_of_ble_eq_true rfl, Nat.le_of_ble_eq_true rfl⟩ rfl (Nat.le_of_ble_eq_true rfl) dL_law_2220 ?_
            refine lq_istore C (lv' := [(6, .int (nI 0)), (5, .int (nI 1)), (4, .int (nI 0)), (3, .ref out), (2, .ref (a 0)), (1, .ref x), (0, .ref b)]) (by decide) rfl dL_law_2223 ?_
            refine lq_aload_n C (i := 2) rfl 4 rfl dL_law_2225 ?_
            refine lq_doM C (w4_thrown l (upd (upd (upd v 4 (nI 0)) 77 (nI 0)) 99 (nI 1)) f g rfl) lM_192 rfl rfl ⟨by decide, by decide⟩ ⟨Nat.le_of_ble_eq_true rfl, Nat.le_of_ble_eq_true rfl⟩ rfl (Nat.le_of_ble_eq_true rfl) dL_law_2226 ?_
            refine lq_iload C 1 rfl dL_law_2229 ?_
            refine lq_icmp_eq C 2236 (by decide) dL_law_2231 (fun _ => ?_) (fun c_ => absurd (by decide) c_)
            refine lq_iload C 1 rfl dL_law_2236 ?_
            refine lq_if_ne C 2253 (by decide) dL_law_2238 (fun _ => ?_) (fun c_ => absurd c_ (by decide))
            refine lq_goto C 3491 (by decide) dL_law_2253 ?_
            exact lq_sub [2, 6] rfl (law_tail C (Nat.le_of_ble_eq_true rfl) (Nat.le_of_ble_eq_true rfl))
          · rcases Nat.lt_or_ge v2 21 with hlt_v2 | hlt_v2
            · obtain ⟨v4, e_v4⟩ : ∃ z : Int32, xs 4 = z := ⟨_, rfl⟩
              obtain ⟨v5, e_v5⟩ : ∃ z : Int32, xs 5 = z := ⟨_, rfl⟩
              refine lq_aload_n C (i := 1) rfl 3 rfl dL_law_2160 ?_
              refine lq_aload_n C (i := 0) rfl 4 rfl dL_law_2161 ?_
              refine lq_iload C 0 rfl dL_law_2162 ?_
              refine lq_iconst C (x := nI 1) rfl dL_law_2164 ?_
              refine lq_iadd C dL_law_2165 ?_
              refine lq_cast (.int (nI 1)) (congrArg Value.int (by decide)) ?_
              refine lq_sld C 1 (by decide) (by decide) dL_law_2166 ?_
              refine lq_cast (.int v1) (congrArg Value.int e_v1) ?_
              refine lq_aload_n C (i := 0) rfl 4 rfl dL_law_2167 ?_
              refine lq_iload C 0 rfl dL_law_2168 ?_
              refine lq_iconst C (x := nI 2) rfl dL_law_2170 ?_
              refine lq_iadd C dL_law_2171 ?_
              refine lq_cast (.int (nI 2)) (congrArg Value.int (by decide)) ?_
              refine lq_sld C 2 (by decide) (by decide) dL_law_2172 ?_
              refine lq_cast (.int (nI v2)) (congrArg Value.int e_v2) ?_
              refine lq_aload_n C (i := 0) rfl 4 rfl dL_law_2173 ?_
              refine lq_iload C 0 rfl dL_law_2174 ?_
              refine lq_iconst C (x := nI 3) rfl dL_law_2176 ?_
              refine lq_iadd C dL_law_2177 ?_
              refine lq_cast (.int (nI 3)) (congrArg Value.int (by decide)) ?_
              refine lq_sld C 3 (by decide) (by decide) dL_law_2178 ?_
              refine lq_cast (.int (nI v3)) (congrArg Value.int e_v3) ?_
              refine lq_if_eq C 2186 (by decide) dL_law_2179 (fun c_ => absurd c_ (nI_ne0 (by omega) (by omega))) (fun _ => ?_)
              refine lq_iconst C (x := nI 1) rfl dL_law_2182 ?_
              refine lq_goto C 2187 (by decide) dL_law_2183 ?_
              refine lq_aload_n C (i := 3) rfl 1 rfl dL_law_2187 ?_
              refine lq_callW C (z230_L_near l hlt S dp x out v2 v1 hneg_v1 (by omega) (by omega) Fm_x Fk_x) lH_313 rfl rfl ⟨by decide, by decide⟩ ⟨Nat.le_of_ble_eq_true rfl, Nat.le_of_ble_eq_true rfl⟩ rfl (Nat.le_of_ble_eq_true rfl) dL_law_2188 (fun r_2188 u_2188 h_2188 => ?_)
              obtain ⟨hr_2188, hu_2188⟩ := h_2188
              have hw_2188 := hu_2188.symm
              subst hw_2188
              have hx_2188 := hr_2188.symm
              subst hx_2188
              refine lq_istore C (lv' := [(5, .int (nI 1)), (4, .int (nI 0)), (3, .ref out), (2, .ref (a 0)), (1, .ref x), (0, .ref b)]) (by decide) rfl dL_law_2191 ?_
              refine lq_aload_n C (i := 2) rfl 3 rfl dL_law_2193 ?_
              refine lq_aload_n C (i := 0) rfl 5 rfl dL_law_2194 ?_
              refine lq_iload C 1 rfl dL_law_2195 ?_
              refine lq_iconst C (x := nI 1) rfl dL_law_2197 ?_
              refine lq_iadd C dL_law_2198 ?_
              refine lq_cast (.int (nI 1)) (congrArg Value.int (by decide)) ?_
              refine lq_sld C 1 (by decide) (by decide) dL_law_2199 ?_
              refine lq_cast (.int v1) (congrArg Value.int e_v1) ?_
              refine lq_aload_n C (i := 0) rfl 5 rfl dL_law_2200 ?_
              refine lq_iload C 1 rfl dL_law_2201 ?_
              refine lq_iconst C (x := nI 2) rfl dL_law_2203 ?_
              refine lq_iadd C dL_law_2204 ?_
              refine lq_cast (.int (nI 2)) (congrArg Value.int (by decide)) ?_
              refine lq_sld C 2 (by decide) (by decide) dL_law_2205 ?_
              refine lq_cast (.int (nI v2)) (congrArg Value.int e_v2) ?_
              refine lq_aload_n C (i := 0) rfl 5 rfl dL_law_2206 ?_
              refine lq_iload C 1 rfl dL_law_2207 ?_
              refine lq_iconst C (x := nI 3) rfl dL_law_2209 ?_
              refine lq_iadd C dL_law_2210 ?_
              refine lq_cast (.int (nI 3)) (congrArg Value.int (by decide)) ?_
              refine lq_sld C 3 (by decide) (by decide) dL_law_2211 ?_
              refine lq_cast (.int (nI v3)) (congrArg Value.int e_v3) ?_
              refine lq_if_eq C 2219 (by decide) dL_law_2212 (fun c_ => absurd c_ (nI_ne0 (by omega) (by omega))) (fun _ => ?_)
              refine lq_iconst C (x := nI 1) rfl dL_law_2215 ?_
              refine lq_goto C 2220 (by decide) dL_law_2216 ?_
              refine lq_doM C (w145_near l v f g v2 v1 hneg_v1 (by omega) (by omega) Mv_2) lM_316 rfl rfl ⟨by decide, by decide⟩ ⟨Nat.le_of_ble_eq_true rfl, Nat.le_of_ble_eq_true rfl⟩ rfl (Nat.le_of_ble_eq_true rfl) dL_law_2220 ?_
              refine lq_istore C (lv' := [(6, .int (nI 0)), (5, .int (nI 1)), (4, .int (nI 0)), (3, .ref out), (2, .ref (a 0)), (1, .ref x), (0, .ref b)]) (by decide) rfl dL_law_2223 ?_
              refine lq_aload_n C (i := 2) rfl 4 rfl dL_law_2225 ?_
              refine lq_doM C (w4_thrown l (upd (upd (upd v 4 (nI 0)) 77 (nI 0)) 99 (nI 1)) f g rfl) lM_192 rfl rfl ⟨by decide, by decide⟩ ⟨Nat.le_of_ble_eq_true rfl, Nat.le_of_ble_eq_true rfl⟩ rfl (Nat.le_of_ble_eq_true rfl) dL_law_2226 ?_
              refine lq_iload C 1 rfl dL_law_2229 ?_
              refine lq_icmp_eq C 2236 (by decide) dL_law_2231 (fun _ => ?_) (fun c_ => absurd (by decide) c_)
              refine lq_iload C 1 rfl dL_law_2236 ?_
              refine lq_if_ne C 2253 (by decide) dL_law_2238 (fun _ => ?_) (fun c_ => absurd c_ (by decide))
              refine lq_goto C 3491 (by decide) dL_law_2253 ?_
              exact lq_sub [2, 6] rfl (law_tail C (Nat.le_of_ble_eq_true rfl) (Nat.le_of_ble_eq_true rfl))
            · obtain ⟨v4, e_v4⟩ : ∃ z : Int32, xs 4 = z := ⟨_, rfl⟩
              obtain ⟨v5, e_v5⟩ : ∃ z : Int32, xs 5 = z := ⟨_, rfl⟩
              refine lq_aload_n C (i := 1) rfl 3 rfl dL_law_2160 ?_
              refine lq_aload_n C (i := 0) rfl 4 rfl dL_law_2161 ?_
              refine lq_iload C 0 rfl dL_law_2162 ?_
              refine lq_iconst C (x := nI 1) rfl dL_law_2164 ?_
              refine lq_iadd C dL_law_2165 ?_
              refine lq_cast (.int (nI 1)) (congrArg Value.int (by decide)) ?_
              refine lq_sld C 1 (by decide) (by decide) dL_law_2166 ?_
              refine lq_cast (.int v1) (congrArg Value.int e_v1) ?_
              refine lq_aload_n C (i := 0) rfl 4 rfl dL_law_2167 ?_
              refine lq_iload C 0 rfl dL_law_2168 ?_
              refine lq_iconst C (x := nI 2) rfl dL_law_2170 ?_
              refine lq_iadd C dL_law_2171 ?_
              refine lq_cast (.int (nI 2)) (congrArg Value.int (by decide)) ?_
              refine lq_sld C 2 (by decide) (by decide) dL_law_2172 ?_
              refine lq_cast (.int (nI v2)) (congrArg Value.int e_v2) ?_
              refine lq_aload_n C (i := 0) rfl 4 rfl dL_law_2173 ?_
              refine lq_iload C 0 rfl dL_law_2174 ?_
              refine lq_iconst C (x := nI 3) rfl dL_law_2176 ?_
              refine lq_iadd C dL_law_2177 ?_
              refine lq_cast (.int (nI 3)) (congrArg Value.int (by decide)) ?_
              refine lq_sld C 3 (by decide) (by decide) dL_law_2178 ?_
              refine lq_cast (.int (nI v3)) (congrArg Value.int e_v3) ?_
              refine lq_if_eq C 2186 (by decide) dL_law_2179 (fun c_ => absurd c_ (nI_ne0 (by omega) (by omega))) (fun _ => ?_)
              refine lq_iconst C (x := nI 1) rfl dL_law_2182 ?_
              refine lq_goto C 2187 (by decide) dL_law_2183 ?_
              refine lq_aload_n C (i := 3) rfl 1 rfl dL_law_2187 ?_
              refine lq_callW C (z232_L_near l hlt S dp x out v2 v1 hneg_v1 (by omega) (by omega) Fm_x Fk_x) lH_313 rfl rfl ⟨by decide, by decide⟩ ⟨Nat.le_of_ble_eq_true rfl, Nat.le_of_ble_eq_true rfl⟩ rfl (Nat.le_of_ble_eq_true rfl) dL_law_2188 (fun r_2188 u_2188 h_2188 => ?_)
              obtain ⟨hr_2188, hu_2188⟩ := h_2188
              have hw_2188 := hu_2188.symm
              subst hw_2188
              have hx_2188 := hr_2188.symm
              subst hx_2188
              refine lq_istore C (lv' := [(5, .int (nI 1)), (4, .int (nI 0)), (3, .ref out), (2, .ref (a 0)), (1, .ref x), (0, .ref b)]) (by decide) rfl dL_law_2191 ?_
              refine lq_aload_n C (i := 2) rfl 3 rfl dL_law_2193 ?_
              refine lq_aload_n C (i := 0) rfl 5 rfl dL_law_2194 ?_
              refine lq_iload C 1 rfl dL_law_2195 ?_
              refine lq_iconst C (x := nI 1) rfl dL_law_2197 ?_
              refine lq_iadd C dL_law_2198 ?_
              refine lq_cast (.int (nI 1)) (congrArg Value.int (by decide)) ?_
              refine lq_sld C 1 (by decide) (by decide) dL_law_2199 ?_
              refine lq_cast (.int v1) (congrArg Value.int e_v1) ?_
              refine lq_aload_n C (i := 0) rfl 5 rfl dL_law_2200 ?_
              refine lq_iload C 1 rfl dL_law_2201 ?_
              refine lq_iconst C (x := nI 2) rfl dL_law_2203 ?_
              refine lq_iadd C dL_law_2204 ?_
              refine lq_cast (.int (nI 2)) (congrArg Value.int (by decide)) ?_
              refine lq_sld C 2 (by decide) (by decide) dL_law_2205 ?_
              refine lq_cast (.int (nI v2)) (congrArg Value.int e_v2) ?_
              refine lq_aload_n C (i := 0) rfl 5 rfl dL_law_2206 ?_
              refine lq_iload C 1 rfl dL_law_2207 ?_
              refine lq_iconst C (x := nI 3) rfl dL_law_2209 ?_
              refine lq_iadd C dL_law_2210 ?_
              refine lq_cast (.int (nI 3)) (congrArg Value.int (by decide)) ?_
              refine lq_sld C 3 (by decide) (by decide) dL_law_2211 ?_
              refine lq_cast (.int (nI v3)) (congrArg Value.int e_v3) ?_
              refine lq_if_eq C 2219 (by decide) dL_law_2212 (fun c_ => absurd c_ (nI_ne0 (by omega) (by omega))) (fun _ => ?_)
              refine lq_iconst C (x := nI 1) rfl dL_law_2215 ?_
              refine lq_goto C 2220 (by decide) dL_law_2216 ?_
              refine lq_doM C (w147_near l v f g v2 v1 hneg_v1 (by omega) (by omega) Mv_2) lM_316 rfl rfl ⟨by decide, by decide⟩ ⟨Nat.le_of_ble_eq_true rfl, Nat.le_of_ble_eq_true rfl⟩ rfl (Nat.le_of_ble_eq_true rfl) dL_law_2220 ?_
              refine lq_istore C (lv' := [(6, .int (nI 0)), (5, .int (nI 1)), (4, .int (nI 0)), (3, .ref out), (2, .ref (a 0)), (1, .ref x), (0, .ref b)]) (by decide) rfl dL_law_2223 ?_
              refine lq_aload_n C (i := 2) rfl 4 rfl dL_law_2225 ?_
              refine lq_doM C (w4_thrown l (upd (upd (upd v 4 (nI 0)) 77 (nI 0)) 99 (nI 1)) f g rfl) lM_192 rfl rfl ⟨by decide, by decide⟩ ⟨Nat.le_of_ble_eq_true rfl, Nat.le_of_ble_eq_true rfl⟩ rfl (Nat.le_of_ble_eq_true rfl) dL_law_2226 ?_
              refine lq_iload C 1 rfl dL_law_2229 ?_
              refine lq_icmp_eq C 2236 (by decide) dL_law_2231 (fun _ => ?_) (fun c_ => absurd (by decide) c_)
              refine lq_iload C 1 rfl dL_law_2236 ?_
              refine lq_if_ne C 2253 (by decide) dL_law_2238 (fun _ => ?_) (fun c_ => absurd c_ (by decide))
              refine lq_goto C 3491 (by decide) dL_law_2253 ?_
              exact lq_sub [2, 6] rfl (law_tail C (Nat.le_of_ble_eq_true rfl) (Nat.le_of_ble_eq_true rfl))
      · rcases Nat.lt_or_ge v1 2 with hlt_v1 | hlt_v1
        · rcases c_sgn (xs 2) with hneg_v2 | ⟨v2, hr_v2, e_v2⟩
          · obtain ⟨v2, e_v2⟩ : ∃ z : Int32, xs 2 = z := ⟨_, rfl⟩
            rw [e_v2] at hneg_v2
            obtain ⟨v4, e_v4⟩ : ∃ z : Int32, xs 4 = z := ⟨_, rfl⟩
            obtain ⟨v5, e_v5⟩ : ∃ z : Int32, xs 5 = z := ⟨_, rfl⟩
            refine lq_aload_n C (i := 1) rfl 3 rfl dL_law_2160 ?_
            refine lq_aload_n C (i := 0) rfl 4 rfl dL_law_2161 ?_
            refine lq_iload C 0 rfl dL_law_2162 ?_
            refine lq_iconst C (x := nI 1) rfl dL_law_2164 ?_
            refine lq_iadd C dL_law_2165 ?_
            refine lq_cast (.int (nI 1)) (congrArg Value.int (by decide)) ?_
            refine lq_sld C 1 (by decide) (by decide) dL_law_2166 ?_
            refine lq_cast (.int (nI v1)) (congrArg Value.int e_v1) ?_
            refine lq_aload_n C (i := 0) rfl 4 rfl dL_law_2167 ?_
            refine lq_iload C 0 rfl dL_law_2168 ?_
            refine lq_iconst C (x := nI 2) rfl dL_law_2170 ?_
            refine lq_iadd C dL_law_2171 ?_
            refine lq_cast (.int (nI 2)) (congrArg Value.int (by decide)) ?_
            refine lq_sld C 2 (by decide) (by decide) dL_law_2172 ?_
            refine lq_cast (.int v2) (congrArg Value.int e_v2) ?_
            refine lq_aload_n C (i := 0) rfl 4 rfl dL_law_2173 ?_
            refine lq_iload C 0 rfl dL_law_2174 ?_
            refine lq_iconst C (x := nI 3) rfl dL_law_2176 ?_
            refine lq_iadd C dL_law_2177 ?_
            refine lq_cast (.int (nI 3)) (congrArg Value.int (by decide)) ?_
            refine lq_sld C 3 (by decide) (by decide) dL_law_2178 ?_
            refine lq_cast (.int (nI v3)) (congrArg Value.int e_v3) ?_
            refine lq_if_eq C 2186 (by decide) dL_law_2179 (fun c_ => absurd c_ (nI_ne0 (by omega) (by omega))) (fun _ => ?_)
            refine lq_iconst C (x := nI 1) rfl dL_law_2182 ?_
            refine lq_goto C 2187 (by decide) dL_law_2183 ?_
            refine lq_aload_n C (i := 3) rfl 1 rfl dL_law_2187 ?_
            refine lq_callW C (z234_L_near l hlt S dp x out v1 v2 (by omega) hneg_v2 Fm_x Fk_x) lH_313 rfl rfl ⟨by decide, by decide⟩ ⟨Nat.le_of_ble_eq_true rfl, Nat.le_of_ble_eq_true rfl⟩ rfl (Nat.le_of_ble_eq_true rfl) dL_law_2188 (fun r_2188 u_2188 h_2188 => ?_)
            obtain ⟨hr_2188, hu_2188⟩ := h_2188
            have hw_2188 := hu_2188.symm
            subst hw_2188
            have hx_2188 := hr_2188.symm
            subst hx_2188
            refine lq_istore C (lv' := [(5, .int (nI 2)), (4, .int (nI 0)), (3, .ref out), (2, .ref (a 0)), (1, .ref x), (0, .ref b)]) (by decide) rfl dL_law_2191 ?_
            refine lq_aload_n C (i := 2) rfl 3 rfl dL_law_2193 ?_
            refine lq_aload_n C (i := 0) rfl 5 rfl dL_law_2194 ?_
            refine lq_iload C 1 rfl dL_law_2195 ?_
            refine lq_iconst C (x := nI 1) rfl dL_law_2197 ?_
            refine lq_iadd C dL_law_2198 ?_
            refine lq_cast (.int (nI 1)) (congrArg Value.int (by decide)) ?_
            refine lq_sld C 1 (by decide) (by decide) dL_law_2199 ?_
            refine lq_cast (.int (nI v1)) (congrArg Value.int e_v1) ?_
            refine lq_aload_n C (i := 0) rfl 5 rfl dL_law_2200 ?_
            refine lq_iload C 1 rfl dL_law_2201 ?_
            refine lq_iconst C (x := nI 2) rfl dL_law_2203 ?_
            refine lq_iadd C dL_law_2204 ?_
            refine lq_cast (.int (nI 2)) (congrArg Value.int (by decide)) ?_
            refine lq_sld C 2 (by decide) (by decide) dL_law_2205 ?_
            refine lq_cast (.int v2) (congrArg Value.int e_v2) ?_
            refine lq_aload_n C (i := 0) rfl 5 rfl dL_law_2206 ?_
            refine lq_iload C 1 rfl dL_law_2207 ?_
            refine lq_iconst C (x := nI 3) rfl dL_law_2209 ?_
            refine lq_iadd C dL_law_2210 ?_
            refine lq_cast (.int (nI 3)) (congrArg Value.int (by decide)) ?_
            refine lq_sld C 3 (by decide) (by decide) dL_law_2211 ?_
            refine lq_cast (.int (nI v3)) (congrArg Value.int e_v3) ?_
            refine lq_if_eq C 2219 (by decide) dL_law_2212 (fun c_ => absurd c_ (nI_ne0 (by omega) (by omega))) (fun _ => ?_)
            refine lq_iconst C (x := nI 1) rfl dL_law_2215 ?_
            refine lq_goto C 2220 (by decide) dL_law_2216 ?_
            refine lq_doM C (w148_near l v f g v1 v2 (by omega) hneg_v2 Mv_2) lM_316 rfl rfl ⟨by decide, by decide⟩ ⟨Nat.le_of_ble_eq_true rfl, Nat.le_of_ble_eq_true rfl⟩ rfl (Nat.le_of_ble_eq_true rfl) dL_law_2220 ?_
            refine lq_istore C (lv' := [(6, .int (nI 0)), (5, .int (nI 2)), (4, .int (nI 0)), (3, .ref out), (2, .ref (a 0)), (1, .ref x), (0, .ref b)]) (by decide) rfl dL_law_2223 ?_
            refine lq_aload_n C (i := 2) rfl 4 rfl dL_law_2225 ?_
            refine lq_doM C (w116_thrown l (upd (upd (upd v 4 (nI 0)) 77 (nI 0)) 99 (nI 2)) f g rfl) lM_192 rfl rfl ⟨by decide, by decide⟩ ⟨Nat.le_of_ble_eq_true rfl, Nat.le_of_ble_eq_true rfl⟩ rfl (Nat.le_of_ble_eq_true rfl) dL_law_2226 ?_
            refine lq_iload C 1 rfl dL_law_2229 ?_
            refine lq_icmp_eq C 2236 (by decide) dL_law_2231 (fun _ => ?_) (fun c_ => absurd (by decide) c_)
            refine lq_iload C 1 rfl dL_law_2236 ?_
            refine lq_if_ne C 2253 (by decide) dL_law_2238 (fun _ => ?_) (fun c_ => absurd c_ (by decide))
            refine lq_goto C 3491 (by decide) dL_law_2253 ?_
            exact lq_sub [2, 6] rfl (law_tail C (Nat.le_of_ble_eq_true rfl) (Nat.le_of_ble_eq_true rfl))
          · rcases Nat.lt_or_ge v2 1 with hlt_v2 | hlt_v2
            · obtain rfl : v2 = 0 := by omega
              obtain ⟨v4, e_v4⟩ : ∃ z : Int32, xs 4 = z := ⟨_, rfl⟩
              obtain ⟨v5, e_v5⟩ : ∃ z : Int32, xs 5 = z := ⟨_, rfl⟩
              refine lq_aload_n C (i := 1) rfl 3 rfl dL_law_2160 ?_
              refine lq_aload_n C (i := 0) rfl 4 rfl dL_law_2161 ?_
              refine lq_iload C 0 rfl dL_law_2162 ?_
              refine lq_iconst C (x := nI 1) rfl dL_law_2164 ?_
              refine lq_iadd C dL_law_2165 ?_
              refine lq_cast (.int (nI 1)) (congrArg Value.int (by decide)) ?_
              refine lq_sld C 1 (by decide) (by decide) dL_law_2166 ?_
              refine lq_cast (.int (nI v1)) (congrArg Value.int e_v1) ?_
              refine lq_aload_n C (i := 0) rfl 4 rfl dL_law_2167 ?_
              refine lq_iload C 0 rfl dL_law_2168 ?_
              refine lq_iconst C (x := nI 2) rfl dL_law_2170 ?_
              refine lq_iadd C dL_law_2171 ?_
              refine lq_cast (.int (nI 2)) (congrArg Value.int (by decide)) ?_
              refine lq_sld C 2 (by decide) (by decide) dL_law_2172 ?_
              refine lq_cast (.int (nI 0)) (congrArg Value.int e_v2) ?_
              refine lq_aload_n C (i := 0) rfl 4 rfl dL_law_2173 ?_
              refine lq_iload C 0 rfl dL_law_2174 ?_
              refine lq_iconst C (x := nI 3) rfl dL_law_2176 ?_
              refine lq_iadd C dL_law_2177 ?_
              refine lq_cast (.int (nI 3)) (congrArg Value.int (by decide)) ?_
              refine lq_sld C 3 (by decide) (by decide) dL_law_2178 ?_
              refine lq_cast (.int (nI v3)) (congrArg Value.int e_v3) ?_
              refine lq_if_eq C 2186 (by decide) dL_law_2179 (fun c_ => absurd c_ (nI_ne0 (by omega) (by omega))) (fun _ => ?_)
              refine lq_iconst C (x := nI 1) rfl dL_law_2182 ?_
              refine lq_goto C 2187 (by decide) dL_law_2183 ?_
              refine lq_aload_n C (i := 3) rfl 1 rfl dL_law_2187 ?_
              refine lq_callW C (z236_L_near l hlt S dp x out v1 (by omega) Fm_x Fk_x) lH_313 rfl rfl ⟨by decide, by decide⟩ ⟨Nat.le_of_ble_eq_true rfl, Nat.le_of_ble_eq_true rfl⟩ rfl (Nat.le_of_ble_eq_true rfl) dL_law_2188 (fun r_2188 u_2188 h_2188 => ?_)
              obtain ⟨hr_2188, hu_2188⟩ := h_2188
              have hw_2188 := hu_2188.symm
              subst hw_2188
              have hx_2188 := hr_2188.symm
              subst hx_2188
              refine lq_istore C (lv' := [(5, .int (nI 2)), (4, .int (nI 0)), (3, .ref out), (2, .ref (a 0)), (1, .ref x), (0, .ref b)]) (by decide) rfl dL_law_2191 ?_
              refine lq_aload_n C (i := 2) rfl 3 rfl dL_law_2193 ?_
              refine lq_aload_n C (i := 0) rfl 5 rfl dL_law_2194 ?_
              refine lq_iload C 1 rfl dL_law_2195 ?_
              refine lq_iconst C (x := nI 1) rfl dL_law_2197 ?_
              refine lq_iadd C dL_law_2198 ?_
              refine lq_cast (.int (nI 1)) (congrArg Value.int (by decide)) ?_
              refine lq_sld C 1 (by decide) (by decide) dL_law_2199 ?_
              refine lq_cast (.int (nI v1)) (congrArg Value.int e_v1) ?_
              refine lq_aload_n C (i := 0) rfl 5 rfl dL_law_2200 ?_
              refine lq_iload C 1 rfl dL_law_2201 ?_
              refine lq_iconst C (x := nI 2) rfl dL_law_2203 ?_
              refine lq_iadd C dL_law_2204 ?_
              refine lq_cast (.int (nI 2)) (congrArg Value.int (by decide)) ?_
              refine lq_sld C 2 (by decide) (by decide) dL_law_2205 ?_
              refine lq_cast (.int (nI 0)) (congrArg Value.int e_v2) ?_
              refine lq_aload_n C (i := 0) rfl 5 rfl dL_law_2206 ?_
              refine lq_iload C 1 rfl dL_law_2207 ?_
              refine lq_iconst C (x := nI 3) rfl dL_law_2209 ?_
              refine lq_iadd C dL_law_2210 ?_
              refine lq_cast (.int (nI 3)) (congrArg Value.int (by decide)) ?_
              refine lq_sld C 3 (by decide) (by decide) dL_law_2211 ?_
              refine lq_cast (.int (nI v3)) (congrArg Value.int e_v3) ?_
              refine lq_if_eq C 2219 (by decide) dL_law_2212 (fun c_ => absurd c_ (nI_ne0 (by omega) (by omega))) (fun _ => ?_)
              refine lq_iconst C (x := nI 1) rfl dL_law_2215 ?_
              refine lq_goto C 2220 (by decide) dL_law_2216 ?_
              refine lq_doM C (w149_near l v f g v1 (by omega) Mv_2) lM_316 rfl rfl ⟨by decide, by decide⟩ ⟨Nat.le_of_ble_eq_true rfl, Nat.le_of_ble_eq_true rfl⟩ rfl (Nat.le_of_ble_eq_true rfl) dL_law_2220 ?_
              refine lq_istore C (lv' := [(6, .int (nI 0)), (5, .int (nI 2)), (4, .int (nI 0)), (3, .ref out), (2, .ref (a 0)), (1, .ref x), (0, .ref b)]) (by decide) rfl dL_law_2223 ?_
              refine lq_aload_n C (i := 2) rfl 4 rfl dL_law_2225 ?_
              refine lq_doM C (w116_thrown l (upd (upd (upd v 4 (nI 0)) 77 (nI 0)) 99 (nI 2)) f g rfl) lM_192 rfl rfl ⟨by decide, by decide⟩ ⟨Nat.le_of_ble_eq_true rfl, Nat.le_of_ble_eq_true rfl⟩ rfl (Nat.le_of_ble_eq_true rfl) dL_law_2226 ?_
              refine lq_iload C 1 rfl dL_law_2229 ?_
              refine lq_icmp_eq C 2236 (by decide) dL_law_2231 (fun _ => ?_) (fun c_ => absurd (by decide) c_)
              refine lq_iload C 1 rfl dL_law_2236 ?_
              refine lq_if_ne C 2253 (by decide) dL_law_2238 (fun _ => ?_) (fun c_ => absurd c_ (by decide))
              refine lq_goto C 3491 (by decide) dL_law_2253 ?_
              exact lq_sub [2, 6] rfl (law_tail C (Nat.le_of_ble_eq_true rfl) (Nat.le_of_ble_eq_true rfl))
            · rcases Nat.lt_or_ge v2 21 with hlt_v2 | hlt_v2
              · obtain ⟨v4, e_v4⟩ : ∃ z : Int32, xs 4 = z := ⟨_, rfl⟩
                obtain ⟨v5, e_v5⟩ : ∃ z : Int32, xs 5 = z := ⟨_, rfl⟩
                refine lq_aload_n C (i := 1) rfl 3 rfl dL_law_2160 ?_
                refine lq_aload_n C (i := 0) rfl 4 rfl dL_law_2161 ?_
                refine lq_iload C 0 rfl dL_law_2162 ?_
                refine lq_iconst C (x := nI 1) rfl dL_law_2164 ?_
                refine lq_iadd C dL_law_2165 ?_
                refine lq_cast (.int (nI 1)) (congrArg Value.int (by decide)) ?_
                refine lq_sld C 1 (by decide) (by decide) dL_law_2166 ?_
                refine lq_cast (.int (nI v1)) (congrArg Value.int e_v1) ?_
                refine lq_aload_n C (i := 0) rfl 4 rfl dL_law_2167 ?_
                refine lq_iload C 0 rfl dL_law_2168 ?_
                refine lq_iconst C (x := nI 2) rfl dL_law_2170 ?_
                refine lq_iadd C dL_law_2171 ?_
                refine lq_cast (.int (nI 2)) (congrArg Value.int (by decide)) ?_
                refine lq_sld C 2 (by decide) (by decide) dL_law_2172 ?_
                refine lq_cast (.int (nI v2)) (congrArg Value.int e_v2) ?_
                refine lq_aload_n C (i := 0) rfl 4 rfl dL_law_2173 ?_
                refine lq_iload C 0 rfl dL_law_2174 ?_
                refine lq_iconst C (x := nI 3) rfl dL_law_2176 ?_
                refine lq_iadd C dL_law_2177 ?_
                refine lq_cast (.int (nI 3)) (congrArg Value.int (by decide)) ?_
                refine lq_sld C 3 (by decide) (by decide) dL_law_2178 ?_
                refine lq_cast (.int (nI v3)) (congrArg Value.int e_v3) ?_
                refine lq_if_eq C 2186 (by decide) dL_law_2179 (fun c_ => absurd c_ (nI_ne0 (by omega) (by omega))) (fun _ => ?_)
                refine lq_iconst C (x := nI 1) rfl dL_law_2182 ?_
                refine lq_goto C 2187 (by decide) dL_law_2183 ?_
                refine lq_aload_n C (i := 3) rfl 1 rfl dL_law_2187 ?_
                refine lq_callW C (z238_L_near l hlt S dp x out q1 q2 v1 v2 (by omega) (by omega) (by omega) Fr_352_x Fk_x Fm_x Fr_96_q1 Fk_q1 Fm_q1 Fi_289_q2 Fk_q2 Fm_q2) lH_313 rfl rfl ⟨by decide, by decide⟩ ⟨Nat.le_of_ble_eq_true rfl, Nat.le_of_ble_eq_true rfl⟩ rfl (Nat.le_of_ble_eq_true rfl) dL_law_2188 (fun r_2188 u_2188 h_2188 => ?_)
                obtain ⟨S1, hS1, S2, hS2, hr_2188, hu_2188⟩ := h_2188
                have hw_2188 := hu_2188.symm
                subst hw_2188
                have hx_2188 := hr_2188.symm
                subst hx_2188
                refine lq_istore C (lv' := [(5, .int (nI 3)), (4, .int (nI 0)), (3, .ref out), (2, .ref (a 0)), (1, .ref x), (0, .ref b)]) (by decide) rfl dL_law_2191 ?_
                refine lq_aload_n C (i := 2) rfl 3 rfl dL_law_2193 ?_
                refine lq_aload_n C (i := 0) rfl 5 rfl dL_law_2194 ?_
                refine lq_iload C 1 rfl dL_law_2195 ?_
                refine lq_iconst C (x := nI 1) rfl dL_law_2197 ?_
                refine lq_iadd C dL_law_2198 ?_
                refine lq_cast (.int (nI 1)) (congrArg Value.int (by decide)) ?_
                refine lq_sld C 1 (by decide) (by decide) dL_law_2199 ?_
                refine lq_cast (.int (nI v1)) (congrArg Value.int e_v1) ?_
                refine lq_aload_n C (i := 0) rfl 5 rfl dL_law_2200 ?_
                refine lq_iload C 1 rfl dL_law_2201 ?_
                refine lq_iconst C (x := nI 2) rfl dL_law_2203 ?_
                refine lq_iadd C dL_law_2204 ?_
                refine lq_cast (.int (nI 2)) (congrArg Value.int (by decide)) ?_
                refine lq_sld C 2 (by decide) (by decide) dL_law_2205 ?_
                refine lq_cast (.int (nI v2)) (congrArg Value.int e_v2) ?_
                refine lq_aload_n C (i := 0) rfl 5 rfl dL_law_2206 ?_
                refine lq_iload C 1 rfl dL_law_2207 ?_
                refine lq_iconst C (x := nI 3) rfl dL_law_2209 ?_
                refine lq_iadd C dL_law_2210 ?_
                refine lq_cast (.int (nI 3)) (congrArg Value.int (by decide)) ?_
                refine lq_sld C 3 (by decide) (by decide) dL_law_2211 ?_
                refine lq_cast (.int (nI v3)) (congrArg Value.int e_v3) ?_
                refine lq_if_eq C 2219 (by decide) dL_law_2212 (fun c_ => absurd c_ (nI_ne0 (by omega) (by omega))) (fun _ => ?_)
                refine lq_iconst C (x := nI 1) rfl dL_law_2215 ?_
                refine lq_goto C 2220 (by decide) dL_law_2216 ?_
                refine lq_doM C (w150_near l v f g v1 v2 (by omega) (by omega) (by omega) Mv_2) lM_316 rfl rfl ⟨by decide, by decide⟩ ⟨Nat.le_of_ble_eq_true rfl, Nat.le_of_ble_eq_true rfl⟩ rfl (Nat.le_of_ble_eq_true rfl) dL_law_2220 ?_
                refine lq_istore C (lv' := [(6, .int (nI 0)), (5, .int (nI 3)), (4, .int (nI 0)), (3, .ref out), (2, .ref (a 0)), (1, .ref x), (0, .ref b)]) (by decide) rfl dL_law_2223 ?_
                refine lq_aload_n C (i := 2) rfl 4 rfl dL_law_2225 ?_
                refine lq_doM C (w133_thrown l (upd (upd (upd v 4 (nI 0)) 77 (nI 0)) 99 (nI 3)) f g rfl) lM_192 rfl rfl ⟨by decide, by decide⟩ ⟨Nat.le_of_ble_eq_true rfl, Nat.le_of_ble_eq_true rfl⟩ rfl (Nat.le_of_ble_eq_true rfl) dL_law_2226 ?_
                refine lq_iload C 1 rfl dL_law_2229 ?_
                refine lq_icmp_eq C 2236 (by decide) dL_law_2231 (fun _ => ?_) (fun c_ => absurd (by decide) c_)
                refine lq_iload C 1 rfl dL_law_2236 ?_
                refine lq_if_ne C 2253 (by decide) dL_law_2238 (fun _ => ?_) (fun c_ => absurd c_ (by decide))
                refine lq_goto C 3491 (by decide) dL_law_2253 ?_
                exact lq_sub [2, 6] rfl (law_tail C (Nat.le_of_ble_eq_true rfl) (Nat.le_of_ble_eq_true rfl))
              · obtain ⟨v4, e_v4⟩ : ∃ z : Int32, xs 4 = z := ⟨_, rfl⟩
                obtain ⟨v5, e_v5⟩ : ∃ z : Int32, xs 5 = z := ⟨_, rfl⟩
                refine lq_aload_n C (i := 1) rfl 3 rfl dL_law_2160 ?_
                refine lq_aload_n C (i := 0) rfl 4 rfl dL_law_2161 ?_
                refine lq_iload C 0 rfl dL_law_2162 ?_
                refine lq_iconst C (x := nI 1) rfl dL_law_2164 ?_
                refine lq_iadd C dL_law_2165 ?_
                refine lq_cast (.int (nI 1)) (congrArg Value.int (by decide)) ?_
                refine lq_sld C 1 (by decide) (by decide) dL_law_2166 ?_
                refine lq_cast (.int (nI v1)) (congrArg Value.int e_v1) ?_
                refine lq_aload_n C (i := 0) rfl 4 rfl dL_law_2167 ?_
                refine lq_iload C 0 rfl dL_law_2168 ?_
                refine lq_iconst C (x := nI 2) rfl dL_law_2170 ?_
                refine lq_iadd C dL_law_2171 ?_
                refine lq_cast (.int (nI 2)) (congrArg Value.int (by decide)) ?_
                refine lq_sld C 2 (by decide) (by decide) dL_law_2172 ?_
                refine lq_cast (.int (nI v2)) (congrArg Value.int e_v2) ?_
                refine lq_aload_n C (i := 0) rfl 4 rfl dL_law_2173 ?_
                refine lq_iload C 0 rfl dL_law_2174 ?_
                refine lq_iconst C (x := nI 3) rfl dL_law_2176 ?_
                refine lq_iadd C dL_law_2177 ?_
                refine lq_cast (.int (nI 3)) (congrArg Value.int (by decide)) ?_
                refine lq_sld C 3 (by decide) (by decide) dL_law_2178 ?_
                refine lq_cast (.int (nI v3)) (congrArg Value.int e_v3) ?_
                refine lq_if_eq C 2186 (by decide) dL_law_2179 (fun c_ => absurd c_ (nI_ne0 (by omega) (by omega))) (fun _ => ?_)
                refine lq_iconst C (x := nI 1) rfl dL_law_2182 ?_
                refine lq_goto C 2187 (by decide) dL_law_2183 ?_
                refine lq_aload_n C (i := 3) rfl 1 rfl dL_law_2187 ?_
                refine lq_callW C (z240_L_near l hlt S dp x out v1 v2 (by omega) (by omega) (by omega) Fm_x Fk_x) lH_313 rfl rfl ⟨by decide, by decide⟩ ⟨Nat.le_of_ble_eq_true rfl, Nat.le_of_ble_eq_true rfl⟩ rfl (Nat.le_of_ble_eq_true rfl) dL_law_2188 (fun r_2188 u_2188 h_2188 => ?_)
                obtain ⟨hr_2188, hu_2188⟩ := h_2188
                have hw_2188 := hu_2188.symm
                subst hw_2188
                have hx_2188 := hr_2188.symm
                subst hx_2188
                refine lq_istore C (lv' := [(5, .int (nI 2)), (4, .int (nI 0)), (3, .ref out), (2, .ref (a 0)), (1, .ref x), (0, .ref b)]) (by decide) rfl dL_law_2191 ?_
                refine lq_aload_n C (i := 2) rfl 3 rfl dL_law_2193 ?_
                refine lq_aload_n C (i := 0) rfl 5 rfl dL_law_2194 ?_
                refine lq_iload C 1 rfl dL_law_2195 ?_
                refine lq_iconst C (x := nI 1) rfl dL_law_2197 ?_
                refine lq_iadd C dL_law_2198 ?_
                refine lq_cast (.int (nI 1)) (congrArg Value.int (by decide)) ?_
                refine lq_sld C 1 (by decide) (by decide) dL_law_2199 ?_
                refine lq_cast (.int (nI v1)) (congrArg Value.int e_v1) ?_
                refine lq_aload_n C (i := 0) rfl 5 rfl dL_law_2200 ?_
                refine lq_iload C 1 rfl dL_law_2201 ?_
                refine lq_iconst C (x := nI 2) rfl dL_law_2203 ?_
                refine lq_iadd C dL_law_2204 ?_
                refine lq_cast (.int (nI 2)) (congrArg Value.int (by decide)) ?_
                refine lq_sld C 2 (by decide) (by decide) dL_law_2205 ?_
                refine lq_cast (.int (nI v2)) (congrArg Value.int e_v2) ?_
                refine lq_aload_n C (i := 0) rfl 5 rfl dL_law_2206 ?_
                refine lq_iload C 1 rfl dL_law_2207 ?_
                refine lq_iconst C (x := nI 3) rfl dL_law_2209 ?_
                refine lq_iadd C dL_law_2210 ?_
                refine lq_cast (.int (nI 3)) (congrArg Value.int (by decide)) ?_
                refine lq_sld C 3 (by decide) (by decide) dL_law_2211 ?_
                refine lq_cast (.int (nI v3)) (congrArg Value.int e_v3) ?_
                refine lq_if_eq C 2219 (by decide) dL_law_2212 (fun c_ => absurd c_ (nI_ne0 (by omega) (by omega))) (fun _ => ?_)
                refine lq_iconst C (x := nI 1) rfl dL_law_2215 ?_
                refine lq_goto C 2220 (by decide) dL_law_2216 ?_
                refine lq_doM C (w151_near l v f g v1 v2 (by omega) (by omega) (by omega) Mv_2) lM_316 rfl rfl ⟨by decide, by decide⟩ ⟨Nat.le_of_ble_eq_true rfl, Nat.le_of_ble_eq_true rfl⟩ rfl (Nat.le_of_ble_eq_true rfl) dL_law_2220 ?_
                refine lq_istore C (lv' := [(6, .int (nI 0)), (5, .int (nI 2)), (4, .int (nI 0)), (3, .ref out), (2, .ref (a 0)), (1, .ref x), (0, .ref b)]) (by decide) rfl dL_law_2223 ?_
                refine lq_aload_n C (i := 2) rfl 4 rfl dL_law_2225 ?_
                refine lq_doM C (w116_thrown l (upd (upd (upd v 4 (nI 0)) 77 (nI 0)) 99 (nI 2)) f g rfl) lM_192 rfl rfl ⟨by decide, by decide⟩ ⟨Nat.le_of_ble_eq_true rfl, Nat.le_of_ble_eq_true rfl⟩ rfl (Nat.le_of_ble_eq_true rfl) dL_law_2226 ?_
                refine lq_iload C 1 rfl dL_law_2229 ?_
                refine lq_icmp_eq C 2236 (by decide) dL_law_2231 (fun _ => ?_) (fun c_ => absurd (by decide) c_)
                refine lq_iload C 1 rfl dL_law_2236 ?_
                refine lq_if_ne C 2253 (by decide) dL_law_2238 (fun _ => ?_) (fun c_ => absurd c_ (by decide))
                refine lq_goto C 3491 (by decide) dL_law_2253 ?_
                exact lq_sub [2, 6] rfl (law_tail C (Nat.le_of_ble_eq_true rfl) (Nat.le_of_ble_eq_true rfl))
        · rcases c_sgn (xs 2) with hneg_v2 | ⟨v2, hr_v2, e_v2⟩
          · obtain ⟨v2, e_v2⟩ : ∃ z : Int32, xs 2 = z := ⟨_, rfl⟩
            rw [e_v2] at hneg_v2
            obtain ⟨v4, e_v4⟩ : ∃ z : Int32, xs 4 = z := ⟨_, rfl⟩
            obtain ⟨v5, e_v5⟩ : ∃ z : Int32, xs 5 = z := ⟨_, rfl⟩
            refine lq_aload_n C (i := 1) rfl 3 rfl dL_law_2160 ?_
            refine lq_aload_n C (i := 0) rfl 4 rfl dL_law_2161 ?_
            refine lq_iload C 0 rfl dL_law_2162 ?_
            refine lq_iconst C (x := nI 1) rfl dL_law_2164 ?_
            refine lq_iadd C dL_law_2165 ?_
            refine lq_cast (.int (nI 1)) (congrArg Value.int (by decide)) ?_
            refine lq_sld C 1 (by decide) (by decide) dL_law_2166 ?_
            refine lq_cast (.int (nI v1)) (congrArg Value.int e_v1) ?_
            refine lq_aload_n C (i := 0) rfl 4 rfl dL_law_2167 ?_
            refine lq_iload C 0 rfl dL_law_2168 ?_
            refine lq_iconst C (x := nI 2) rfl dL_law_2170 ?_
            refine lq_iadd C dL_law_2171 ?_
            refine lq_cast (.int (nI 2)) (congrArg Value.int (by decide)) ?_
            refine lq_sld C 2 (by decide) (by decide) dL_law_2172 ?_
            refine lq_cast (.int v2) (congrArg Value.int e_v2) ?_
            refine lq_aload_n C (i := 0) rfl 4 rfl dL_law_2173 ?_
            refine lq_iload C 0 rfl dL_law_2174 ?_
            refine lq_iconst C (x := nI 3) rfl dL_law_2176 ?_
            refine lq_iadd C dL_law_2177 ?_
            refine lq_cast (.int (nI 3)) (congrArg Value.int (by decide)) ?_
            refine lq_sld C 3 (by decide) (by decide) dL_law_2178 ?_
            refine lq_cast (.int (nI v3)) (congrArg Value.int e_v3) ?_
            refine lq_if_eq C 2186 (by decide) dL_law_2179 (fun c_ => absurd c_ (nI_ne0 (by omega) (by omega))) (fun _ => ?_)
            refine lq_iconst C (x := nI 1) rfl dL_law_2182 ?_
            refine lq_goto C 2187 (by decide) dL_law_2183 ?_
            refine lq_aload_n C (i := 3) rfl 1 rfl dL_law_2187 ?_
            refine lq_callW C (z244_L_near l hlt S dp x out v1 v2 (by omega) (by omega) hneg_v2 Fm_x Fk_x) lH_313 rfl rfl ⟨by decide, by decide⟩ ⟨Nat.le_of_ble_eq_true rfl, Nat.le_of_ble_eq_true rfl⟩ rfl (Nat.le_of_ble_eq_true rfl) dL_law_2188 (fun r_2188 u_2188 h_2188 => ?_)
            obtain ⟨hr_2188, hu_2188⟩ := h_2188
            have hw_2188 := hu_2188.symm
            subst hw_2188
            have hx_2188 := hr_2188.symm
            subst hx_2188
            refine lq_istore C (lv' := [(5, .int (nI 1)), (4, .int (nI 0)), (3, .ref out), (2, .ref (a 0)), (1, .ref x), (0, .ref b)]) (by decide) rfl dL_law_2191 ?_
            refine lq_aload_n C (i := 2) rfl 3 rfl dL_law_2193 ?_
            refine lq_aload_n C (i := 0) rfl 5 rfl dL_law_2194 ?_
            refine lq_iload C 1 rfl dL_law_2195 ?_
            refine lq_iconst C (x := nI 1) rfl dL_law_2197 ?_
            refine lq_iadd C dL_law_2198 ?_
            refine lq_cast (.int (nI 1)) (congrArg Value.int (by decide)) ?_
            refine lq_sld C 1 (by decide) (by decide) dL_law_2199 ?_
            refine lq_cast (.int (nI v1)) (congrArg Value.int e_v1) ?_
            refine lq_aload_n C (i := 0) rfl 5 rfl dL_law_2200 ?_
            refine lq_iload C 1 rfl dL_law_2201 ?_
            refine lq_iconst C (x := nI 2) rfl dL_law_2203 ?_
            refine lq_iadd C dL_law_2204 ?_
            refine lq_cast (.int (nI 2)) (congrArg Value.int (by decide)) ?_
            refine lq_sld C 2 (by decide) (by decide) dL_law_2205 ?_
            refine lq_cast (.int v2) (congrArg Value.int e_v2) ?_
            refine lq_aload_n C (i := 0) rfl 5 rfl dL_law_2206 ?_
            refine lq_iload C 1 rfl dL_law_2207 ?_
            refine lq_iconst C (x := nI 3) rfl dL_law_2209 ?_
            refine lq_iadd C dL_law_2210 ?_
            refine lq_cast (.int (nI 3)) (congrArg Value.int (by decide)) ?_
            refine lq_sld C 3 (by decide) (by decide) dL_law_2211 ?_
            refine lq_cast (.int (nI v3)) (congrArg Value.int e_v3) ?_
            refine lq_if_eq C 2219 (by decide) dL_law_2212 (fun c_ => absurd c_ (nI_ne0 (by omega) (by omega))) (fun _ => ?_)
            refine lq_iconst C (x := nI 1) rfl dL_law_2215 ?_
            refine lq_goto C 2220 (by decide) dL_law_2216 ?_
            refine lq_doM C (w152_near l v f g v1 v2 (by omega) (by omega) hneg_v2 Mv_2) lM_316 rfl rfl ⟨by decide, by decide⟩ ⟨Nat.le_of_ble_eq_true rfl, Nat.le_of_ble_eq_true rfl⟩ rfl (Nat.le_of_ble_eq_true rfl) dL_law_2220 ?_
            refine lq_istore C (lv' := [(6, .int (nI 0)), (5, .int (nI 1)), (4, .int (nI 0)), (3, .ref out), (2, .ref (a 0)), (1, .ref x), (0, .ref b)]) (by decide) rfl dL_law_2223 ?_
            refine lq_aload_n C (i := 2) rfl 4 rfl dL_law_2225 ?_
            refine lq_doM C (w4_thrown l (upd (upd (upd v 4 (nI 0)) 77 (nI 0)) 99 (nI 1)) f g rfl) lM_192 rfl rfl ⟨by decide, by decide⟩ ⟨Nat.le_of_ble_eq_true rfl, Nat.le_of_ble_eq_true rfl⟩ rfl (Nat.le_of_ble_eq_true rfl) dL_law_2226 ?_
            refine lq_iload C 1 rfl dL_law_2229 ?_
            refine lq_icmp_eq C 2236 (by decide) dL_law_2231 (fun _ => ?_) (fun c_ => absurd (by decide) c_)
            refine lq_iload C 1 rfl dL_law_2236 ?_
            refine lq_if_ne C 2253 (by decide) dL_law_2238 (fun _ => ?_) (fun c_ => absurd c_ (by decide))
            refine lq_goto C 3491 (by decide) dL_law_2253 ?_
            exact lq_sub [2, 6] rfl (law_tail C (Nat.le_of_ble_eq_true rfl) (Nat.le_of_ble_eq_true rfl))
          · rcases Nat.lt_or_ge v2 1 with hlt_v2 | hlt_v2
            · obtain rfl : v2 = 0 := by omega
              obtain ⟨v4, e_v4⟩ : ∃ z : Int32, xs 4 = z := ⟨_, rfl⟩
              obtain ⟨v5, e_v5⟩ : ∃ z : Int32, xs 5 = z := ⟨_, rfl⟩
              refine lq_aload_n C (i := 1) rfl 3 rfl dL_law_2160 ?_
              refine lq_aload_n C (i := 0) rfl 4 rfl dL_law_2161 ?_
              refine lq_iload C 0 rfl dL_law_2162 ?_
              refine lq_iconst C (x := nI 1) rfl dL_law_2164 ?_
              refine lq_iadd C dL_law_2165 ?_
              refine lq_cast (.int (nI 1)) (congrArg Value.int (by decide)) ?_
              refine lq_sld C 1 (by decide) (by decide) dL_law_2166 ?_
              refine lq_cast (.int (nI v1)) (congrArg Value.int e_v1) ?_
              refine lq_aload_n C (i := 0) rfl 4 rfl dL_law_2167 ?_
              refine lq_iload C 0 rfl dL_law_2168 ?_
              refine lq_iconst C (x := nI 2) rfl dL_law_2170 ?_
              refine lq_iadd C dL_law_2171 ?_
              refine lq_cast (.int (nI 2)) (congrArg Value.int (by decide)) ?_
              refine lq_sld C 2 (by decide) (by decide) dL_law_2172 ?_
              refine lq_cast (.int (nI 0)) (congrArg Value.int e_v2) ?_
              refine lq_aload_n C (i := 0) rfl 4 rfl dL_law_2173 ?_
              refine lq_iload C 0 rfl dL_law_2174 ?_
              refine lq_iconst C (x := nI 3) rfl dL_law_2176 ?_
              refine lq_iadd C dL_law_2177 ?_
              refine lq_cast (.int (nI 3)) (congrArg Value.int (by decide)) ?_
              refine lq_sld C 3 (by decide) (by decide) dL_law_2178 ?_
              refine lq_cast (.int (nI v3)) (congrArg Value.int e_v3) ?_
              refine lq_if_eq C 2186 (by decide) dL_law_2179 (fun c_ => absurd c_ (nI_ne0 (by omega) (by omega))) (fun _ => ?_)
              refine lq_iconst C (x := nI 1) rfl dL_law_2182 ?_
              refine lq_goto C 2187 (by decide) dL_law_2183 ?_
              refine lq_aload_n C (i := 3) rfl 1 rfl dL_law_2187 ?_
              refine lq_callW C (z248_L_near l hlt S dp x out v1 (by omega) (by omega) Fm_x Fk_x) lH_313 rfl rfl ⟨by decide, by decide⟩ ⟨Nat.le_of_ble_eq_true rfl, Nat.le_of_ble_eq_true rfl⟩ rfl (Nat.le_of_ble_eq_true rfl) dL_law_2188 (fun r_2188 u_2188 h_2188 => ?_)
              obtain ⟨hr_2188, hu_2188⟩ := h_2188
              have hw_2188 := hu_2188.symm
              subst hw_2188
              have hx_2188 := hr_2188.symm
              subst hx_2188
              refine lq_istore C (lv' := [(5, .int (nI 1)), (4, .int (nI 0)), (3, .ref out), (2, .ref (a 0)), (1, .ref x), (0, .ref b)]) (by decide) rfl dL_law_2191 ?_
              refine lq_aload_n C (i := 2) rfl 3 rfl dL_law_2193 ?_
              refine lq_aload_n C (i := 0) rfl 5 rfl dL_law_2194 ?_
              refine lq_iload C 1 rfl dL_law_2195 ?_
              refine lq_iconst C (x := nI 1) rfl dL_law_2197 ?_
              refine lq_iadd C dL_law_2198 ?_
              refine lq_cast (.int (nI 1)) (congrArg Value.int (by decide)) ?_
              refine lq_sld C 1 (by decide) (by decide) dL_law_2199 ?_
              refine lq_cast (.int (nI v1)) (congrArg Value.int e_v1) ?_
              refine lq_aload_n C (i := 0) rfl 5 rfl dL_law_2200 ?_
              refine lq_iload C 1 rfl dL_law_2201 ?_
              refine lq_iconst C (x := nI 2) rfl dL_law_2203 ?_
              refine lq_iadd C dL_law_2204 ?_
              refine lq_cast (.int (nI 2)) (congrArg Value.int (by decide)) ?_
              refine lq_sld C 2 (by decide) (by decide) dL_law_2205 ?_
              refine lq_cast (.int (nI 0)) (congrArg Value.int e_v2) ?_
              refine lq_aload_n C (i := 0) rfl 5 rfl dL_law_2206 ?_
              refine lq_iload C 1 rfl dL_law_2207 ?_
              refine lq_iconst C (x := nI 3) rfl dL_law_2209 ?_
              refine lq_iadd C dL_law_2210 ?_
              refine lq_cast (.int (nI 3)) (congrArg Value.int (by decide)) ?_
              refine lq_sld C 3 (by decide) (by decide) dL_law_2211 ?_
              refine lq_cast (.int (nI v3)) (congrArg Value.int e_v3) ?_
              refine lq_if_eq C 2219 (by decide) dL_law_2212 (fun c_ => absurd c_ (nI_ne0 (by omega) (by omega))) (fun _ => ?_)
              refine lq_iconst C (x := nI 1) rfl dL_law_2215 ?_
              refine lq_goto C 2220 (by decide) dL_law_2216 ?_
              refine lq_doM C (w153_near l v f g v1 (by omega) (by omega) Mv_2) lM_316 rfl rfl ⟨by decide, by decide⟩ ⟨Nat.le_of_ble_eq_true rfl, Nat.le_of_ble_eq_true rfl⟩ rfl (Nat.le_of_ble_eq_true rfl) dL_law_2220 ?_
              refine lq_istore C (lv' := [(6, .int (nI 0)), (5, .int (nI 1)), (4, .int (nI 0)), (3, .ref out), (2, .ref (a 0)), (1, .ref x), (0, .ref b)]) (by decide) rfl dL_law_2223 ?_
              refine lq_aload_n C (i := 2) rfl 4 rfl dL_law_2225 ?_
              refine lq_doM C (w4_thrown l (upd (upd (upd v 4 (nI 0)) 77 (nI 0)) 99 (nI 1)) f g rfl) lM_192 rfl rfl ⟨by decide, by decide⟩ ⟨Nat.le_of_ble_eq_true rfl, Nat.le_of_ble_eq_true rfl⟩ rfl (Nat.le_of_ble_eq_true rfl) dL_law_2226 ?_
              refine lq_iload C 1 rfl dL_law_2229 ?_
              refine lq_icmp_eq C 2236 (by decide) dL_law_2231 (fun _ => ?_) (fun c_ => absurd (by decide) c_)
              refine lq_iload C 1 rfl dL_law_2236 ?_
              refine lq_if_ne C 2253 (by decide) dL_law_2238 (fun _ => ?_) (fun c_ => absurd c_ (by decide))
              refine lq_goto C 3491 (by decide) dL_law_2253 ?_
              exact lq_sub [2, 6] rfl (law_tail C (Nat.le_of_ble_eq_true rfl) (Nat.le_of_ble_eq_true rfl))
            · rcases Nat.lt_or_ge v2 21 with hlt_v2 | hlt_v2
              · obtain ⟨v4, e_v4⟩ : ∃ z : Int32, xs 4 = z := ⟨_, rfl⟩
                obtain ⟨v5, e_v5⟩ : ∃ z : Int32, xs 5 = z := ⟨_, rfl⟩
                refine lq_aload_n C (i := 1) rfl 3 rfl dL_law_2160 ?_
                refine lq_aload_n C (i := 0) rfl 4 rfl dL_law_2161 ?_
                refine lq_iload C 0 rfl dL_law_2162 ?_
                refine lq_iconst C (x := nI 1) rfl dL_law_2164 ?_
                refine lq_iadd C dL_law_2165 ?_
                refine lq_cast (.int (nI 1)) (congrArg Value.int (by decide)) ?_
                refine lq_sld C 1 (by decide) (by decide) dL_law_2166 ?_
                refine lq_cast (.int (nI v1)) (congrArg Value.int e_v1) ?_
                refine lq_aload_n C (i := 0) rfl 4 rfl dL_law_2167 ?_
                refine lq_iload C 0 rfl dL_law_2168 ?_
                refine lq_iconst C (x := nI 2) rfl dL_law_2170 ?_
                refine lq_iadd C dL_law_2171 ?_
                refine lq_cast (.int (nI 2)) (congrArg Value.int (by decide)) ?_
                refine lq_sld C 2 (by decide) (by decide) dL_law_2172 ?_
                refine lq_cast (.int (nI v2)) (congrArg Value.int e_v2) ?_
                refine lq_aload_n C (i := 0) rfl 4 rfl dL_law_2173 ?_
                refine lq_iload C 0 rfl dL_law_2174 ?_
                refine lq_iconst C (x := nI 3) rfl dL_law_2176 ?_
                refine lq_iadd C dL_law_2177 ?_
                refine lq_cast (.int (nI 3)) (congrArg Value.int (by decide)) ?_
                refine lq_sld C 3 (by decide) (by decide) dL_law_2178 ?_
                refine lq_cast (.int (nI v3)) (congrArg Value.int e_v3) ?_
                refine lq_if_eq C 2186 (by decide) dL_law_2179 (fun c_ => absurd c_ (nI_ne0 (by omega) (by omega))) (fun _ => ?_)
                refine lq_iconst C (x := nI 1) rfl dL_law_2182 ?_
                refine lq_goto C 2187 (by decide) dL_law_2183 ?_
                refine lq_aload_n C (i := 3) rfl 1 rfl dL_law_2187 ?_
                refine lq_callW C (z252_L_near l hlt S dp x out v1 v2 (by omega) (by omega) (by omega) (by omega) Fm_x Fk_x) lH_313 rfl rfl ⟨by decide, by decide⟩ ⟨Nat.le_of_ble_eq_true rfl, Nat.le_of_ble_eq_true rfl⟩ rfl (Nat.le_of_ble_eq_true rfl) dL_law_2188 (fun r_2188 u_2188 h_2188 => ?_)
                obtain ⟨hr_2188, hu_2188⟩ := h_2188
                have hw_2188 := hu_2188.symm
                subst hw_2188
                have hx_2188 := hr_2188.symm
                subst hx_2188
                refine lq_istore C (lv' := [(5, .int (nI 1)), (4, .int (nI 0)), (3, .ref out), (2, .ref (a 0)), (1, .ref x), (0, .ref b)]) (by decide) rfl dL_law_2191 ?_
                refine lq_aload_n C (i := 2) rfl 3 rfl dL_law_2193 ?_
                refine lq_aload_n C (i := 0) rfl 5 rfl dL_law_2194 ?_
                refine lq_iload C 1 rfl dL_law_2195 ?_
                refine lq_iconst C (x := nI 1) rfl dL_law_2197 ?_
                refine lq_iadd C dL_law_2198 ?_
                refine lq_cast (.int (nI 1)) (congrArg Value.int (by decide)) ?_
                refine lq_sld C 1 (by decide) (by decide) dL_law_2199 ?_
                refine lq_cast (.int (nI v1)) (congrArg Value.int e_v1) ?_
                refine lq_aload_n C (i := 0) rfl 5 rfl dL_law_2200 ?_
                refine lq_iload C 1 rfl dL_law_2201 ?_
                refine lq_iconst C (x := nI 2) rfl dL_law_2203 ?_
                refine lq_iadd C dL_law_2204 ?_
                refine lq_cast (.int (nI 2)) (congrArg Value.int (by decide)) ?_
                refine lq_sld C 2 (by decide) (by decide) dL_law_2205 ?_
                refine lq_cast (.int (nI v2)) (congrArg Value.int e_v2) ?_
                refine lq_aload_n C (i := 0) rfl 5 rfl dL_law_2206 ?_
                refine lq_iload C 1 rfl dL_law_2207 ?_
                refine lq_iconst C (x := nI 3) rfl dL_law_2209 ?_
                refine lq_iadd C dL_law_2210 ?_
                refine lq_cast (.int (nI 3)) (congrArg Value.int (by decide)) ?_
                refine lq_sld C 3 (by decide) (by decide) dL_law_2211 ?_
                refine lq_cast (.int (nI v3)) (congrArg Value.int e_v3) ?_
                refine lq_if_eq C 2219 (by decide) dL_law_2212 (fun c_ => absurd c_ (nI_ne0 (by omega) (by omega))) (fun _ => ?_)
                refine lq_iconst C (x := nI 1) rfl dL_law_2215 ?_
                refine lq_goto C 2220 (by decide) dL_law_2216 ?_
                refine lq_doM C (w154_near l v f g v1 v2 (by omega) (by omega) (by omega) (by omega) Mv_2) lM_316 rfl rfl ⟨by decide, by decide⟩ ⟨Nat.le_of_ble_eq_true rfl, Nat.le_of_ble_eq_true rfl⟩ rfl (Nat.le_of_ble_eq_true rfl) dL_law_2220 ?_
                refine lq_istore C (lv' := [(6, .int (nI 0)), (5, .int (nI 1)), (4, .int (nI 0)), (3, .ref out), (2, .ref (a 0)), (1, .ref x), (0, .ref b)]) (by decide) rfl dL_law_2223 ?_
                refine lq_aload_n C (i := 2) rfl 4 rfl dL_law_2225 ?_
                refine lq_doM C (w4_thrown l (upd (upd (upd v 4 (nI 0)) 77 (nI 0)) 99 (nI 1)) f g rfl) lM_192 rfl rfl ⟨by decide, by decide⟩ ⟨Nat.le_of_ble_eq_true rfl, Nat.le_of_ble_eq_true rfl⟩ rfl (Nat.le_of_ble_eq_true rfl) dL_law_2226 ?_
                refine lq_iload C 1 rfl dL_law_2229 ?_
                refine lq_icmp_eq C 2236 (by decide) dL_law_2231 (fun _ => ?_) (fun c_ => absurd (by decide) c_)
                refine lq_iload C 1 rfl dL_law_2236 ?_
                refine lq_if_ne C 2253 (by decide) dL_law_2238 (fun _ => ?_) (fun c_ => absurd c_ (by decide))
                refine lq_goto C 3491 (by decide) dL_law_2253 ?_
                exact lq_sub [2, 6] rfl (law_tail C (Nat.le_of_ble_eq_true rfl) (Nat.le_of_ble_eq_true rfl))
              · obtain ⟨v4, e_v4⟩ : ∃ z : Int32, xs 4 = z := ⟨_, rfl⟩
                obtain ⟨v5, e_v5⟩ : ∃ z : Int32, xs 5 = z := ⟨_, rfl⟩
                refine lq_aload_n C (i := 1) rfl 3 rfl dL_law_2160 ?_
                refine lq_aload_n C (i := 0) rfl 4 rfl dL_law_2161 ?_
                refine lq_iload C 0 rfl dL_law_2162 ?_
                refine lq_iconst C (x := nI 1) rfl dL_law_2164 ?_
                refine lq_iadd C dL_law_2165 ?_
                refine lq_cast (.int (nI 1)) (congrArg Value.int (by decide)) ?_
                refine lq_sld C 1 (by decide) (by decide) dL_law_2166 ?_
                refine lq_cast (.int (nI v1)) (congrArg Value.int e_v1) ?_
                refine lq_aload_n C (i := 0) rfl 4 rfl dL_law_2167 ?_
                refine lq_iload C 0 rfl dL_law_2168 ?_
                refine lq_iconst C (x := nI 2) rfl dL_law_2170 ?_
                refine lq_iadd C dL_law_2171 ?_
                refine lq_cast (.int (nI 2)) (congrArg Value.int (by decide)) ?_
                refine lq_sld C 2 (by decide) (by decide) dL_law_2172 ?_
                refine lq_cast (.int (nI v2)) (congrArg Value.int e_v2) ?_
                refine lq_aload_n C (i := 0) rfl 4 rfl dL_law_2173 ?_
                refine lq_iload C 0 rfl dL_law_2174 ?_
                refine lq_iconst C (x := nI 3) rfl dL_law_2176 ?_
                refine lq_iadd C dL_law_2177 ?_
                refine lq_cast (.int (nI 3)) (congrArg Value.int (by decide)) ?_
                refine lq_sld C 3 (by decide) (by decide) dL_law_2178 ?_
                refine lq_cast (.int (nI v3)) (congrArg Value.int e_v3) ?_
                refine lq_if_eq C 2186 (by decide) dL_law_2179 (fun c_ => absurd c_ (nI_ne0 (by omega) (by omega))) (fun _ => ?_)
                refine lq_iconst C (x := nI 1) rfl dL_law_2182 ?_
                refine lq_goto C 2187 (by decide) dL_law_2183 ?_
                refine lq_aload_n C (i := 3) rfl 1 rfl dL_law_2187 ?_
                refine lq_callW C (z254_L_near l hlt S dp x out v1 v2 (by omega) (by omega) (by omega) (by omega) Fm_x Fk_x) lH_313 rfl rfl ⟨by decide, by decide⟩ ⟨Nat.le_of_ble_eq_true rfl, Nat.le_of_ble_eq_true rfl⟩ rfl (Nat.le_of_ble_eq_true rfl) dL_law_2188 (fun r_2188 u_2188 h_2188 => ?_)
                obtain ⟨hr_2188, hu_2188⟩ := h_2188
                have hw_2188 := hu_2188.symm
                subst hw_2188
                have hx_2188 := hr_2188.symm
                subst hx_2188
                refine lq_istore C (lv' := [(5, .int (nI 1)), (4, .int (nI 0)), (3, .ref out), (2, .ref (a 0)), (1, .ref x), (0, .ref b)]) (by decide) rfl dL_law_2191 ?_
                refine lq_aload_n C (i := 2) rfl 3 rfl dL_law_2193 ?_
                refine lq_aload_n C (i := 0) rfl 5 rfl dL_law_2194 ?_
                refine lq_iload C 1 rfl dL_law_2195 ?_
                refine lq_iconst C (x := nI 1) rfl dL_law_2197 ?_
                refine lq_iadd C dL_law_2198 ?_
                refine lq_cast (.int (nI 1)) (congrArg Value.int (by decide)) ?_
                refine lq_sld C 1 (by decide) (by decide) dL_law_2199 ?_
                refine lq_cast (.int (nI v1)) (congrArg Value.int e_v1) ?_
                refine lq_aload_n C (i := 0) rfl 5 rfl dL_law_2200 ?_
                refine lq_iload C 1 rfl dL_law_2201 ?_
                refine lq_iconst C (x := nI 2) rfl dL_law_2203 ?_
                refine lq_iadd C dL_law_2204 ?_
                refine lq_cast (.int (nI 2)) (congrArg Value.int (by decide)) ?_
                refine lq_sld C 2 (by decide) (by decide) dL_law_2205 ?_
                refine lq_cast (.int (nI v2)) (congrArg Value.int e_v2) ?_
                refine lq_aload_n C (i := 0) rfl 5 rfl dL_law_2206 ?_
                refine lq_iload C 1 rfl dL_law_2207 ?_
                refine lq_iconst C (x := nI 3) rfl dL_law_2209 ?_
                refine lq_iadd C dL_law_2210 ?_
                refine lq_cast (.int (nI 3)) (congrArg Value.int (by decide)) ?_
                refine lq_sld C 3 (by decide) (by decide) dL_law_2211 ?_
                refine lq_cast (.int (nI v3)) (congrArg Value.int e_v3) ?_
                refine lq_if_eq C 2219 (by decide) dL_law_2212 (fun c_ => absurd c_ (nI_ne0 (by omega) (by omega))) (fun _ => ?_)
                refine lq_iconst C (x := nI 1) rfl dL_law_2215 ?_
                refine lq_goto C 2220 (by decide) dL_law_2216 ?_
                refine lq_doM C (w155_near l v f g v1 v2 (by omega) (by omega) (by omega) (by omega) Mv_2) lM_316 rfl rfl ⟨by decide, by decide⟩ ⟨Nat.le_of_ble_eq_true rfl, Nat.le_of_ble_eq_true rfl⟩ rfl (Nat.le_of_ble_eq_true rfl) dL_law_2220 ?_
                refine lq_istore C (lv' := [(6, .int (nI 0)), (5, .int (nI 1)), (4, .int (nI 0)), (3, .ref out), (2, .ref (a 0)), (1, .ref x), (0, .ref b)]) (by decide) rfl dL_law_2223 ?_
                refine lq_aload_n C (i := 2) rfl 4 rfl dL_law_2225 ?_
                refine lq_doM C (w4_thrown l (upd (upd (upd v 4 (nI 0)) 77 (nI 0)) 99 (nI 1)) f g rfl) lM_192 rfl rfl ⟨by decide, by decide⟩ ⟨Nat.le_of_ble_eq_true rfl, Nat.le_of_ble_eq_true rfl⟩ rfl (Nat.le_of_ble_eq_true rfl) dL_law_2226 ?_
                refine lq_iload C 1 rfl dL_law_2229 ?_
                refine lq_icmp_eq C 2236 (by decide) dL_law_2231 (fun _ => ?_) (fun c_ => absurd (by decide) c_)
                refine lq_iload C 1 rfl dL_law_2236 ?_
                refine lq_if_ne C 2253 (by decide) dL_law_2238 (fun _ => ?_) (fun c_ => absurd c_ (by decide))
                refine lq_goto C 3491 (by decide) dL_law_2253 ?_
                exact lq_sub [2, 6] rfl (law_tail C (Nat.le_of_ble_eq_true rfl) (Nat.le_of_ble_eq_true rfl))
end LCS
