/-! the law's methods as predicates, and their contracts -/
set_option maxHeartbeats 1000000 in
set_option maxRecDepth 20000 in
theorem t_L_word (l : Launch) (x0 : Int64) (x2 : Int32) (x3 : Int32) (S : cS) (dp : Nat) {P : Int32 → cS → Prop} (h : k_L_word P dp x0 x2 x3 S) : cMet (cQi P) l yL_word cL_word 4 (some .int) 0 0 0 0 [.long x0, .int x2, .int x3] S dp := by
  intro D Y tp sz
  refine cg_body (by decide +kernel) (Nat.le_of_ble_eq_true rfl) ?_
  intro p e s m args below meth c C
  generalize va_A (cWd Y S) sz = A at C ⊢
  have C : cC p s m args meth c cL_word 4 (some .int) A D Y tp dp RL := C
  refine cg_lv (lv' := [(0, .long x0), (2, .int x2), (3, .int x3)]) rfl ?_
  unfold k_L_word at h
  refine cg_iload_n C (i := 3) rfl 2 rfl dL_word_0 ?_
  refine cg_if_lt C 9 (by decide) dL_word_1 (fun c_ => ?_) (fun c_ => ?_)
  · have h := h.1 c_
    refine cg_iconst C (x := nI 0) rfl dL_word_9 ?_
    refine cg_goto C 30 (by decide) dL_word_10 ?_
    exact cg_iret C h dL_word_30 (by decide) (by decide)
  · have h := h.2 c_
    refine cg_iload_n C (i := 3) rfl 2 rfl dL_word_4 ?_
    refine cg_iconst C (x := nI 4) rfl dL_word_5 ?_
    refine cg_icmp_le C 13 (by decide) dL_word_6 (fun c_ => ?_) (fun c_ => ?_)
    · have h := h.1 c_
      refine cg_lload_n C (i := 0) rfl 0 rfl dL_word_13 ?_
      refine cg_iconst C (x := nI 4) rfl dL_word_14 ?_
      refine cg_bipush C (x := nI 20) rfl dL_word_15 ?_
      refine cg_iload_n C (i := 2) rfl 1 rfl dL_word_17 ?_
      refine cg_imul C dL_word_18 ?_
      refine cg_iadd C dL_word_19 ?_
      refine cg_iconst C (x := nI 4) rfl dL_word_20 ?_
      refine cg_iload_n C (i := 3) rfl 2 rfl dL_word_21 ?_
      refine cg_imul C dL_word_22 ?_
      refine cg_iadd C dL_word_23 ?_
      refine cg_lushr C dL_word_24 ?_
      refine cg_ldc2 C (x := 15) ck_L_9 dL_word_25 ?_
      refine cg_land C dL_word_28 ?_
      refine cg_l2i C dL_word_29 ?_
      exact cg_iret C h dL_word_30 (by decide) (by decide)
    · have h := h.2 c_
      refine cg_iconst C (x := nI 0) rfl dL_word_9 ?_
      refine cg_goto C 30 (by decide) dL_word_10 ?_
      exact cg_iret C h dL_word_30 (by decide) (by decide)
section S_L_has
variable {p : Program} {l : Launch} {e : Env} {s : State} {m : MethodId} {args : Array Value} {below : List Frame} {meth : Method} {c : Code} {A : Nat → Prop} {D : va_G} {Y : cY} {tp dp : Nat}
set_option maxRecDepth 20000 in
theorem tb_L_has_45 (C : cC p s m args meth c cL_has 7 (some .boolean) A D Y tp dp RL) {post : Int32 → cS → Prop}   (x4 : Int32) (t0 : Int32) (S : cS) (h : k_L_has_45 post dp  x4 t0 S) : cG p l e (cRm 1 0 0 23) s m args below meth c A D Y 7 (MQ below (cQi post D Y A) args s 0 0 A) 0 0 45 [(4, .int x4)] [.int t0] S := by
  unfold k_L_has_45 at h
  refine cg_istore C (lv' := [(6, .int t0), (4, .int x4)]) (Nat.le_of_ble_eq_true rfl) rfl dL_has_45 ?_
  refine cg_iload C 0 rfl dL_has_47 ?_
  refine cg_if_lt C 74 (by decide) dL_has_49 (fun c_ => ?_) (fun c_ => ?_)
  · have h := h.1 c_
    refine cg_iconst C (x := nI 0) rfl dL_has_74 ?_
    refine cg_cast (.int (bI false)) rfl ?_
    exact cg_zret C (bI_nar _) h dL_has_75 (by decide) (by decide)
  · have h := h.2 c_
    refine cg_iload C 0 rfl dL_has_52 ?_
    refine cg_iload C 1 rfl dL_has_54 ?_
    refine cg_icmp_eq C 70 (by decide) dL_has_56 (fun c_ => ?_) (fun c_ => ?_)
    · have h := h.1 c_
      refine cg_iconst C (x := nI 1) rfl dL_has_70 ?_
      refine cg_goto C 75 (by decide) dL_has_71 ?_
      refine cg_cast (.int (bI true)) rfl ?_
      exact cg_zret C (bI_nar _) h dL_has_75 (by decide) (by decide)
    · have h := h.2 c_
      refine cg_iload C 0 rfl dL_has_59 ?_
      refine cg_if_ne C 74 (by decide) dL_has_61 (fun c_ => ?_) (fun c_ => ?_)
      · have h := h.1 c_
        refine cg_iconst C (x := nI 0) rfl dL_has_74 ?_
        refine cg_cast (.int (bI false)) rfl ?_
        exact cg_zret C (bI_nar _) h dL_has_75 (by decide) (by decide)
      · have h := h.2 c_
        refine cg_iload C 1 rfl dL_has_64 ?_
        refine cg_iconst C (x := nI 2) rfl dL_has_66 ?_
        refine cg_icmp_ne C 74 (by decide) dL_has_67 (fun c_ => ?_) (fun c_ => ?_)
        · have h := h.1 c_
          refine cg_iconst C (x := nI 0) rfl dL_has_74 ?_
          refine cg_cast (.int (bI false)) rfl ?_
          exact cg_zret C (bI_nar _) h dL_has_75 (by decide) (by decide)
        · have h := h.2 c_
          refine cg_iconst C (x := nI 1) rfl dL_has_70 ?_
          refine cg_goto C 75 (by decide) dL_has_71 ?_
          refine cg_cast (.int (bI true)) rfl ?_
          exact cg_zret C (bI_nar _) h dL_has_75 (by decide) (by decide)
set_option maxRecDepth 20000 in
theorem tb_L_has_44 (C : cC p s m args meth c cL_has 7 (some .boolean) A D Y tp dp RL) {post : Int32 → cS → Prop}   (x4 : Int32) (S : cS) (h : k_L_has_44 post dp  x4 S) : cG p l e (cRm 1 0 0 23) s m args below meth c A D Y 7 (MQ below (cQi post D Y A) args s 0 0 A) 0 0 44 [(4, .int x4)] [] S := by
  unfold k_L_has_44 at h
  refine cg_iconst C (x := (-1)) rfl dL_has_44 ?_
  exact cg_sub [0] rfl (tb_L_has_45 C   x4 (((-1))) S h)
end S_L_has
set_option maxHeartbeats 1000000 in
set_option maxRecDepth 20000 in
theorem t_L_has (l : Launch) (x0 : Int64) (x2 : Int32) (x3 : Int32) (x4 : Int32) (S : cS) (dp : Nat) {P : Int32 → cS → Prop} (h : k_L_has P dp x0 x2 x3 x4 S) : cMet (cQi P) l yL_has cL_has 7 (some .boolean) 1 0 0 23 [.long x0, .int x2, .int x3, .int x4] S dp := by
  intro D Y tp sz
  refine cg_body (by decide +kernel) (Nat.le_of_ble_eq_true rfl) ?_
  intro p e s m args below meth c C
  generalize va_A (cWd Y S) sz = A at C ⊢
  have C : cC p s m args meth c cL_has 7 (some .boolean) A D Y tp dp RL := C
  refine cg_lv (lv' := [(0, .long x0), (2, .int x2), (3, .int x3), (4, .int x4)]) rfl ?_
  unfold k_L_has at h
  refine cg_lload_n C (i := 0) rfl 0 rfl dL_has_0 ?_
  refine cg_iload_n C (i := 2) rfl 1 rfl dL_has_1 ?_
  refine cg_iload_n C (i := 3) rfl 2 rfl dL_has_2 ?_
  refine cg_callsi C (t_L_word l x0 x2 x3 S dp h) cc_L_11 rfl ⟨by decide, by decide⟩ ⟨by decide, by decide⟩ rfl (Nat.le_of_ble_eq_true rfl) dL_has_3 (fun r_1 S_1 h => ?_)
  refine cg_istore C (lv' := [(5, .int r_1), (0, .long x0), (2, .int x2), (3, .int x3), (4, .int x4)]) (Nat.le_of_ble_eq_true rfl) rfl dL_has_6 ?_
  refine cg_iload C 0 rfl dL_has_8 ?_
  refine cg_iconst C (x := nI 1) rfl dL_has_10 ?_
  refine cg_icmp_eq C 20 (by decide) dL_has_11 (fun c_ => ?_) (fun c_ => ?_)
  · have h := h.1 c_
    refine cg_iconst C (x := nI 0) rfl dL_has_20 ?_
    refine cg_goto C 45 (by decide) dL_has_21 ?_
    exact cg_sub [4] rfl (tb_L_has_45 C   x4 ((nI 0)) S_1 h)
  · have h := h.2 c_
    refine cg_iload C 0 rfl dL_has_14 ?_
    refine cg_iconst C (x := nI 2) rfl dL_has_16 ?_
    refine cg_icmp_ne C 24 (by decide) dL_has_17 (fun c_ => ?_) (fun c_ => ?_)
    · have h := h.1 c_
      refine cg_iload C 0 rfl dL_has_24 ?_
      refine cg_iconst C (x := nI 2) rfl dL_has_26 ?_
      refine cg_icmp_le C 44 (by decide) dL_has_27 (fun c_ => ?_) (fun c_ => ?_)
      · have h := h.1 c_
        exact cg_sub [4] rfl (tb_L_has_44 C   x4 S_1 h)
      · have h := h.2 c_
        refine cg_iload C 0 rfl dL_has_30 ?_
        refine cg_bipush C (x := nI 7) rfl dL_has_32 ?_
        refine cg_icmp_ge C 44 (by decide) dL_has_34 (fun c_ => ?_) (fun c_ => ?_)
        · have h := h.1 c_
          exact cg_sub [4] rfl (tb_L_has_44 C   x4 S_1 h)
        · have h := h.2 c_
          refine cg_iload C 0 rfl dL_has_37 ?_
          refine cg_iconst C (x := nI 2) rfl dL_has_39 ?_
          refine cg_isub C dL_has_40 ?_
          refine cg_goto C 45 (by decide) dL_has_41 ?_
          exact cg_sub [4] rfl (tb_L_has_45 C   x4 ((r_1 - ((nI 2)))) S_1 h)
    · have h := h.2 c_
      refine cg_iconst C (x := nI 0) rfl dL_has_20 ?_
      refine cg_goto C 45 (by decide) dL_has_21 ?_
      exact cg_sub [4] rfl (tb_L_has_45 C   x4 ((nI 0)) S_1 h)
section S_L_count
variable {p : Program} {l : Launch} {e : Env} {s : State} {m : MethodId} {args : Array Value} {below : List Frame} {meth : Method} {c : Code} {A : Nat → Prop} {D : va_G} {Y : cY} {tp dp : Nat}
set_option maxRecDepth 20000 in
theorem tb_L_count_30 (C : cC p s m args meth c cL_count 6 (some .int) A D Y tp dp RL) {post : Int32 → cS → Prop} {R6 : Int64 → Int32 → Int32 → Int32 → Int32 → cS → Prop} (hR6 : ∀ (x0 : Int64) (x2 : Int32) (x3 : Int32) (x4 : Int32) (x5 : Int32) (S : cS), R6 x0 x2 x3 x4 x5 S → cG p l e (cRm 2 0 0 49) s m args below meth c A D Y 6 (MQ below (cQi post D Y A) args s 0 0 A) 0 0 6 [(0, .long x0), (2, .int x2), (3, .int x3), (4, .int x4), (5, .int x5)] [] S) (x0 : Int64) (x2 : Int32) (x3 : Int32) (x5 : Int32) (t0 : Int32) (t1 : Int32) (S : cS) (h : k_L_count_30 post dp R6 x0 x2 x3 x5 t0 t1 S) : cG p l e (cRm 2 0 0 49) s m args below meth c A D Y 6 (MQ below (cQi post D Y A) args s 0 0 A) 0 0 30 [(0, .long x0), (2, .int x2), (3, .int x3), (5, .int x5)] [.int t0, .int t1] S := by
  unfold k_L_count_30 at h
  refine cg_iadd C dL_count_30 ?_
  refine cg_nmI (fun x4_2 e_x4_2 => ?_)
  have h := h x4_2 e_x4_2
  refine cg_istore C (lv' := [(4, .int x4_2), (0, .long x0), (2, .int x2), (3, .int x3), (5, .int x5)]) (Nat.le_of_ble_eq_true rfl) rfl dL_count_31 ?_
  obtain ⟨x5_3, e_x5_3⟩ : ∃ z : Int32, z = x5 + nI 1 := ⟨_, rfl⟩
  have h := h x5_3 e_x5_3
  refine cg_iinc C (lv' := [(5, .int x5_3), (4, .int x4_2), (0, .long x0), (2, .int x2), (3, .int x3)]) 4 rfl (by rw [e_x5_3]; rfl) (Nat.le_of_ble_eq_true rfl) rfl dL_count_33 ?_
  refine cg_goto C 6 (by decide) dL_count_36 ?_
  exact cg_sub [2, 3, 4, 1, 0] rfl (hR6 x0 x2 x3 x4_2 x5_3 S h)
set_option maxRecDepth 20000 in
theorem tb_L_count_6 (C : cC p s m args meth c cL_count 6 (some .int) A D Y tp dp RL) {post : Int32 → cS → Prop} {R6 : Int64 → Int32 → Int32 → Int32 → Int32 → cS → Prop} (hR6 : ∀ (x0 : Int64) (x2 : Int32) (x3 : Int32) (x4 : Int32) (x5 : Int32) (S : cS), R6 x0 x2 x3 x4 x5 S → cG p l e (cRm 2 0 0 49) s m args below meth c A D Y 6 (MQ below (cQi post D Y A) args s 0 0 A) 0 0 6 [(0, .long x0), (2, .int x2), (3, .int x3), (4, .int x4), (5, .int x5)] [] S) (x0 : Int64) (x2 : Int32) (x3 : Int32) (x4 : Int32) (x5 : Int32) (S : cS) (h : k_L_count_6 post dp R6 x0 x2 x3 x4 x5 S) : cG p l e (cRm 2 0 0 49) s m args below meth c A D Y 6 (MQ below (cQi post D Y A) args s 0 0 A) 0 0 6 [(0, .long x0), (2, .int x2), (3, .int x3), (4, .int x4), (5, .int x5)] [] S := by
  unfold k_L_count_6 at h
  refine cg_iload C 4 rfl dL_count_6 ?_
  refine cg_iconst C (x := nI 5) rfl dL_count_8 ?_
  refine cg_icmp_ge C 39 (by decide) dL_count_9 (fun c_ => ?_) (fun c_ => ?_)
  · have h := h.1 c_
    refine cg_iload C 3 rfl dL_count_39 ?_
    exact cg_iret C h dL_count_41 (by decide) (by decide)
  · have h := h.2 c_
    refine cg_iload C 3 rfl dL_count_12 ?_
    refine cg_lload_n C (i := 0) rfl 0 rfl dL_count_14 ?_
    refine cg_iload_n C (i := 2) rfl 1 rfl dL_count_15 ?_
    refine cg_iload C 4 rfl dL_count_16 ?_
    refine cg_iload_n C (i := 3) rfl 2 rfl dL_count_18 ?_
    refine cg_callsi C (t_L_has l x0 x2 x5 x3 S dp h) cc_L_17 rfl ⟨by decide, by decide⟩ ⟨by decide, by decide⟩ rfl (Nat.le_of_ble_eq_true rfl) dL_count_19 (fun r_1 S_1 h => ?_)
    refine cg_if_eq C 29 (by decide) dL_count_22 (fun c_ => ?_) (fun c_ => ?_)
    · have h := h.1 c_
      refine cg_iconst C (x := nI 0) rfl dL_count_29 ?_
      exact cg_sub [0, 1, 2, 4] rfl (tb_L_count_30 C  hR6 x0 x2 x3 x5 ((nI 0)) x4 S_1 h)
    · have h := h.2 c_
      refine cg_iconst C (x := nI 1) rfl dL_count_25 ?_
      refine cg_goto C 30 (by decide) dL_count_26 ?_
      exact cg_sub [0, 1, 2, 4] rfl (tb_L_count_30 C  hR6 x0 x2 x3 x5 ((nI 1)) x4 S_1 h)
set_option maxRecDepth 20000 in
theorem tl_L_count_6 (C : cC p s m args meth c cL_count 6 (some .int) A D Y tp dp RL) {post : Int32 → cS → Prop}   (x0 : Int64) (x2 : Int32) (x3 : Int32) (x4 : Int32) (x5 : Int32) (S : cS) (h : k_L_count_6L post dp  x0 x2 x3 x4 x5 S) : cG p l e (cRm 2 0 0 49) s m args below meth c A D Y 6 (MQ below (cQi post D Y A) args s 0 0 A) 0 0 6 [(0, .long x0), (2, .int x2), (3, .int x3), (4, .int x4), (5, .int x5)] [] S :=
  h (fun y => cG p l e (cRm 2 0 0 49) s m args below meth c A D Y 6 (MQ below (cQi post D Y A) args s 0 0 A) 0 0 6 [(0, .long (y.1)), (2, .int (y.2.1)), (3, .int (y.2.2.1)), (4, .int (y.2.2.2.1)), (5, .int (y.2.2.2.2.1))] [] (y.2.2.2.2.2)) (fun y hy => tb_L_count_6 C   (fun b0 b1 b2 b3 b4 S z => z) (y.1) (y.2.1) (y.2.2.1) (y.2.2.2.1) (y.2.2.2.2.1) (y.2.2.2.2.2) hy)
end S_L_count
set_option maxHeartbeats 1000000 in
set_option maxRecDepth 20000 in
theorem t_L_count (l : Launch) (x0 : Int64) (x2 : Int32) (x3 : Int32) (S : cS) (dp : Nat) {P : Int32 → cS → Prop} (h : k_L_count P dp x0 x2 x3 S) : cMet (cQi P) l yL_count cL_count 6 (some .int) 2 0 0 49 [.long x0, .int x2, .int x3] S dp := by
  intro D Y tp sz
  refine cg_body (by decide +kernel) (Nat.le_of_ble_eq_true rfl) ?_
  intro p e s m args below meth c C
  generalize va_A (cWd Y S) sz = A at C ⊢
  have C : cC p s m args meth c cL_count 6 (some .int) A D Y tp dp RL := C
  refine cg_lv (lv' := [(0, .long x0), (2, .int x2), (3, .int x3)]) rfl ?_
  unfold k_L_count at h
  refine cg_iconst C (x := nI 0) rfl dL_count_0 ?_
  refine cg_istore C (lv' := [(4, .int ((nI 0))), (0, .long x0), (2, .int x2), (3, .int x3)]) (Nat.le_of_ble_eq_true rfl) rfl dL_count_1 ?_
  refine cg_iconst C (x := nI 0) rfl dL_count_3 ?_
  refine cg_istore C (lv' := [(5, .int ((nI 0))), (4, .int ((nI 0))), (0, .long x0), (2, .int x2), (3, .int x3)]) (Nat.le_of_ble_eq_true rfl) rfl dL_count_4 ?_
  exact cg_sub [2, 3, 4, 1, 0] rfl (tl_L_count_6 C   x0 x2 x3 (((nI 0))) (((nI 0))) S h)
set_option maxHeartbeats 1000000 in
set_option maxRecDepth 20000 in
theorem t_L_record (l : Launch) (x0 : Nat) (x1 : Int32) (x2 : Int32) (S : cS) (dp : Nat) {P : Int32 → cS → Prop} (h : k_L_record P dp x0 x1 x2 S) : cMet (cQi P) l yL_record cL_record 3 (some .int) 0 0 0 0 [.ref x0, .int x1, .int x2] S dp := by
  intro D Y tp sz
  refine cg_body (by decide +kernel) (Nat.le_of_ble_eq_true rfl) ?_
  intro p e s m args below meth c C
  generalize va_A (cWd Y S) sz = A at C ⊢
  have C : cC p s m args meth c cL_record 3 (some .int) A D Y tp dp RL := C
  refine cg_lv (lv' := [(0, .ref x0), (1, .int x1), (2, .int x2)]) rfl ?_
  unfold k_L_record at h
  refine cg_aload_n C (i := 0) rfl 0 rfl dL_record_0 ?_
  refine cg_iload_n C (i := 1) rfl 1 rfl dL_record_1 ?_
  obtain ⟨hc_2, h⟩ := h
  refine cg_laloadR C hc_2 dL_record_2 ?_
  refine cg_bipush C (x := nI 6) rfl dL_record_3 ?_
  refine cg_iload_n C (i := 2) rfl 2 rfl dL_record_5 ?_
  refine cg_imul C dL_record_6 ?_
  refine cg_lushr C dL_record_7 ?_
  refine cg_ldc2 C (x := 63) ck_L_21 dL_record_8 ?_
  refine cg_land C dL_record_11 ?_
  refine cg_l2i C dL_record_12 ?_
  exact cg_iret C h dL_record_13 (by decide) (by decide)
section S_L_leafCount
variable {p : Program} {l : Launch} {e : Env} {s : State} {m : MethodId} {args : Array Value} {below : List Frame} {meth : Method} {c : Code} {A : Nat → Prop} {D : va_G} {Y : cY} {tp dp : Nat}
set_option maxRecDepth 20000 in
theorem tb_L_leafCount_196 (C : cC p s m args meth c cL_leafCount 6 (some .int) A D Y tp dp RL) {post : Int32 → cS → Prop}   (x0 : Int64) (S : cS) (h : k_L_leafCount_196 post dp  x0 S) : cG p l e (cRm 3 0 0 74) s m args below meth c A D Y 6 (MQ below (cQi post D Y A) args s 0 0 A) 0 0 196 [(0, .long x0)] [] S := by
  unfold k_L_leafCount_196 at h
  refine cg_lload_n C (i := 0) rfl 0 rfl dL_leafCount_196 ?_
  refine cg_iconst C (x := nI 0) rfl dL_leafCount_197 ?_
  refine cg_iconst C (x := nI 0) rfl dL_leafCount_198 ?_
  refine cg_callsi C (t_L_count l x0 ((nI 0)) ((nI 0)) S dp h) cc_L_23 rfl ⟨by decide, by decide⟩ ⟨by decide, by decide⟩ rfl (Nat.le_of_ble_eq_true rfl) dL_leafCount_199 (fun r_1 S_1 h => ?_)
  refine cg_goto C 263 (by decide) dL_leafCount_202 ?_
  exact cg_iret C h dL_leafCount_263 (by decide) (by decide)
set_option maxRecDepth 20000 in
theorem tb_L_leafCount_260 (C : cC p s m args meth c cL_leafCount 6 (some .int) A D Y tp dp RL) {post : Int32 → cS → Prop}   (t0 : Int32) (t1 : Int32) (t2 : Int64) (S : cS) (h : k_L_leafCount_260 post dp  t0 t1 t2 S) : cG p l e (cRm 3 0 0 74) s m args below meth c A D Y 6 (MQ below (cQi post D Y A) args s 0 0 A) 0 0 260 [] [.int t0, .int t1, .long t2] S := by
  unfold k_L_leafCount_260 at h
  refine cg_callsi C (t_L_count l t2 t1 t0 S dp h) cc_L_23 rfl ⟨by decide, by decide⟩ ⟨by decide, by decide⟩ rfl (Nat.le_of_ble_eq_true rfl) dL_leafCount_260 (fun r_2 S_2 h => ?_)
  exact cg_iret C h dL_leafCount_263 (by decide) (by decide)
set_option maxRecDepth 20000 in
theorem tb_L_leafCount_176 (C : cC p s m args meth c cL_leafCount 6 (some .int) A D Y tp dp RL) {post : Int32 → cS → Prop} {R89 : Int64 → Int32 → Int32 → cS → Prop} (hR89 : ∀ (x0 : Int64) (x3 : Int32) (x4 : Int32) (S : cS), R89 x0 x3 x4 S → cG p l e (cRm 3 0 0 74) s m args below meth c A D Y 6 (MQ below (cQi post D Y A) args s 0 0 A) 0 0 89 [(0, .long x0), (3, .int x3), (4, .int x4)] [] S) (x0 : Int64) (x4 : Int32) (t0 : Int32) (t1 : Int32) (S : cS) (h : k_L_leafCount_176 post dp R89 x0 x4 t0 t1 S) : cG p l e (cRm 3 0 0 74) s m args below meth c A D Y 6 (MQ below (cQi post D Y A) args s 0 0 A) 0 0 176 [(0, .long x0), (4, .int x4)] [.int t0, .int t1] S := by
  unfold k_L_leafCount_176 at h
  refine cg_iadd C dL_leafCount_176 ?_
  refine cg_nmI (fun x3_8 e_x3_8 => ?_)
  have h := h x3_8 e_x3_8
  refine cg_istore_n C (i := 3) (lv' := [(3, .int x3_8), (0, .long x0), (4, .int x4)]) rfl (Nat.le_of_ble_eq_true rfl) rfl dL_leafCount_177 ?_
  obtain ⟨x4_9, e_x4_9⟩ : ∃ z : Int32, z = x4 + nI 1 := ⟨_, rfl⟩
  have h := h x4_9 e_x4_9
  refine cg_iinc C (lv' := [(4, .int x4_9), (3, .int x3_8), (0, .long x0)]) 2 rfl (by rw [e_x4_9]; rfl) (Nat.le_of_ble_eq_true rfl) rfl dL_leafCount_178 ?_
  refine cg_goto C 89 (by decide) dL_leafCount_181 ?_
  exact cg_sub [2, 1, 0] rfl (hR89 x0 x3_8 x4_9 S h)
set_option maxRecDepth 20000 in
theorem tb_L_leafCount_175 (C : cC p s m args meth c cL_leafCount 6 (some .int) A D Y tp dp RL) {post : Int32 → cS → Prop} {R89 : Int64 → Int32 → Int32 → cS → Prop} (hR89 : ∀ (x0 : Int64) (x3 : Int32) (x4 : Int32) (S : cS), R89 x0 x3 x4 S → cG p l e (cRm 3 0 0 74) s m args below meth c A D Y 6 (MQ below (cQi post D Y A) args s 0 0 A) 0 0 89 [(0, .long x0), (3, .int x3), (4, .int x4)] [] S) (x0 : Int64) (x4 : Int32) (t0 : Int32) (S : cS) (h : k_L_leafCount_175 post dp R89 x0 x4 t0 S) : cG p l e (cRm 3 0 0 74) s m args below meth c A D Y 6 (MQ below (cQi post D Y A) args s 0 0 A) 0 0 175 [(0, .long x0), (4, .int x4)] [.int t0] S := by
  unfold k_L_leafCount_175 at h
  refine cg_iconst C (x := nI 0) rfl dL_leafCount_175 ?_
  exact cg_sub [0, 1] rfl (tb_L_leafCount_176 C  hR89 x0 x4 ((nI 0)) t0 S h)
set_option maxRecDepth 20000 in
theorem tb_L_leafCount_152 (C : cC p s m args meth c cL_leafCount 6 (some .int) A D Y tp dp RL) {post : Int32 → cS → Prop} {R89 : Int64 → Int32 → Int32 → cS → Prop} (hR89 : ∀ (x0 : Int64) (x3 : Int32) (x4 : Int32) (S : cS), R89 x0 x3 x4 S → cG p l e (cRm 3 0 0 74) s m args below meth c A D Y 6 (MQ below (cQi post D Y A) args s 0 0 A) 0 0 89 [(0, .long x0), (3, .int x3), (4, .int x4)] [] S) (x0 : Int64) (x3 : Int32) (x4 : Int32) (t0 : Int32) (S : cS) (h : k_L_leafCount_152 post dp R89 x0 x3 x4 t0 S) : cG p l e (cRm 3 0 0 74) s m args below meth c A D Y 6 (MQ below (cQi post D Y A) args s 0 0 A) 0 0 152 [(0, .long x0), (3, .int x3), (4, .int x4)] [.int t0] S := by
  unfold k_L_leafCount_152 at h
  refine cg_istore C (lv' := [(5, .int t0), (0, .long x0), (3, .int x3), (4, .int x4)]) (Nat.le_of_ble_eq_true rfl) rfl dL_leafCount_152 ?_
  refine cg_iload_n C (i := 3) rfl 2 rfl dL_leafCount_154 ?_
  refine cg_lload_n C (i := 0) rfl 1 rfl dL_leafCount_155 ?_
  refine cg_iconst C (x := nI 0) rfl dL_leafCount_156 ?_
  refine cg_iload C 3 rfl dL_leafCount_157 ?_
  refine cg_iconst C (x := nI 0) rfl dL_leafCount_159 ?_
  refine cg_callsi C (t_L_has l x0 ((nI 0)) x4 ((nI 0)) S dp h) cc_L_17 rfl ⟨by decide, by decide⟩ ⟨by decide, by decide⟩ rfl (Nat.le_of_ble_eq_true rfl) dL_leafCount_160 (fun r_7 S_7 h => ?_)
  refine cg_if_eq C 175 (by decide) dL_leafCount_163 (fun c_ => ?_) (fun c_ => ?_)
  · have h := h.1 c_
    exact cg_sub [1, 3] rfl (tb_L_leafCount_175 C  hR89 x0 x4 x3 S_7 h)
  · have h := h.2 c_
    refine cg_iload C 0 rfl dL_leafCount_166 ?_
    refine cg_if_eq C 175 (by decide) dL_leafCount_168 (fun c_ => ?_) (fun c_ => ?_)
    · have h := h.1 c_
      exact cg_sub [1, 3] rfl (tb_L_leafCount_175 C  hR89 x0 x4 x3 S_7 h)
    · have h := h.2 c_
      refine cg_iconst C (x := nI 1) rfl dL_leafCount_171 ?_
      refine cg_goto C 176 (by decide) dL_leafCount_172 ?_
      exact cg_sub [1, 3] rfl (tb_L_leafCount_176 C  hR89 x0 x4 ((nI 1)) x3 S_7 h)
set_option maxRecDepth 20000 in
theorem tb_L_leafCount_89 (C : cC p s m args meth c cL_leafCount 6 (some .int) A D Y tp dp RL) {post : Int32 → cS → Prop} {R89 : Int64 → Int32 → Int32 → cS → Prop} (hR89 : ∀ (x0 : Int64) (x3 : Int32) (x4 : Int32) (S : cS), R89 x0 x3 x4 S → cG p l e (cRm 3 0 0 74) s m args below meth c A D Y 6 (MQ below (cQi post D Y A) args s 0 0 A) 0 0 89 [(0, .long x0), (3, .int x3), (4, .int x4)] [] S) (x0 : Int64) (x3 : Int32) (x4 : Int32) (S : cS) (h : k_L_leafCount_89 post dp R89 x0 x3 x4 S) : cG p l e (cRm 3 0 0 74) s m args below meth c A D Y 6 (MQ below (cQi post D Y A) args s 0 0 A) 0 0 89 [(0, .long x0), (3, .int x3), (4, .int x4)] [] S := by
  unfold k_L_leafCount_89 at h
  refine cg_iload C 2 rfl dL_leafCount_89 ?_
  refine cg_iconst C (x := nI 5) rfl dL_leafCount_91 ?_
  refine cg_icmp_ge C 184 (by decide) dL_leafCount_92 (fun c_ => ?_) (fun c_ => ?_)
  · have h := h.1 c_
    refine cg_iload_n C (i := 3) rfl 1 rfl dL_leafCount_184 ?_
    exact cg_iret C h dL_leafCount_185 (by decide) (by decide)
  · have h := h.2 c_
    refine cg_lload_n C (i := 0) rfl 0 rfl dL_leafCount_95 ?_
    refine cg_iconst C (x := nI 0) rfl dL_leafCount_96 ?_
    refine cg_iload C 2 rfl dL_leafCount_97 ?_
    refine cg_iconst C (x := nI 2) rfl dL_leafCount_99 ?_
    refine cg_isub C dL_leafCount_100 ?_
    refine cg_iconst C (x := nI 3) rfl dL_leafCount_101 ?_
    refine cg_callsi C (t_L_has l x0 ((nI 0)) ((x4 - ((nI 2)))) ((nI 3)) S dp h) cc_L_17 rfl ⟨by decide, by decide⟩ ⟨by decide, by decide⟩ rfl (Nat.le_of_ble_eq_true rfl) dL_leafCount_102 (fun r_6 S_6 h => ?_)
    refine cg_if_ne C 147 (by decide) dL_leafCount_105 (fun c_ => ?_) (fun c_ => ?_)
    · have h := h.1 c_
      refine cg_iconst C (x := nI 1) rfl dL_leafCount_147 ?_
      refine cg_goto C 152 (by decide) dL_leafCount_148 ?_
      exact cg_sub [0, 1, 2] rfl (tb_L_leafCount_152 C  hR89 x0 x3 x4 ((nI 1)) S_6 h)
    · have h := h.2 c_
      refine cg_lload_n C (i := 0) rfl 0 rfl dL_leafCount_108 ?_
      refine cg_iconst C (x := nI 0) rfl dL_leafCount_109 ?_
      refine cg_iload C 2 rfl dL_leafCount_110 ?_
      refine cg_iconst C (x := nI 1) rfl dL_leafCount_112 ?_
      refine cg_isub C dL_leafCount_113 ?_
      refine cg_iconst C (x := nI 3) rfl dL_leafCount_114 ?_
      refine cg_callsi C (t_L_has l x0 ((nI 0)) ((x4 - ((nI 1)))) ((nI 3)) S_6 dp h) cc_L_17 rfl ⟨by decide, by decide⟩ ⟨by decide, by decide⟩ rfl (Nat.le_of_ble_eq_true rfl) dL_leafCount_115 (fun r_10 S_10 h => ?_)
      refine cg_if_ne C 147 (by decide) dL_leafCount_118 (fun c_ => ?_) (fun c_ => ?_)
      · have h := h.1 c_
        refine cg_iconst C (x := nI 1) rfl dL_leafCount_147 ?_
        refine cg_goto C 152 (by decide) dL_leafCount_148 ?_
        exact cg_sub [0, 1, 2] rfl (tb_L_leafCount_152 C  hR89 x0 x3 x4 ((nI 1)) S_10 h)
      · have h := h.2 c_
        refine cg_lload_n C (i := 0) rfl 0 rfl dL_leafCount_121 ?_
        refine cg_iconst C (x := nI 0) rfl dL_leafCount_122 ?_
        refine cg_iload C 2 rfl dL_leafCount_123 ?_
        refine cg_iconst C (x := nI 1) rfl dL_leafCount_125 ?_
        refine cg_iadd C dL_leafCount_126 ?_
        refine cg_iconst C (x := nI 3) rfl dL_leafCount_127 ?_
        refine cg_callsi C (t_L_has l x0 ((nI 0)) ((x4 + ((nI 1)))) ((nI 3)) S_10 dp h) cc_L_17 rfl ⟨by decide, by decide⟩ ⟨by decide, by decide⟩ rfl (Nat.le_of_ble_eq_true rfl) dL_leafCount_128 (fun r_11 S_11 h => ?_)
        refine cg_if_ne C 147 (by decide) dL_leafCount_131 (fun c_ => ?_) (fun c_ => ?_)
        · have h := h.1 c_
          refine cg_iconst C (x := nI 1) rfl dL_leafCount_147 ?_
          refine cg_goto C 152 (by decide) dL_leafCount_148 ?_
          exact cg_sub [0, 1, 2] rfl (tb_L_leafCount_152 C  hR89 x0 x3 x4 ((nI 1)) S_11 h)
        · have h := h.2 c_
          refine cg_lload_n C (i := 0) rfl 0 rfl dL_leafCount_134 ?_
          refine cg_iconst C (x := nI 0) rfl dL_leafCount_135 ?_
          refine cg_iload C 2 rfl dL_leafCount_136 ?_
          refine cg_iconst C (x := nI 2) rfl dL_leafCount_138 ?_
          refine cg_iadd C dL_leafCount_139 ?_
          refine cg_iconst C (x := nI 3) rfl dL_leafCount_140 ?_
          refine cg_callsi C (t_L_has l x0 ((nI 0)) ((x4 + ((nI 2)))) ((nI 3)) S_11 dp h) cc_L_17 rfl ⟨by decide, by decide⟩ ⟨by decide, by decide⟩ rfl (Nat.le_of_ble_eq_true rfl) dL_leafCount_141 (fun r_12 S_12 h => ?_)
          refine cg_if_eq C 151 (by decide) dL_leafCount_144 (fun c_ => ?_) (fun c_ => ?_)
          · have h := h.1 c_
            refine cg_iconst C (x := nI 0) rfl dL_leafCount_151 ?_
            exact cg_sub [0, 1, 2] rfl (tb_L_leafCount_152 C  hR89 x0 x3 x4 ((nI 0)) S_12 h)
          · have h := h.2 c_
            refine cg_iconst C (x := nI 1) rfl dL_leafCount_147 ?_
            refine cg_goto C 152 (by decide) dL_leafCount_148 ?_
            exact cg_sub [0, 1, 2] rfl (tb_L_leafCount_152 C  hR89 x0 x3 x4 ((nI 1)) S_12 h)
set_option maxRecDepth 20000 in
theorem tl_L_leafCount_89 (C : cC p s m args meth c cL_leafCount 6 (some .int) A D Y tp dp RL) {post : Int32 → cS → Prop}   (x0 : Int64) (x3 : Int32) (x4 : Int32) (S : cS) (h : k_L_leafCount_89L post dp  x0 x3 x4 S) : cG p l e (cRm 3 0 0 74) s m args below meth c A D Y 6 (MQ below (cQi post D Y A) args s 0 0 A) 0 0 89 [(0, .long x0), (3, .int x3), (4, .int x4)] [] S :=
  h (fun y => cG p l e (cRm 3 0 0 74) s m args below meth c A D Y 6 (MQ below (cQi post D Y A) args s 0 0 A) 0 0 89 [(0, .long (y.1)), (3, .int (y.2.1)), (4, .int (y.2.2.1))] [] (y.2.2.2)) (fun y hy => tb_L_leafCount_89 C   (fun b0 b1 b2 S z => z) (y.1) (y.2.1) (y.2.2.1) (y.2.2.2) hy)
set_option maxRecDepth 20000 in
theorem tb_L_leafCount_71 (C : cC p s m args meth c cL_leafCount 6 (some .int) A D Y tp dp RL) {post : Int32 → cS → Prop} {R10 : Int64 → Int32 → Int32 → cS → Prop} (hR10 : ∀ (x0 : Int64) (x3 : Int32) (x4 : Int32) (S : cS), R10 x0 x3 x4 S → cG p l e (cRm 3 0 0 74) s m args below meth c A D Y 6 (MQ below (cQi post D Y A) args s 0 0 A) 0 0 10 [(0, .long x0), (3, .int x3), (4, .int x4)] [] S) (x0 : Int64) (x4 : Int32) (t0 : Int32) (t1 : Int32) (S : cS) (h : k_L_leafCount_71 post dp R10 x0 x4 t0 t1 S) : cG p l e (cRm 3 0 0 74) s m args below meth c A D Y 6 (MQ below (cQi post D Y A) args s 0 0 A) 0 0 71 [(0, .long x0), (4, .int x4)] [.int t0, .int t1] S := by
  unfold k_L_leafCount_71 at h
  refine cg_iadd C dL_leafCount_71 ?_
  refine cg_nmI (fun x3_15 e_x3_15 => ?_)
  have h := h x3_15 e_x3_15
  refine cg_istore_n C (i := 3) (lv' := [(3, .int x3_15), (0, .long x0), (4, .int x4)]) rfl (Nat.le_of_ble_eq_true rfl) rfl dL_leafCount_72 ?_
  obtain ⟨x4_16, e_x4_16⟩ : ∃ z : Int32, z = x4 + nI 1 := ⟨_, rfl⟩
  have h := h x4_16 e_x4_16
  refine cg_iinc C (lv' := [(4, .int x4_16), (3, .int x3_15), (0, .long x0)]) 2 rfl (by rw [e_x4_16]; rfl) (Nat.le_of_ble_eq_true rfl) rfl dL_leafCount_73 ?_
  refine cg_goto C 10 (by decide) dL_leafCount_76 ?_
  exact cg_sub [2, 1, 0] rfl (hR10 x0 x3_15 x4_16 S h)
set_option maxRecDepth 20000 in
theorem tb_L_leafCount_70 (C : cC p s m args meth c cL_leafCount 6 (some .int) A D Y tp dp RL) {post : Int32 → cS → Prop} {R10 : Int64 → Int32 → Int32 → cS → Prop} (hR10 : ∀ (x0 : Int64) (x3 : Int32) (x4 : Int32) (S : cS), R10 x0 x3 x4 S → cG p l e (cRm 3 0 0 74) s m args below meth c A D Y 6 (MQ below (cQi post D Y A) args s 0 0 A) 0 0 10 [(0, .long x0), (3, .int x3), (4, .int x4)] [] S) (x0 : Int64) (x4 : Int32) (t0 : Int32) (S : cS) (h : k_L_leafCount_70 post dp R10 x0 x4 t0 S) : cG p l e (cRm 3 0 0 74) s m args below meth c A D Y 6 (MQ below (cQi post D Y A) args s 0 0 A) 0 0 70 [(0, .long x0), (4, .int x4)] [.int t0] S := by
  unfold k_L_leafCount_70 at h
  refine cg_iconst C (x := nI 0) rfl dL_leafCount_70 ?_
  exact cg_sub [0, 1] rfl (tb_L_leafCount_71 C  hR10 x0 x4 ((nI 0)) t0 S h)
set_option maxRecDepth 20000 in
theorem tb_L_leafCount_47 (C : cC p s m args meth c cL_leafCount 6 (some .int) A D Y tp dp RL) {post : Int32 → cS → Prop} {R10 : Int64 → Int32 → Int32 → cS → Prop} (hR10 : ∀ (x0 : Int64) (x3 : Int32) (x4 : Int32) (S : cS), R10 x0 x3 x4 S → cG p l e (cRm 3 0 0 74) s m args below meth c A D Y 6 (MQ below (cQi post D Y A) args s 0 0 A) 0 0 10 [(0, .long x0), (3, .int x3), (4, .int x4)] [] S) (x0 : Int64) (x3 : Int32) (x4 : Int32) (t0 : Int32) (S : cS) (h : k_L_leafCount_47 post dp R10 x0 x3 x4 t0 S) : cG p l e (cRm 3 0 0 74) s m args below meth c A D Y 6 (MQ below (cQi post D Y A) args s 0 0 A) 0 0 47 [(0, .long x0), (3, .int x3), (4, .int x4)] [.int t0] S := by
  unfold k_L_leafCount_47 at h
  refine cg_istore C (lv' := [(5, .int t0), (0, .long x0), (3, .int x3), (4, .int x4)]) (Nat.le_of_ble_eq_true rfl) rfl dL_leafCount_47 ?_
  refine cg_iload_n C (i := 3) rfl 2 rfl dL_leafCount_49 ?_
  refine cg_lload_n C (i := 0) rfl 1 rfl dL_leafCount_50 ?_
  refine cg_iconst C (x := nI 0) rfl dL_leafCount_51 ?_
  refine cg_iload C 3 rfl dL_leafCount_52 ?_
  refine cg_iconst C (x := nI 0) rfl dL_leafCount_54 ?_
  refine cg_callsi C (t_L_has l x0 ((nI 0)) x4 ((nI 0)) S dp h) cc_L_17 rfl ⟨by decide, by decide⟩ ⟨by decide, by decide⟩ rfl (Nat.le_of_ble_eq_true rfl) dL_leafCount_55 (fun r_14 S_14 h => ?_)
  refine cg_if_eq C 70 (by decide) dL_leafCount_58 (fun c_ => ?_) (fun c_ => ?_)
  · have h := h.1 c_
    exact cg_sub [1, 3] rfl (tb_L_leafCount_70 C  hR10 x0 x4 x3 S_14 h)
  · have h := h.2 c_
    refine cg_iload C 0 rfl dL_leafCount_61 ?_
    refine cg_if_eq C 70 (by decide) dL_leafCount_63 (fun c_ => ?_) (fun c_ => ?_)
    · have h := h.1 c_
      exact cg_sub [1, 3] rfl (tb_L_leafCount_70 C  hR10 x0 x4 x3 S_14 h)
    · have h := h.2 c_
      refine cg_iconst C (x := nI 1) rfl dL_leafCount_66 ?_
      refine cg_goto C 71 (by decide) dL_leafCount_67 ?_
      exact cg_sub [1, 3] rfl (tb_L_leafCount_71 C  hR10 x0 x4 ((nI 1)) x3 S_14 h)
set_option maxRecDepth 20000 in
theorem tb_L_leafCount_10 (C : cC p s m args meth c cL_leafCount 6 (some .int) A D Y tp dp RL) {post : Int32 → cS → Prop} {R10 : Int64 → Int32 → Int32 → cS → Prop} (hR10 : ∀ (x0 : Int64) (x3 : Int32) (x4 : Int32) (S : cS), R10 x0 x3 x4 S → cG p l e (cRm 3 0 0 74) s m args below meth c A D Y 6 (MQ below (cQi post D Y A) args s 0 0 A) 0 0 10 [(0, .long x0), (3, .int x3), (4, .int x4)] [] S) (x0 : Int64) (x3 : Int32) (x4 : Int32) (S : cS) (h : k_L_leafCount_10 post dp R10 x0 x3 x4 S) : cG p l e (cRm 3 0 0 74) s m args below meth c A D Y 6 (MQ below (cQi post D Y A) args s 0 0 A) 0 0 10 [(0, .long x0), (3, .int x3), (4, .int x4)] [] S := by
  unfold k_L_leafCount_10 at h
  refine cg_iload C 2 rfl dL_leafCount_10 ?_
  refine cg_iconst C (x := nI 5) rfl dL_leafCount_12 ?_
  refine cg_icmp_ge C 79 (by decide) dL_leafCount_13 (fun c_ => ?_) (fun c_ => ?_)
  · have h := h.1 c_
    refine cg_iload_n C (i := 3) rfl 1 rfl dL_leafCount_79 ?_
    exact cg_iret C h dL_leafCount_80 (by decide) (by decide)
  · have h := h.2 c_
    refine cg_lload_n C (i := 0) rfl 0 rfl dL_leafCount_16 ?_
    refine cg_iconst C (x := nI 0) rfl dL_leafCount_17 ?_
    refine cg_iload C 2 rfl dL_leafCount_18 ?_
    refine cg_iconst C (x := nI 2) rfl dL_leafCount_20 ?_
    refine cg_iadd C dL_leafCount_21 ?_
    refine cg_iconst C (x := nI 2) rfl dL_leafCount_22 ?_
    refine cg_callsi C (t_L_has l x0 ((nI 0)) ((x4 + ((nI 2)))) ((nI 2)) S dp h) cc_L_17 rfl ⟨by decide, by decide⟩ ⟨by decide, by decide⟩ rfl (Nat.le_of_ble_eq_true rfl) dL_leafCount_23 (fun r_13 S_13 h => ?_)
    refine cg_if_ne C 42 (by decide) dL_leafCount_26 (fun c_ => ?_) (fun c_ => ?_)
    · have h := h.1 c_
      refine cg_iconst C (x := nI 1) rfl dL_leafCount_42 ?_
      refine cg_goto C 47 (by decide) dL_leafCount_43 ?_
      exact cg_sub [0, 1, 2] rfl (tb_L_leafCount_47 C  hR10 x0 x3 x4 ((nI 1)) S_13 h)
    · have h := h.2 c_
      refine cg_lload_n C (i := 0) rfl 0 rfl dL_leafCount_29 ?_
      refine cg_iconst C (x := nI 0) rfl dL_leafCount_30 ?_
      refine cg_iload C 2 rfl dL_leafCount_31 ?_
      refine cg_iconst C (x := nI 3) rfl dL_leafCount_33 ?_
      refine cg_iadd C dL_leafCount_34 ?_
      refine cg_iconst C (x := nI 2) rfl dL_leafCount_35 ?_
      refine cg_callsi C (t_L_has l x0 ((nI 0)) ((x4 + ((nI 3)))) ((nI 2)) S_13 dp h) cc_L_17 rfl ⟨by decide, by decide⟩ ⟨by decide, by decide⟩ rfl (Nat.le_of_ble_eq_true rfl) dL_leafCount_36 (fun r_17 S_17 h => ?_)
      refine cg_if_eq C 46 (by decide) dL_leafCount_39 (fun c_ => ?_) (fun c_ => ?_)
      · have h := h.1 c_
        refine cg_iconst C (x := nI 0) rfl dL_leafCount_46 ?_
        exact cg_sub [0, 1, 2] rfl (tb_L_leafCount_47 C  hR10 x0 x3 x4 ((nI 0)) S_17 h)
      · have h := h.2 c_
        refine cg_iconst C (x := nI 1) rfl dL_leafCount_42 ?_
        refine cg_goto C 47 (by decide) dL_leafCount_43 ?_
        exact cg_sub [0, 1, 2] rfl (tb_L_leafCount_47 C  hR10 x0 x3 x4 ((nI 1)) S_17 h)
set_option maxRecDepth 20000 in
theorem tl_L_leafCount_10 (C : cC p s m args meth c cL_leafCount 6 (some .int) A D Y tp dp RL) {post : Int32 → cS → Prop}   (x0 : Int64) (x3 : Int32) (x4 : Int32) (S : cS) (h : k_L_leafCount_10L post dp  x0 x3 x4 S) : cG p l e (cRm 3 0 0 74) s m args below meth c A D Y 6 (MQ below (cQi post D Y A) args s 0 0 A) 0 0 10 [(0, .long x0), (3, .int x3), (4, .int x4)] [] S :=
  h (fun y => cG p l e (cRm 3 0 0 74) s m args below meth c A D Y 6 (MQ below (cQi post D Y A) args s 0 0 A) 0 0 10 [(0, .long (y.1)), (3, .int (y.2.1)), (4, .int (y.2.2.1))] [] (y.2.2.2)) (fun y hy => tb_L_leafCount_10 C   (fun b0 b1 b2 S z => z) (y.1) (y.2.1) (y.2.2.1) (y.2.2.2) hy)
end S_L_leafCount
set_option maxHeartbeats 1000000 in
set_option maxRecDepth 20000 in
theorem t_L_leafCount (l : Launch) (x0 : Int64) (x2 : Int32) (S : cS) (dp : Nat) {P : Int32 → cS → Prop} (h : k_L_leafCount P dp x0 x2 S) : cMet (cQi P) l yL_leafCount cL_leafCount 6 (some .int) 3 0 0 74 [.long x0, .int x2] S dp := by
  intro D Y tp sz
  refine cg_body (by decide +kernel) (Nat.le_of_ble_eq_true rfl) ?_
  intro p e s m args below meth c C
  generalize va_A (cWd Y S) sz = A at C ⊢
  have C : cC p s m args meth c cL_leafCount 6 (some .int) A D Y tp dp RL := C
  refine cg_lv (lv' := [(0, .long x0), (2, .int x2)]) rfl ?_
  unfold k_L_leafCount at h
  refine cg_iconst C (x := nI 0) rfl dL_leafCount_0 ?_
  refine cg_istore_n C (i := 3) (lv' := [(3, .int ((nI 0))), (0, .long x0), (2, .int x2)]) rfl (Nat.le_of_ble_eq_true rfl) rfl dL_leafCount_1 ?_
  refine cg_iload_n C (i := 2) rfl 2 rfl dL_leafCount_2 ?_
  refine cg_iconst C (x := nI 2) rfl dL_leafCount_3 ?_
  refine cg_icmp_ne C 81 (by decide) dL_leafCount_4 (fun c_ => ?_) (fun c_ => ?_)
  · have h := h.1 c_
    refine cg_iload_n C (i := 2) rfl 2 rfl dL_leafCount_81 ?_
    refine cg_iconst C (x := nI 3) rfl dL_leafCount_82 ?_
    refine cg_icmp_ne C 186 (by decide) dL_leafCount_83 (fun c_ => ?_) (fun c_ => ?_)
    · have h := h.1 c_
      refine cg_iload_n C (i := 2) rfl 2 rfl dL_leafCount_186 ?_
      refine cg_if_eq C 196 (by decide) dL_leafCount_187 (fun c_ => ?_) (fun c_ => ?_)
      · have h := h.1 c_
        exact cg_sub [1] rfl (tb_L_leafCount_196 C   x0 S h)
      · have h := h.2 c_
        refine cg_iload_n C (i := 2) rfl 2 rfl dL_leafCount_190 ?_
        refine cg_bipush C (x := nI 6) rfl dL_leafCount_191 ?_
        refine cg_icmp_ne C 205 (by decide) dL_leafCount_193 (fun c_ => ?_) (fun c_ => ?_)
        · have h := h.1 c_
          refine cg_iload_n C (i := 2) rfl 2 rfl dL_leafCount_205 ?_
          refine cg_iconst C (x := nI 1) rfl dL_leafCount_206 ?_
          refine cg_icmp_ne C 219 (by decide) dL_leafCount_207 (fun c_ => ?_) (fun c_ => ?_)
          · have h := h.1 c_
            refine cg_iload_n C (i := 2) rfl 2 rfl dL_leafCount_219 ?_
            refine cg_iconst C (x := nI 4) rfl dL_leafCount_220 ?_
            refine cg_icmp_ne C 233 (by decide) dL_leafCount_221 (fun c_ => ?_) (fun c_ => ?_)
            · have h := h.1 c_
              refine cg_iload_n C (i := 2) rfl 2 rfl dL_leafCount_233 ?_
              refine cg_iconst C (x := nI 5) rfl dL_leafCount_234 ?_
              refine cg_icmp_ne C 247 (by decide) dL_leafCount_235 (fun c_ => ?_) (fun c_ => ?_)
              · have h := h.1 c_
                refine cg_lload_n C (i := 0) rfl 1 rfl dL_leafCount_247 ?_
                refine cg_iconst C (x := nI 0) rfl dL_leafCount_248 ?_
                refine cg_iload_n C (i := 2) rfl 2 rfl dL_leafCount_249 ?_
                refine cg_bipush C (x := nI 7) rfl dL_leafCount_250 ?_
                refine cg_icmp_ne C 259 (by decide) dL_leafCount_252 (fun c_ => ?_) (fun c_ => ?_)
                · have h := h.1 c_
                  refine cg_iconst C (x := nI 4) rfl dL_leafCount_259 ?_
                  exact cg_sub [] rfl (tb_L_leafCount_260 C   ((nI 4)) ((nI 0)) x0 S h)
                · have h := h.2 c_
                  refine cg_iconst C (x := nI 3) rfl dL_leafCount_255 ?_
                  refine cg_goto C 260 (by decide) dL_leafCount_256 ?_
                  exact cg_sub [] rfl (tb_L_leafCount_260 C   ((nI 3)) ((nI 0)) x0 S h)
              · have h := h.2 c_
                refine cg_lload_n C (i := 0) rfl 1 rfl dL_leafCount_238 ?_
                refine cg_iconst C (x := nI 1) rfl dL_leafCount_239 ?_
                refine cg_iconst C (x := nI 4) rfl dL_leafCount_240 ?_
                refine cg_callsi C (t_L_count l x0 ((nI 1)) ((nI 4)) S dp h) cc_L_23 rfl ⟨by decide, by decide⟩ ⟨by decide, by decide⟩ rfl (Nat.le_of_ble_eq_true rfl) dL_leafCount_241 (fun r_3 S_3 h => ?_)
                refine cg_goto C 263 (by decide) dL_leafCount_244 ?_
                exact cg_iret C h dL_leafCount_263 (by decide) (by decide)
            · have h := h.2 c_
              refine cg_lload_n C (i := 0) rfl 1 rfl dL_leafCount_224 ?_
              refine cg_iconst C (x := nI 0) rfl dL_leafCount_225 ?_
              refine cg_iconst C (x := nI 1) rfl dL_leafCount_226 ?_
              refine cg_callsi C (t_L_count l x0 ((nI 0)) ((nI 1)) S dp h) cc_L_23 rfl ⟨by decide, by decide⟩ ⟨by decide, by decide⟩ rfl (Nat.le_of_ble_eq_true rfl) dL_leafCount_227 (fun r_4 S_4 h => ?_)
              refine cg_goto C 263 (by decide) dL_leafCount_230 ?_
              exact cg_iret C h dL_leafCount_263 (by decide) (by decide)
          · have h := h.2 c_
            refine cg_lload_n C (i := 0) rfl 1 rfl dL_leafCount_210 ?_
            refine cg_iconst C (x := nI 1) rfl dL_leafCount_211 ?_
            refine cg_iconst C (x := nI 2) rfl dL_leafCount_212 ?_
            refine cg_callsi C (t_L_count l x0 ((nI 1)) ((nI 2)) S dp h) cc_L_23 rfl ⟨by decide, by decide⟩ ⟨by decide, by decide⟩ rfl (Nat.le_of_ble_eq_true rfl) dL_leafCount_213 (fun r_5 S_5 h => ?_)
            refine cg_goto C 263 (by decide) dL_leafCount_216 ?_
            exact cg_iret C h dL_leafCount_263 (by decide) (by decide)
        · have h := h.2 c_
          exact cg_sub [1] rfl (tb_L_leafCount_196 C   x0 S h)
    · have h := h.2 c_
      refine cg_iconst C (x := nI 0) rfl dL_leafCount_86 ?_
      refine cg_istore C (lv' := [(4, .int ((nI 0))), (3, .int ((nI 0))), (0, .long x0), (2, .int x2)]) (Nat.le_of_ble_eq_true rfl) rfl dL_leafCount_87 ?_
      exact cg_sub [2, 1, 0] rfl (tl_L_leafCount_89 C   x0 (((nI 0))) (((nI 0))) S h)
  · have h := h.2 c_
    refine cg_iconst C (x := nI 0) rfl dL_leafCount_7 ?_
    refine cg_istore C (lv' := [(4, .int ((nI 0))), (3, .int ((nI 0))), (0, .long x0), (2, .int x2)]) (Nat.le_of_ble_eq_true rfl) rfl dL_leafCount_8 ?_
    exact cg_sub [2, 1, 0] rfl (tl_L_leafCount_10 C   x0 (((nI 0))) (((nI 0))) S h)
set_option maxHeartbeats 1000000 in
set_option maxRecDepth 20000 in
theorem t_L_strength (l : Launch) (x0 : Int32) (S : cS) (dp : Nat) {P : Int32 → cS → Prop} (h : k_L_strength P dp x0 S) : cMet (cQi P) l yL_strength cL_strength 1 (some .int) 0 0 0 0 [.int x0] S dp := by
  intro D Y tp sz
  refine cg_body (by decide +kernel) (Nat.le_of_ble_eq_true rfl) ?_
  intro p e s m args below meth c C
  generalize va_A (cWd Y S) sz = A at C ⊢
  have C : cC p s m args meth c cL_strength 1 (some .int) A D Y tp dp RL := C
  refine cg_lv (lv' := [(0, .int x0)]) rfl ?_
  unfold k_L_strength at h
  refine cg_iload_n C (i := 0) rfl 0 rfl dL_strength_0 ?_
  refine cg_if_ne C 8 (by decide) dL_strength_1 (fun c_ => ?_) (fun c_ => ?_)
  · have h := h.1 c_
    refine cg_bipush C (x := nI 64) rfl dL_strength_8 ?_
    refine cg_bipush C (x := nI 64) rfl dL_strength_10 ?_
    refine cg_iload_n C (i := 0) rfl 0 rfl dL_strength_12 ?_
    refine cg_iadd C dL_strength_13 ?_
    refine cg_iload_n C (i := 0) rfl 0 rfl dL_strength_14 ?_
    refine cg_iconst C (x := nI 1) rfl dL_strength_15 ?_
    refine cg_iadd C dL_strength_16 ?_
    obtain ⟨hc_17, h⟩ := h
    refine cg_idiv C hc_17 dL_strength_17 ?_
    refine cg_isub C dL_strength_18 ?_
    exact cg_iret C h dL_strength_19 (by decide) (by decide)
  · have h := h.2 c_
    refine cg_iconst C (x := nI 0) rfl dL_strength_4 ?_
    refine cg_goto C 19 (by decide) dL_strength_5 ?_
    exact cg_iret C h dL_strength_19 (by decide) (by decide)
section S_L_rarity
variable {p : Program} {l : Launch} {e : Env} {s : State} {m : MethodId} {args : Array Value} {below : List Frame} {meth : Method} {c : Code} {A : Nat → Prop} {D : va_G} {Y : cY} {tp dp : Nat}
set_option maxRecDepth 20000 in
theorem tb_L_rarity_125 (C : cC p s m args meth c cL_rarity 12 (some .int) A D Y tp dp RL) {post : Int32 → cS → Prop} {R125 : Int32 → Int32 → Int32 → cS → Prop} (hR125 : ∀ (x6 : Int32) (x7 : Int32) (x8 : Int32) (S : cS), R125 x6 x7 x8 S → cG p l e (cRm 3 0 0 74) s m args below meth c A D Y 12 (MQ below (cQi post D Y A) args s 0 0 A) 0 0 125 [(6, .int x6), (7, .int x7), (8, .int x8)] [] S) (x6 : Int32) (x7 : Int32) (x8 : Int32) (S : cS) (h : k_L_rarity_125 post dp R125 x6 x7 x8 S) : cG p l e (cRm 3 0 0 74) s m args below meth c A D Y 12 (MQ below (cQi post D Y A) args s 0 0 A) 0 0 125 [(6, .int x6), (7, .int x7), (8, .int x8)] [] S := by
  unfold k_L_rarity_125 at h
  refine cg_iload C 0 rfl dL_rarity_125 ?_
  refine cg_iconst C (x := nI 1) rfl dL_rarity_127 ?_
  refine cg_iadd C dL_rarity_128 ?_
  refine cg_iload C 1 rfl dL_rarity_129 ?_
  refine cg_iconst C (x := nI 1) rfl dL_rarity_131 ?_
  refine cg_iadd C dL_rarity_132 ?_
  obtain ⟨hc_133, h⟩ := h
  refine cg_idiv C hc_133 dL_rarity_133 ?_
  refine cg_iload C 2 rfl dL_rarity_134 ?_
  refine cg_ishr C dL_rarity_136 ?_
  refine cg_if_le C 146 (by decide) dL_rarity_137 (fun c_ => ?_) (fun c_ => ?_)
  · have h := h.1 c_
    refine cg_iload C 2 rfl dL_rarity_146 ?_
    exact cg_iret C h dL_rarity_148 (by decide) (by decide)
  · have h := h.2 c_
    obtain ⟨x8_1, e_x8_1⟩ : ∃ z : Int32, z = x8 + nI 1 := ⟨_, rfl⟩
    have h := h x8_1 e_x8_1
    refine cg_iinc C (lv' := [(8, .int x8_1), (6, .int x6), (7, .int x7)]) 2 rfl (by rw [e_x8_1]; rfl) (Nat.le_of_ble_eq_true rfl) rfl dL_rarity_140 ?_
    refine cg_goto C 125 (by decide) dL_rarity_143 ?_
    exact cg_sub [1, 2, 0] rfl (hR125 x6 x7 x8_1 S h)
set_option maxRecDepth 20000 in
theorem tl_L_rarity_125 (C : cC p s m args meth c cL_rarity 12 (some .int) A D Y tp dp RL) {post : Int32 → cS → Prop}   (x6 : Int32) (x7 : Int32) (x8 : Int32) (S : cS) (h : k_L_rarity_125L post dp  x6 x7 x8 S) : cG p l e (cRm 3 0 0 74) s m args below meth c A D Y 12 (MQ below (cQi post D Y A) args s 0 0 A) 0 0 125 [(6, .int x6), (7, .int x7), (8, .int x8)] [] S :=
  h (fun y => cG p l e (cRm 3 0 0 74) s m args below meth c A D Y 12 (MQ below (cQi post D Y A) args s 0 0 A) 0 0 125 [(6, .int (y.1)), (7, .int (y.2.1)), (8, .int (y.2.2.1))] [] (y.2.2.2)) (fun y hy => tb_L_rarity_125 C   (fun b0 b1 b2 S z => z) (y.1) (y.2.1) (y.2.2.1) (y.2.2.2) hy)
set_option maxRecDepth 20000 in
theorem tb_L_rarity_107 (C : cC p s m args meth c cL_rarity 12 (some .int) A D Y tp dp RL) {post : Int32 → cS → Prop} {R9 : Nat → Nat → Nat → Nat → Int32 → Int32 → Int32 → Int32 → Int32 → cS → Prop} {R28 : Nat → Nat → Nat → Nat → Int32 → Int32 → Int32 → Int32 → Int32 → Int32 → Int32 → cS → Prop} (hR9 : ∀ (x0 : Nat) (x1 : Nat) (x2 : Nat) (x3 : Nat) (x4 : Int32) (x5 : Int32) (x6 : Int32) (x7 : Int32) (x8 : Int32) (S : cS), R9 x0 x1 x2 x3 x4 x5 x6 x7 x8 S → cG p l e (cRm 3 0 0 74) s m args below meth c A D Y 12 (MQ below (cQi post D Y A) args s 0 0 A) 0 0 9 [(0, .ref x0), (1, .ref x1), (2, .ref x2), (3, .ref x3), (4, .int x4), (5, .int x5), (6, .int x6), (7, .int x7), (8, .int x8)] [] S) (hR28 : ∀ (x0 : Nat) (x1 : Nat) (x2 : Nat) (x3 : Nat) (x4 : Int32) (x5 : Int32) (x6 : Int32) (x7 : Int32) (x8 : Int32) (x9 : Int32) (x10 : Int32) (S : cS), R28 x0 x1 x2 x3 x4 x5 x6 x7 x8 x9 x10 S → cG p l e (cRm 3 0 0 74) s m args below meth c A D Y 12 (MQ below (cQi post D Y A) args s 0 0 A) 0 0 28 [(0, .ref x0), (1, .ref x1), (2, .ref x2), (3, .ref x3), (4, .int x4), (5, .int x5), (6, .int x6), (7, .int x7), (8, .int x8), (9, .int x9), (10, .int x10)] [] S) (x0 : Nat) (x1 : Nat) (x2 : Nat) (x3 : Nat) (x4 : Int32) (x5 : Int32) (x6 : Int32) (x8 : Int32) (x9 : Int32) (x10 : Int32) (t0 : Int32) (t1 : Int32) (S : cS) (h : k_L_rarity_107 post dp R9 R28 x0 x1 x2 x3 x4 x5 x6 x8 x9 x10 t0 t1 S) : cG p l e (cRm 3 0 0 74) s m args below meth c A D Y 12 (MQ below (cQi post D Y A) args s 0 0 A) 0 0 107 [(0, .ref x0), (1, .ref x1), (2, .ref x2), (3, .ref x3), (4, .int x4), (5, .int x5), (6, .int x6), (8, .int x8), (9, .int x9), (10, .int x10)] [.int t0, .int t1] S := by
  unfold k_L_rarity_107 at h
  refine cg_iadd C dL_rarity_107 ?_
  refine cg_nmI (fun x7_5 e_x7_5 => ?_)
  have h := h x7_5 e_x7_5
  refine cg_istore C (lv' := [(7, .int x7_5), (0, .ref x0), (1, .ref x1), (2, .ref x2), (3, .ref x3), (4, .int x4), (5, .int x5), (6, .int x6), (8, .int x8), (9, .int x9), (10, .int x10)]) (Nat.le_of_ble_eq_true rfl) rfl dL_rarity_108 ?_
  obtain ⟨x10_6, e_x10_6⟩ : ∃ z : Int32, z = x10 + nI 1 := ⟨_, rfl⟩
  have h := h x10_6 e_x10_6
  refine cg_iinc C (lv' := [(10, .int x10_6), (7, .int x7_5), (0, .ref x0), (1, .ref x1), (2, .ref x2), (3, .ref x3), (4, .int x4), (5, .int x5), (6, .int x6), (8, .int x8), (9, .int x9)]) 10 rfl (by rw [e_x10_6]; rfl) (Nat.le_of_ble_eq_true rfl) rfl dL_rarity_110 ?_
  refine cg_goto C 28 (by decide) dL_rarity_113 ?_
  exact cg_sub [2, 3, 4, 5, 6, 7, 8, 1, 9, 10, 0] rfl (hR28 x0 x1 x2 x3 x4 x5 x6 x7_5 x8 x9 x10_6 S h)
set_option maxRecDepth 20000 in
theorem tb_L_rarity_106 (C : cC p s m args meth c cL_rarity 12 (some .int) A D Y tp dp RL) {post : Int32 → cS → Prop} {R9 : Nat → Nat → Nat → Nat → Int32 → Int32 → Int32 → Int32 → Int32 → cS → Prop} {R28 : Nat → Nat → Nat → Nat → Int32 → Int32 → Int32 → Int32 → Int32 → Int32 → Int32 → cS → Prop} (hR9 : ∀ (x0 : Nat) (x1 : Nat) (x2 : Nat) (x3 : Nat) (x4 : Int32) (x5 : Int32) (x6 : Int32) (x7 : Int32) (x8 : Int32) (S : cS), R9 x0 x1 x2 x3 x4 x5 x6 x7 x8 S → cG p l e (cRm 3 0 0 74) s m args below meth c A D Y 12 (MQ below (cQi post D Y A) args s 0 0 A) 0 0 9 [(0, .ref x0), (1, .ref x1), (2, .ref x2), (3, .ref x3), (4, .int x4), (5, .int x5), (6, .int x6), (7, .int x7), (8, .int x8)] [] S) (hR28 : ∀ (x0 : Nat) (x1 : Nat) (x2 : Nat) (x3 : Nat) (x4 : Int32) (x5 : Int32) (x6 : Int32) (x7 : Int32) (x8 : Int32) (x9 : Int32) (x10 : Int32) (S : cS), R28 x0 x1 x2 x3 x4 x5 x6 x7 x8 x9 x10 S → cG p l e (cRm 3 0 0 74) s m args below meth c A D Y 12 (MQ below (cQi post D Y A) args s 0 0 A) 0 0 28 [(0, .ref x0), (1, .ref x1), (2, .ref x2), (3, .ref x3), (4, .int x4), (5, .int x5), (6, .int x6), (7, .int x7), (8, .int x8), (9, .int x9), (10, .int x10)] [] S) (x0 : Nat) (x1 : Nat) (x2 : Nat) (x3 : Nat) (x4 : Int32) (x5 : Int32) (x6 : Int32) (x8 : Int32) (x9 : Int32) (x10 : Int32) (t0 : Int32) (S : cS) (h : k_L_rarity_106 post dp R9 R28 x0 x1 x2 x3 x4 x5 x6 x8 x9 x10 t0 S) : cG p l e (cRm 3 0 0 74) s m args below meth c A D Y 12 (MQ below (cQi post D Y A) args s 0 0 A) 0 0 106 [(0, .ref x0), (1, .ref x1), (2, .ref x2), (3, .ref x3), (4, .int x4), (5, .int x5), (6, .int x6), (8, .int x8), (9, .int x9), (10, .int x10)] [.int t0] S := by
  unfold k_L_rarity_106 at h
  refine cg_iconst C (x := nI 0) rfl dL_rarity_106 ?_
  exact cg_sub [0, 1, 2, 3, 4, 5, 6, 7, 8, 9] rfl (tb_L_rarity_107 C  hR9 hR28 x0 x1 x2 x3 x4 x5 x6 x8 x9 x10 ((nI 0)) t0 S h)
set_option maxRecDepth 20000 in
theorem tb_L_rarity_72 (C : cC p s m args meth c cL_rarity 12 (some .int) A D Y tp dp RL) {post : Int32 → cS → Prop} {R9 : Nat → Nat → Nat → Nat → Int32 → Int32 → Int32 → Int32 → Int32 → cS → Prop} {R28 : Nat → Nat → Nat → Nat → Int32 → Int32 → Int32 → Int32 → Int32 → Int32 → Int32 → cS → Prop} (hR9 : ∀ (x0 : Nat) (x1 : Nat) (x2 : Nat) (x3 : Nat) (x4 : Int32) (x5 : Int32) (x6 : Int32) (x7 : Int32) (x8 : Int32) (S : cS), R9 x0 x1 x2 x3 x4 x5 x6 x7 x8 S → cG p l e (cRm 3 0 0 74) s m args below meth c A D Y 12 (MQ below (cQi post D Y A) args s 0 0 A) 0 0 9 [(0, .ref x0), (1, .ref x1), (2, .ref x2), (3, .ref x3), (4, .int x4), (5, .int x5), (6, .int x6), (7, .int x7), (8, .int x8)] [] S) (hR28 : ∀ (x0 : Nat) (x1 : Nat) (x2 : Nat) (x3 : Nat) (x4 : Int32) (x5 : Int32) (x6 : Int32) (x7 : Int32) (x8 : Int32) (x9 : Int32) (x10 : Int32) (S : cS), R28 x0 x1 x2 x3 x4 x5 x6 x7 x8 x9 x10 S → cG p l e (cRm 3 0 0 74) s m args below meth c A D Y 12 (MQ below (cQi post D Y A) args s 0 0 A) 0 0 28 [(0, .ref x0), (1, .ref x1), (2, .ref x2), (3, .ref x3), (4, .int x4), (5, .int x5), (6, .int x6), (7, .int x7), (8, .int x8), (9, .int x9), (10, .int x10)] [] S) (x0 : Nat) (x1 : Nat) (x2 : Nat) (x3 : Nat) (x4 : Int32) (x5 : Int32) (x7 : Int32) (x8 : Int32) (x9 : Int32) (x10 : Int32) (x11 : Int32) (t0 : Int32) (t1 : Int32) (S : cS) (h : k_L_rarity_72 post dp R9 R28 x0 x1 x2 x3 x4 x5 x7 x8 x9 x10 x11 t0 t1 S) : cG p l e (cRm 3 0 0 74) s m args below meth c A D Y 12 (MQ below (cQi post D Y A) args s 0 0 A) 0 0 72 [(0, .ref x0), (1, .ref x1), (2, .ref x2), (3, .ref x3), (4, .int x4), (5, .int x5), (7, .int x7), (8, .int x8), (9, .int x9), (10, .int x10), (11, .int x11)] [.int t0, .int t1] S := by
  unfold k_L_rarity_72 at h
  refine cg_iadd C dL_rarity_72 ?_
  refine cg_nmI (fun x6_4 e_x6_4 => ?_)
  have h := h x6_4 e_x6_4
  refine cg_istore C (lv' := [(6, .int x6_4), (0, .ref x0), (1, .ref x1), (2, .ref x2), (3, .ref x3), (4, .int x4), (5, .int x5), (7, .int x7), (8, .int x8), (9, .int x9), (10, .int x10), (11, .int x11)]) (Nat.le_of_ble_eq_true rfl) rfl dL_rarity_73 ?_
  refine cg_iload C 7 rfl dL_rarity_75 ?_
  refine cg_iload C 11 rfl dL_rarity_77 ?_
  refine cg_if_eq C 106 (by decide) dL_rarity_79 (fun c_ => ?_) (fun c_ => ?_)
  · have h := h.1 c_
    exact cg_sub [1, 2, 3, 4, 5, 6, 0, 8, 9, 10] rfl (tb_L_rarity_106 C  hR9 hR28 x0 x1 x2 x3 x4 x5 x6_4 x8 x9 x10 x7 S h)
  · have h := h.2 c_
    refine cg_aload_n C (i := 0) rfl 1 rfl dL_rarity_82 ?_
    refine cg_aload_n C (i := 1) rfl 2 rfl dL_rarity_83 ?_
    refine cg_iload C 9 rfl dL_rarity_84 ?_
    refine cg_iload C 10 rfl dL_rarity_86 ?_
    refine cg_callsi C (t_L_record l x1 x9 x10 S dp h) cc_L_26 rfl ⟨by decide, by decide⟩ ⟨by decide, by decide⟩ rfl (Nat.le_of_ble_eq_true rfl) dL_rarity_88 (fun r_7 S_7 h => ?_)
    obtain ⟨hc_91, h⟩ := h
    refine cg_laloadR C hc_91 dL_rarity_91 ?_
    refine cg_iload C 5 rfl dL_rarity_92 ?_
    refine cg_iload C 6 rfl dL_rarity_94 ?_
    refine cg_callsi C (t_L_count l (cJ S_7 x0 (r_7).toNatClampNeg) x4 x5 S_7 dp h) cc_L_23 rfl ⟨by decide, by decide⟩ ⟨by decide, by decide⟩ rfl (Nat.le_of_ble_eq_true rfl) dL_rarity_96 (fun r_8 S_8 h => ?_)
    refine cg_if_le C 106 (by decide) dL_rarity_99 (fun c_ => ?_) (fun c_ => ?_)
    · have h := h.1 c_
      exact cg_sub [1, 2, 3, 4, 5, 6, 0, 8, 9, 10] rfl (tb_L_rarity_106 C  hR9 hR28 x0 x1 x2 x3 x4 x5 x6_4 x8 x9 x10 x7 S_8 h)
    · have h := h.2 c_
      refine cg_iconst C (x := nI 1) rfl dL_rarity_102 ?_
      refine cg_goto C 107 (by decide) dL_rarity_103 ?_
      exact cg_sub [1, 2, 3, 4, 5, 6, 0, 8, 9, 10] rfl (tb_L_rarity_107 C  hR9 hR28 x0 x1 x2 x3 x4 x5 x6_4 x8 x9 x10 ((nI 1)) x7 S_8 h)
set_option maxRecDepth 20000 in
theorem tb_L_rarity_58 (C : cC p s m args meth c cL_rarity 12 (some .int) A D Y tp dp RL) {post : Int32 → cS → Prop} {R9 : Nat → Nat → Nat → Nat → Int32 → Int32 → Int32 → Int32 → Int32 → cS → Prop} {R28 : Nat → Nat → Nat → Nat → Int32 → Int32 → Int32 → Int32 → Int32 → Int32 → Int32 → cS → Prop} (hR9 : ∀ (x0 : Nat) (x1 : Nat) (x2 : Nat) (x3 : Nat) (x4 : Int32) (x5 : Int32) (x6 : Int32) (x7 : Int32) (x8 : Int32) (S : cS), R9 x0 x1 x2 x3 x4 x5 x6 x7 x8 S → cG p l e (cRm 3 0 0 74) s m args below meth c A D Y 12 (MQ below (cQi post D Y A) args s 0 0 A) 0 0 9 [(0, .ref x0), (1, .ref x1), (2, .ref x2), (3, .ref x3), (4, .int x4), (5, .int x5), (6, .int x6), (7, .int x7), (8, .int x8)] [] S) (hR28 : ∀ (x0 : Nat) (x1 : Nat) (x2 : Nat) (x3 : Nat) (x4 : Int32) (x5 : Int32) (x6 : Int32) (x7 : Int32) (x8 : Int32) (x9 : Int32) (x10 : Int32) (S : cS), R28 x0 x1 x2 x3 x4 x5 x6 x7 x8 x9 x10 S → cG p l e (cRm 3 0 0 74) s m args below meth c A D Y 12 (MQ below (cQi post D Y A) args s 0 0 A) 0 0 28 [(0, .ref x0), (1, .ref x1), (2, .ref x2), (3, .ref x3), (4, .int x4), (5, .int x5), (6, .int x6), (7, .int x7), (8, .int x8), (9, .int x9), (10, .int x10)] [] S) (x0 : Nat) (x1 : Nat) (x2 : Nat) (x3 : Nat) (x4 : Int32) (x5 : Int32) (x6 : Int32) (x7 : Int32) (x8 : Int32) (x9 : Int32) (x10 : Int32) (t0 : Int32) (S : cS) (h : k_L_rarity_58 post dp R9 R28 x0 x1 x2 x3 x4 x5 x6 x7 x8 x9 x10 t0 S) : cG p l e (cRm 3 0 0 74) s m args below meth c A D Y 12 (MQ below (cQi post D Y A) args s 0 0 A) 0 0 58 [(0, .ref x0), (1, .ref x1), (2, .ref x2), (3, .ref x3), (4, .int x4), (5, .int x5), (6, .int x6), (7, .int x7), (8, .int x8), (9, .int x9), (10, .int x10)] [.int t0] S := by
  unfold k_L_rarity_58 at h
  refine cg_istore C (lv' := [(11, .int t0), (0, .ref x0), (1, .ref x1), (2, .ref x2), (3, .ref x3), (4, .int x4), (5, .int x5), (6, .int x6), (7, .int x7), (8, .int x8), (9, .int x9), (10, .int x10)]) (Nat.le_of_ble_eq_true rfl) rfl dL_rarity_58 ?_
  refine cg_iload C 7 rfl dL_rarity_60 ?_
  refine cg_iload C 0 rfl dL_rarity_62 ?_
  refine cg_if_eq C 71 (by decide) dL_rarity_64 (fun c_ => ?_) (fun c_ => ?_)
  · have h := h.1 c_
    refine cg_iconst C (x := nI 0) rfl dL_rarity_71 ?_
    exact cg_sub [1, 2, 3, 4, 5, 6, 8, 9, 10, 11, 0] rfl (tb_L_rarity_72 C  hR9 hR28 x0 x1 x2 x3 x4 x5 x7 x8 x9 x10 t0 ((nI 0)) x6 S h)
  · have h := h.2 c_
    refine cg_iconst C (x := nI 1) rfl dL_rarity_67 ?_
    refine cg_goto C 72 (by decide) dL_rarity_68 ?_
    exact cg_sub [1, 2, 3, 4, 5, 6, 8, 9, 10, 11, 0] rfl (tb_L_rarity_72 C  hR9 hR28 x0 x1 x2 x3 x4 x5 x7 x8 x9 x10 t0 ((nI 1)) x6 S h)
set_option maxRecDepth 20000 in
theorem tb_L_rarity_28 (C : cC p s m args meth c cL_rarity 12 (some .int) A D Y tp dp RL) {post : Int32 → cS → Prop} {R9 : Nat → Nat → Nat → Nat → Int32 → Int32 → Int32 → Int32 → Int32 → cS → Prop} {R28 : Nat → Nat → Nat → Nat → Int32 → Int32 → Int32 → Int32 → Int32 → Int32 → Int32 → cS → Prop} (hR9 : ∀ (x0 : Nat) (x1 : Nat) (x2 : Nat) (x3 : Nat) (x4 : Int32) (x5 : Int32) (x6 : Int32) (x7 : Int32) (x8 : Int32) (S : cS), R9 x0 x1 x2 x3 x4 x5 x6 x7 x8 S → cG p l e (cRm 3 0 0 74) s m args below meth c A D Y 12 (MQ below (cQi post D Y A) args s 0 0 A) 0 0 9 [(0, .ref x0), (1, .ref x1), (2, .ref x2), (3, .ref x3), (4, .int x4), (5, .int x5), (6, .int x6), (7, .int x7), (8, .int x8)] [] S) (hR28 : ∀ (x0 : Nat) (x1 : Nat) (x2 : Nat) (x3 : Nat) (x4 : Int32) (x5 : Int32) (x6 : Int32) (x7 : Int32) (x8 : Int32) (x9 : Int32) (x10 : Int32) (S : cS), R28 x0 x1 x2 x3 x4 x5 x6 x7 x8 x9 x10 S → cG p l e (cRm 3 0 0 74) s m args below meth c A D Y 12 (MQ below (cQi post D Y A) args s 0 0 A) 0 0 28 [(0, .ref x0), (1, .ref x1), (2, .ref x2), (3, .ref x3), (4, .int x4), (5, .int x5), (6, .int x6), (7, .int x7), (8, .int x8), (9, .int x9), (10, .int x10)] [] S) (x0 : Nat) (x1 : Nat) (x2 : Nat) (x3 : Nat) (x4 : Int32) (x5 : Int32) (x6 : Int32) (x7 : Int32) (x8 : Int32) (x9 : Int32) (x10 : Int32) (S : cS) (h : k_L_rarity_28 post dp R9 R28 x0 x1 x2 x3 x4 x5 x6 x7 x8 x9 x10 S) : cG p l e (cRm 3 0 0 74) s m args below meth c A D Y 12 (MQ below (cQi post D Y A) args s 0 0 A) 0 0 28 [(0, .ref x0), (1, .ref x1), (2, .ref x2), (3, .ref x3), (4, .int x4), (5, .int x5), (6, .int x6), (7, .int x7), (8, .int x8), (9, .int x9), (10, .int x10)] [] S := by
  unfold k_L_rarity_28 at h
  refine cg_iload C 10 rfl dL_rarity_28 ?_
  refine cg_aload_n C (i := 2) rfl 2 rfl dL_rarity_30 ?_
  refine cg_iload C 9 rfl dL_rarity_31 ?_
  obtain ⟨hc_33, h⟩ := h
  refine cg_ialoadR C hc_33 dL_rarity_33 ?_
  refine cg_icmp_ge C 116 (by decide) dL_rarity_34 (fun c_ => ?_) (fun c_ => ?_)
  · have h := h.1 c_
    obtain ⟨x8_3, e_x8_3⟩ : ∃ z : Int32, z = x8 + nI 1 := ⟨_, rfl⟩
    have h := h x8_3 e_x8_3
    refine cg_iinc C (lv' := [(8, .int x8_3), (0, .ref x0), (1, .ref x1), (2, .ref x2), (3, .ref x3), (4, .int x4), (5, .int x5), (6, .int x6), (7, .int x7), (9, .int x9), (10, .int x10)]) 8 rfl (by rw [e_x8_3]; rfl) (Nat.le_of_ble_eq_true rfl) rfl dL_rarity_116 ?_
    refine cg_goto C 9 (by decide) dL_rarity_119 ?_
    exact cg_sub [1, 2, 3, 4, 5, 6, 7, 8, 0] rfl (hR9 x0 x1 x2 x3 x4 x5 x6 x7 x8_3 S h)
  · have h := h.2 c_
    refine cg_aload_n C (i := 3) rfl 3 rfl dL_rarity_37 ?_
    refine cg_bipush C (x := nI 32) rfl dL_rarity_38 ?_
    refine cg_iload C 9 rfl dL_rarity_40 ?_
    refine cg_iadd C dL_rarity_42 ?_
    obtain ⟨hc_43, h⟩ := h
    refine cg_ialoadR C hc_43 dL_rarity_43 ?_
    refine cg_iload C 10 rfl dL_rarity_44 ?_
    refine cg_ishr C dL_rarity_46 ?_
    refine cg_iconst C (x := nI 1) rfl dL_rarity_47 ?_
    refine cg_iand C dL_rarity_48 ?_
    refine cg_iconst C (x := nI 1) rfl dL_rarity_49 ?_
    refine cg_icmp_ne C 57 (by decide) dL_rarity_50 (fun c_ => ?_) (fun c_ => ?_)
    · have h := h.1 c_
      refine cg_iconst C (x := nI 0) rfl dL_rarity_57 ?_
      exact cg_sub [0, 1, 2, 3, 4, 5, 6, 7, 8, 9, 10] rfl (tb_L_rarity_58 C  hR9 hR28 x0 x1 x2 x3 x4 x5 x6 x7 x8 x9 x10 ((nI 0)) S h)
    · have h := h.2 c_
      refine cg_iconst C (x := nI 1) rfl dL_rarity_53 ?_
      refine cg_goto C 58 (by decide) dL_rarity_54 ?_
      exact cg_sub [0, 1, 2, 3, 4, 5, 6, 7, 8, 9, 10] rfl (tb_L_rarity_58 C  hR9 hR28 x0 x1 x2 x3 x4 x5 x6 x7 x8 x9 x10 ((nI 1)) S h)
set_option maxRecDepth 20000 in
theorem tl_L_rarity_28 (C : cC p s m args meth c cL_rarity 12 (some .int) A D Y tp dp RL) {post : Int32 → cS → Prop} {R9 : Nat → Nat → Nat → Nat → Int32 → Int32 → Int32 → Int32 → Int32 → cS → Prop} (hR9 : ∀ (x0 : Nat) (x1 : Nat) (x2 : Nat) (x3 : Nat) (x4 : Int32) (x5 : Int32) (x6 : Int32) (x7 : Int32) (x8 : Int32) (S : cS), R9 x0 x1 x2 x3 x4 x5 x6 x7 x8 S → cG p l e (cRm 3 0 0 74) s m args below meth c A D Y 12 (MQ below (cQi post D Y A) args s 0 0 A) 0 0 9 [(0, .ref x0), (1, .ref x1), (2, .ref x2), (3, .ref x3), (4, .int x4), (5, .int x5), (6, .int x6), (7, .int x7), (8, .int x8)] [] S) (x0 : Nat) (x1 : Nat) (x2 : Nat) (x3 : Nat) (x4 : Int32) (x5 : Int32) (x6 : Int32) (x7 : Int32) (x8 : Int32) (x9 : Int32) (x10 : Int32) (S : cS) (h : k_L_rarity_28L post dp R9 x0 x1 x2 x3 x4 x5 x6 x7 x8 x9 x10 S) : cG p l e (cRm 3 0 0 74) s m args below meth c A D Y 12 (MQ below (cQi post D Y A) args s 0 0 A) 0 0 28 [(0, .ref x0), (1, .ref x1), (2, .ref x2), (3, .ref x3), (4, .int x4), (5, .int x5), (6, .int x6), (7, .int x7), (8, .int x8), (9, .int x9), (10, .int x10)] [] S :=
  h (fun y => cG p l e (cRm 3 0 0 74) s m args below meth c A D Y 12 (MQ below (cQi post D Y A) args s 0 0 A) 0 0 28 [(0, .ref (y.1)), (1, .ref (y.2.1)), (2, .ref (y.2.2.1)), (3, .ref (y.2.2.2.1)), (4, .int (y.2.2.2.2.1)), (5, .int (y.2.2.2.2.2.1)), (6, .int (y.2.2.2.2.2.2.1)), (7, .int (y.2.2.2.2.2.2.2.1)), (8, .int (y.2.2.2.2.2.2.2.2.1)), (9, .int (y.2.2.2.2.2.2.2.2.2.1)), (10, .int (y.2.2.2.2.2.2.2.2.2.2.1))] [] (y.2.2.2.2.2.2.2.2.2.2.2)) (fun y hy => tb_L_rarity_28 C  hR9 (fun b0 b1 b2 b3 b4 b5 b6 b7 b8 b9 b10 S z => z) (y.1) (y.2.1) (y.2.2.1) (y.2.2.2.1) (y.2.2.2.2.1) (y.2.2.2.2.2.1) (y.2.2.2.2.2.2.1) (y.2.2.2.2.2.2.2.1) (y.2.2.2.2.2.2.2.2.1) (y.2.2.2.2.2.2.2.2.2.1) (y.2.2.2.2.2.2.2.2.2.2.1) (y.2.2.2.2.2.2.2.2.2.2.2) hy)
set_option maxRecDepth 20000 in
theorem tb_L_rarity_9 (C : cC p s m args meth c cL_rarity 12 (some .int) A D Y tp dp RL) {post : Int32 → cS → Prop} {R9 : Nat → Nat → Nat → Nat → Int32 → Int32 → Int32 → Int32 → Int32 → cS → Prop} (hR9 : ∀ (x0 : Nat) (x1 : Nat) (x2 : Nat) (x3 : Nat) (x4 : Int32) (x5 : Int32) (x6 : Int32) (x7 : Int32) (x8 : Int32) (S : cS), R9 x0 x1 x2 x3 x4 x5 x6 x7 x8 S → cG p l e (cRm 3 0 0 74) s m args below meth c A D Y 12 (MQ below (cQi post D Y A) args s 0 0 A) 0 0 9 [(0, .ref x0), (1, .ref x1), (2, .ref x2), (3, .ref x3), (4, .int x4), (5, .int x5), (6, .int x6), (7, .int x7), (8, .int x8)] [] S) (x0 : Nat) (x1 : Nat) (x2 : Nat) (x3 : Nat) (x4 : Int32) (x5 : Int32) (x6 : Int32) (x7 : Int32) (x8 : Int32) (S : cS) (h : k_L_rarity_9 post dp R9 x0 x1 x2 x3 x4 x5 x6 x7 x8 S) : cG p l e (cRm 3 0 0 74) s m args below meth c A D Y 12 (MQ below (cQi post D Y A) args s 0 0 A) 0 0 9 [(0, .ref x0), (1, .ref x1), (2, .ref x2), (3, .ref x3), (4, .int x4), (5, .int x5), (6, .int x6), (7, .int x7), (8, .int x8)] [] S := by
  unfold k_L_rarity_9 at h
  refine cg_iload C 8 rfl dL_rarity_9 ?_
  refine cg_aload_n C (i := 3) rfl 3 rfl dL_rarity_11 ?_
  refine cg_iconst C (x := nI 1) rfl dL_rarity_12 ?_
  obtain ⟨hc_13, h⟩ := h
  refine cg_ialoadR C hc_13 dL_rarity_13 ?_
  refine cg_icmp_ge C 122 (by decide) dL_rarity_14 (fun c_ => ?_) (fun c_ => ?_)
  · have h := h.1 c_
    refine cg_iconst C (x := nI 1) rfl dL_rarity_122 ?_
    refine cg_istore C (lv' := [(8, .int ((nI 1))), (0, .ref x0), (1, .ref x1), (2, .ref x2), (3, .ref x3), (4, .int x4), (5, .int x5), (6, .int x6), (7, .int x7)]) (Nat.le_of_ble_eq_true rfl) rfl dL_rarity_123 ?_
    exact cg_sub [7, 8, 0] rfl (tl_L_rarity_125 C   x6 x7 (((nI 1))) S h)
  · have h := h.2 c_
    refine cg_aload_n C (i := 3) rfl 3 rfl dL_rarity_17 ?_
    refine cg_iconst C (x := nI 2) rfl dL_rarity_18 ?_
    refine cg_iload C 8 rfl dL_rarity_19 ?_
    refine cg_iadd C dL_rarity_21 ?_
    obtain ⟨hc_22, h⟩ := h
    refine cg_ialoadR C hc_22 dL_rarity_22 ?_
    refine cg_nmI (fun x9_2 e_x9_2 => ?_)
    have h := h x9_2 e_x9_2
    refine cg_istore C (lv' := [(9, .int x9_2), (0, .ref x0), (1, .ref x1), (2, .ref x2), (3, .ref x3), (4, .int x4), (5, .int x5), (6, .int x6), (7, .int x7), (8, .int x8)]) (Nat.le_of_ble_eq_true rfl) rfl dL_rarity_23 ?_
    refine cg_iconst C (x := nI 0) rfl dL_rarity_25 ?_
    refine cg_istore C (lv' := [(10, .int ((nI 0))), (9, .int x9_2), (0, .ref x0), (1, .ref x1), (2, .ref x2), (3, .ref x3), (4, .int x4), (5, .int x5), (6, .int x6), (7, .int x7), (8, .int x8)]) (Nat.le_of_ble_eq_true rfl) rfl dL_rarity_26 ?_
    exact cg_sub [2, 3, 4, 5, 6, 7, 8, 9, 10, 1, 0] rfl (tl_L_rarity_28 C  hR9 x0 x1 x2 x3 x4 x5 x6 x7 x8 x9_2 (((nI 0))) S h)
set_option maxRecDepth 20000 in
theorem tl_L_rarity_9 (C : cC p s m args meth c cL_rarity 12 (some .int) A D Y tp dp RL) {post : Int32 → cS → Prop}   (x0 : Nat) (x1 : Nat) (x2 : Nat) (x3 : Nat) (x4 : Int32) (x5 : Int32) (x6 : Int32) (x7 : Int32) (x8 : Int32) (S : cS) (h : k_L_rarity_9L post dp  x0 x1 x2 x3 x4 x5 x6 x7 x8 S) : cG p l e (cRm 3 0 0 74) s m args below meth c A D Y 12 (MQ below (cQi post D Y A) args s 0 0 A) 0 0 9 [(0, .ref x0), (1, .ref x1), (2, .ref x2), (3, .ref x3), (4, .int x4), (5, .int x5), (6, .int x6), (7, .int x7), (8, .int x8)] [] S :=
  h (fun y => cG p l e (cRm 3 0 0 74) s m args below meth c A D Y 12 (MQ below (cQi post D Y A) args s 0 0 A) 0 0 9 [(0, .ref (y.1)), (1, .ref (y.2.1)), (2, .ref (y.2.2.1)), (3, .ref (y.2.2.2.1)), (4, .int (y.2.2.2.2.1)), (5, .int (y.2.2.2.2.2.1)), (6, .int (y.2.2.2.2.2.2.1)), (7, .int (y.2.2.2.2.2.2.2.1)), (8, .int (y.2.2.2.2.2.2.2.2.1))] [] (y.2.2.2.2.2.2.2.2.2)) (fun y hy => tb_L_rarity_9 C   (fun b0 b1 b2 b3 b4 b5 b6 b7 b8 S z => z) (y.1) (y.2.1) (y.2.2.1) (y.2.2.2.1) (y.2.2.2.2.1) (y.2.2.2.2.2.1) (y.2.2.2.2.2.2.1) (y.2.2.2.2.2.2.2.1) (y.2.2.2.2.2.2.2.2.1) (y.2.2.2.2.2.2.2.2.2) hy)
end S_L_rarity
set_option maxHeartbeats 1000000 in
set_option maxRecDepth 20000 in
theorem t_L_rarity (l : Launch) (x0 : Nat) (x1 : Nat) (x2 : Nat) (x3 : Nat) (x4 : Int32) (x5 : Int32) (S : cS) (dp : Nat) {P : Int32 → cS → Prop} (h : k_L_rarity P dp x0 x1 x2 x3 x4 x5 S) : cMet (cQi P) l yL_rarity cL_rarity 12 (some .int) 3 0 0 74 [.ref x0, .ref x1, .ref x2, .ref x3, .int x4, .int x5] S dp := by
  intro D Y tp sz
  refine cg_body (by decide +kernel) (Nat.le_of_ble_eq_true rfl) ?_
  intro p e s m args below meth c C
  generalize va_A (cWd Y S) sz = A at C ⊢
  have C : cC p s m args meth c cL_rarity 12 (some .int) A D Y tp dp RL := C
  refine cg_lv (lv' := [(0, .ref x0), (1, .ref x1), (2, .ref x2), (3, .ref x3), (4, .int x4), (5, .int x5)]) rfl ?_
  unfold k_L_rarity at h
  refine cg_iconst C (x := nI 0) rfl dL_rarity_0 ?_
  refine cg_istore C (lv' := [(6, .int ((nI 0))), (0, .ref x0), (1, .ref x1), (2, .ref x2), (3, .ref x3), (4, .int x4), (5, .int x5)]) (Nat.le_of_ble_eq_true rfl) rfl dL_rarity_1 ?_
  refine cg_iconst C (x := nI 0) rfl dL_rarity_3 ?_
  refine cg_istore C (lv' := [(7, .int ((nI 0))), (6, .int ((nI 0))), (0, .ref x0), (1, .ref x1), (2, .ref x2), (3, .ref x3), (4, .int x4), (5, .int x5)]) (Nat.le_of_ble_eq_true rfl) rfl dL_rarity_4 ?_
  refine cg_iconst C (x := nI 0) rfl dL_rarity_6 ?_
  refine cg_istore C (lv' := [(8, .int ((nI 0))), (7, .int ((nI 0))), (6, .int ((nI 0))), (0, .ref x0), (1, .ref x1), (2, .ref x2), (3, .ref x3), (4, .int x4), (5, .int x5)]) (Nat.le_of_ble_eq_true rfl) rfl dL_rarity_7 ?_
  exact cg_sub [3, 4, 5, 6, 7, 8, 2, 1, 0] rfl (tl_L_rarity_9 C   x0 x1 x2 x3 x4 x5 (((nI 0))) (((nI 0))) (((nI 0))) S h)
set_option maxHeartbeats 1000000 in
set_option maxRecDepth 20000 in
theorem t_L_gains (l : Launch) (x0 : Nat) (x1 : Nat) (x2 : Nat) (x3 : Nat) (x4 : Nat) (S : cS) (dp : Nat) {P : cS → Prop} (h : k_L_gains P dp x0 x1 x2 x3 x4 S) : cMet (cQv P) l yL_gains cL_gains 8 none 4 0 0 105 [.ref x0, .ref x1, .ref x2, .ref x3, .ref x4] S dp := by
  intro D Y tp sz
  refine cg_body (by decide +kernel) (Nat.le_of_ble_eq_true rfl) ?_
  intro p e s m args below meth c C
  generalize va_A (cWd Y S) sz = A at C ⊢
  have C : cC p s m args meth c cL_gains 8 none A D Y tp dp RL := C
  refine cg_lv (lv' := [(0, .ref x0), (1, .ref x1), (2, .ref x2), (3, .ref x3), (4, .ref x4)]) rfl ?_
  unfold k_L_gains at h
  refine cg_aload_n C (i := 0) rfl 0 rfl dL_gains_0 ?_
  refine cg_aload_n C (i := 1) rfl 1 rfl dL_gains_1 ?_
  refine cg_aload_n C (i := 2) rfl 2 rfl dL_gains_2 ?_
  refine cg_aload_n C (i := 3) rfl 3 rfl dL_gains_3 ?_
  refine cg_iconst C (x := nI 0) rfl dL_gains_4 ?_
  refine cg_iconst C (x := nI 0) rfl dL_gains_5 ?_
  refine cg_callsi C (t_L_rarity l x0 x1 x2 x3 ((nI 0)) ((nI 0)) S dp h) cc_L_30 rfl ⟨by decide, by decide⟩ ⟨by decide, by decide⟩ rfl (Nat.le_of_ble_eq_true rfl) dL_gains_6 (fun r_1 S_1 h => ?_)
  refine cg_istore C (lv' := [(5, .int r_1), (0, .ref x0), (1, .ref x1), (2, .ref x2), (3, .ref x3), (4, .ref x4)]) (Nat.le_of_ble_eq_true rfl) rfl dL_gains_9 ?_
  refine cg_aload_n C (i := 0) rfl 1 rfl dL_gains_11 ?_
  refine cg_aload_n C (i := 1) rfl 2 rfl dL_gains_12 ?_
  refine cg_aload_n C (i := 2) rfl 3 rfl dL_gains_13 ?_
  refine cg_aload_n C (i := 3) rfl 4 rfl dL_gains_14 ?_
  refine cg_iconst C (x := nI 0) rfl dL_gains_15 ?_
  refine cg_iconst C (x := nI 2) rfl dL_gains_16 ?_
  refine cg_callsi C (t_L_rarity l x0 x1 x2 x3 ((nI 0)) ((nI 2)) S_1 dp h) cc_L_30 rfl ⟨by decide, by decide⟩ ⟨by decide, by decide⟩ rfl (Nat.le_of_ble_eq_true rfl) dL_gains_17 (fun r_2 S_2 h => ?_)
  refine cg_istore C (lv' := [(6, .int r_2), (5, .int r_1), (0, .ref x0), (1, .ref x1), (2, .ref x2), (3, .ref x3), (4, .ref x4)]) (Nat.le_of_ble_eq_true rfl) rfl dL_gains_20 ?_
  refine cg_aload_n C (i := 0) rfl 2 rfl dL_gains_22 ?_
  refine cg_aload_n C (i := 1) rfl 3 rfl dL_gains_23 ?_
  refine cg_aload_n C (i := 2) rfl 4 rfl dL_gains_24 ?_
  refine cg_aload_n C (i := 3) rfl 5 rfl dL_gains_25 ?_
  refine cg_iconst C (x := nI 0) rfl dL_gains_26 ?_
  refine cg_iconst C (x := nI 3) rfl dL_gains_27 ?_
  refine cg_callsi C (t_L_rarity l x0 x1 x2 x3 ((nI 0)) ((nI 3)) S_2 dp h) cc_L_30 rfl ⟨by decide, by decide⟩ ⟨by decide, by decide⟩ rfl (Nat.le_of_ble_eq_true rfl) dL_gains_28 (fun r_3 S_3 h => ?_)
  refine cg_istore C (lv' := [(7, .int r_3), (6, .int r_2), (5, .int r_1), (0, .ref x0), (1, .ref x1), (2, .ref x2), (3, .ref x3), (4, .ref x4)]) (Nat.le_of_ble_eq_true rfl) rfl dL_gains_31 ?_
  refine cg_aload C 7 rfl dL_gains_33 ?_
  refine cg_iconst C (x := nI 0) rfl dL_gains_35 ?_
  refine cg_iconst C (x := nI 3) rfl dL_gains_36 ?_
  refine cg_iload C 2 rfl dL_gains_37 ?_
  refine cg_imul C dL_gains_39 ?_
  obtain ⟨hc_40, h⟩ := h
  refine cg_iastoreR C hc_40 dL_gains_40 ?_
  refine cg_nm (fun S4 e_S4 => ?_)
  have h := h S4 e_S4
  refine cg_aload C 7 rfl dL_gains_41 ?_
  refine cg_iconst C (x := nI 1) rfl dL_gains_43 ?_
  refine cg_aload_n C (i := 0) rfl 3 rfl dL_gains_44 ?_
  refine cg_aload_n C (i := 1) rfl 4 rfl dL_gains_45 ?_
  refine cg_aload_n C (i := 2) rfl 5 rfl dL_gains_46 ?_
  refine cg_aload_n C (i := 3) rfl 6 rfl dL_gains_47 ?_
  refine cg_iconst C (x := nI 1) rfl dL_gains_48 ?_
  refine cg_iconst C (x := nI 2) rfl dL_gains_49 ?_
  refine cg_callsi C (t_L_rarity l x0 x1 x2 x3 ((nI 1)) ((nI 2)) S4 dp h) cc_L_30 rfl ⟨by decide, by decide⟩ ⟨by decide, by decide⟩ rfl (Nat.le_of_ble_eq_true rfl) dL_gains_50 (fun r_5 S_5 h => ?_)
  obtain ⟨hc_53, h⟩ := h
  refine cg_iastoreR C hc_53 dL_gains_53 ?_
  refine cg_nm (fun S6 e_S6 => ?_)
  have h := h S6 e_S6
  refine cg_aload C 7 rfl dL_gains_54 ?_
  refine cg_iconst C (x := nI 2) rfl dL_gains_56 ?_
  refine cg_iconst C (x := nI 3) rfl dL_gains_57 ?_
  refine cg_iload C 2 rfl dL_gains_58 ?_
  refine cg_iload C 1 rfl dL_gains_60 ?_
  refine cg_iadd C dL_gains_62 ?_
  refine cg_imul C dL_gains_63 ?_
  obtain ⟨hc_64, h⟩ := h
  refine cg_iastoreR C hc_64 dL_gains_64 ?_
  refine cg_nm (fun S7 e_S7 => ?_)
  have h := h S7 e_S7
  refine cg_aload C 7 rfl dL_gains_65 ?_
  refine cg_iconst C (x := nI 3) rfl dL_gains_67 ?_
  refine cg_iconst C (x := nI 3) rfl dL_gains_68 ?_
  refine cg_iload C 2 rfl dL_gains_69 ?_
  refine cg_iload C 0 rfl dL_gains_71 ?_
  refine cg_iadd C dL_gains_73 ?_
  refine cg_imul C dL_gains_74 ?_
  obtain ⟨hc_75, h⟩ := h
  refine cg_iastoreR C hc_75 dL_gains_75 ?_
  refine cg_nm (fun S8 e_S8 => ?_)
  have h := h S8 e_S8
  refine cg_aload C 7 rfl dL_gains_76 ?_
  refine cg_iconst C (x := nI 4) rfl dL_gains_78 ?_
  refine cg_bipush C (x := nI 96) rfl dL_gains_79 ?_
  obtain ⟨hc_81, h⟩ := h
  refine cg_iastoreR C hc_81 dL_gains_81 ?_
  refine cg_nm (fun S9 e_S9 => ?_)
  have h := h S9 e_S9
  refine cg_aload C 7 rfl dL_gains_82 ?_
  refine cg_iconst C (x := nI 5) rfl dL_gains_84 ?_
  refine cg_bipush C (x := nI 32) rfl dL_gains_85 ?_
  obtain ⟨hc_87, h⟩ := h
  refine cg_iastoreR C hc_87 dL_gains_87 ?_
  refine cg_nm (fun S10 e_S10 => ?_)
  have h := h S10 e_S10
  refine cg_aload C 7 rfl dL_gains_88 ?_
  refine cg_bipush C (x := nI 6) rfl dL_gains_90 ?_
  refine cg_bipush C (x := nI 96) rfl dL_gains_92 ?_
  obtain ⟨hc_94, h⟩ := h
  refine cg_iastoreR C hc_94 dL_gains_94 ?_
  refine cg_nm (fun S11 e_S11 => ?_)
  have h := h S11 e_S11
  refine cg_aload C 7 rfl dL_gains_95 ?_
  refine cg_bipush C (x := nI 7) rfl dL_gains_97 ?_
  refine cg_iconst C (x := nI 3) rfl dL_gains_99 ?_
  refine cg_iload C 0 rfl dL_gains_100 ?_
  refine cg_imul C dL_gains_102 ?_
  obtain ⟨hc_103, h⟩ := h
  refine cg_iastoreR C hc_103 dL_gains_103 ?_
  refine cg_nm (fun S12 e_S12 => ?_)
  have h := h S12 e_S12
  refine cg_aload C 7 rfl dL_gains_104 ?_
  refine cg_bipush C (x := nI 8) rfl dL_gains_106 ?_
  refine cg_iconst C (x := nI 3) rfl dL_gains_108 ?_
  refine cg_aload_n C (i := 0) rfl 3 rfl dL_gains_109 ?_
  refine cg_aload_n C (i := 1) rfl 4 rfl dL_gains_110 ?_
  refine cg_aload_n C (i := 2) rfl 5 rfl dL_gains_111 ?_
  refine cg_aload_n C (i := 3) rfl 6 rfl dL_gains_112 ?_
  refine cg_iconst C (x := nI 0) rfl dL_gains_113 ?_
  refine cg_iconst C (x := nI 4) rfl dL_gains_114 ?_
  refine cg_callsi C (t_L_rarity l x0 x1 x2 x3 ((nI 0)) ((nI 4)) S12 dp h) cc_L_30 rfl ⟨by decide, by decide⟩ ⟨by decide, by decide⟩ rfl (Nat.le_of_ble_eq_true rfl) dL_gains_115 (fun r_13 S_13 h => ?_)
  refine cg_imul C dL_gains_118 ?_
  obtain ⟨hc_119, h⟩ := h
  refine cg_iastoreR C hc_119 dL_gains_119 ?_
  refine cg_nm (fun S14 e_S14 => ?_)
  have h := h S14 e_S14
  exact cg_vret C h dL_gains_120 (by decide) (by decide)
section S_L_gives
variable {p : Program} {l : Launch} {e : Env} {s : State} {m : MethodId} {args : Array Value} {below : List Frame} {meth : Method} {c : Code} {A : Nat → Prop} {D : va_G} {Y : cY} {tp dp : Nat}
set_option maxRecDepth 20000 in
theorem tb_L_gives_33 (C : cC p s m args meth c cL_gives 5 (some .int) A D Y tp dp RL) {post : Int32 → cS → Prop}   (x2 : Int32) (x3 : Nat) (x4 : Int32) (S : cS) (h : k_L_gives_33 post dp  x2 x3 x4 S) : cG p l e (cRm 4 0 0 99) s m args below meth c A D Y 5 (MQ below (cQi post D Y A) args s 0 0 A) 0 0 33 [(2, .int x2), (3, .ref x3), (4, .int x4)] [] S := by
  unfold k_L_gives_33 at h
  refine cg_iload C 2 rfl dL_gives_33 ?_
  refine cg_callsi C (t_L_strength l x4 S dp h) cc_L_38 rfl ⟨by decide, by decide⟩ ⟨by decide, by decide⟩ rfl (Nat.le_of_ble_eq_true rfl) dL_gives_35 (fun r_2 S_2 h => ?_)
  refine cg_aload_n C (i := 3) rfl 1 rfl dL_gives_38 ?_
  refine cg_iload_n C (i := 2) rfl 0 rfl dL_gives_39 ?_
  obtain ⟨hc_40, h⟩ := h
  refine cg_ialoadR C hc_40 dL_gives_40 ?_
  refine cg_imul C dL_gives_41 ?_
  exact cg_iret C h dL_gives_42 (by decide) (by decide)
end S_L_gives
set_option maxHeartbeats 1000000 in
set_option maxRecDepth 20000 in
theorem t_L_gives (l : Launch) (x0 : Int64) (x2 : Int32) (x3 : Nat) (S : cS) (dp : Nat) {P : Int32 → cS → Prop} (h : k_L_gives P dp x0 x2 x3 S) : cMet (cQi P) l yL_gives cL_gives 5 (some .int) 4 0 0 99 [.long x0, .int x2, .ref x3] S dp := by
  intro D Y tp sz
  refine cg_body (by decide +kernel) (Nat.le_of_ble_eq_true rfl) ?_
  intro p e s m args below meth c C
  generalize va_A (cWd Y S) sz = A at C ⊢
  have C : cC p s m args meth c cL_gives 5 (some .int) A D Y tp dp RL := C
  refine cg_lv (lv' := [(0, .long x0), (2, .int x2), (3, .ref x3)]) rfl ?_
  unfold k_L_gives at h
  refine cg_lload_n C (i := 0) rfl 0 rfl dL_gives_0 ?_
  refine cg_iload_n C (i := 2) rfl 1 rfl dL_gives_1 ?_
  refine cg_callsi C (t_L_leafCount l x0 x2 S dp h) cc_L_34 rfl ⟨by decide, by decide⟩ ⟨by decide, by decide⟩ rfl (Nat.le_of_ble_eq_true rfl) dL_gives_2 (fun r_1 S_1 h => ?_)
  refine cg_istore C (lv' := [(4, .int r_1), (0, .long x0), (2, .int x2), (3, .ref x3)]) (Nat.le_of_ble_eq_true rfl) rfl dL_gives_5 ?_
  refine cg_iload C 0 rfl dL_gives_7 ?_
  refine cg_if_ne C 16 (by decide) dL_gives_9 (fun c_ => ?_) (fun c_ => ?_)
  · have h := h.1 c_
    refine cg_iload_n C (i := 2) rfl 2 rfl dL_gives_16 ?_
    refine cg_iconst C (x := nI 3) rfl dL_gives_17 ?_
    refine cg_icmp_le C 33 (by decide) dL_gives_18 (fun c_ => ?_) (fun c_ => ?_)
    · have h := h.1 c_
      exact cg_sub [2, 3, 0] rfl (tb_L_gives_33 C   x2 x3 r_1 S_1 h)
    · have h := h.2 c_
      refine cg_iload_n C (i := 2) rfl 2 rfl dL_gives_21 ?_
      refine cg_bipush C (x := nI 7) rfl dL_gives_22 ?_
      refine cg_icmp_ge C 33 (by decide) dL_gives_24 (fun c_ => ?_) (fun c_ => ?_)
      · have h := h.1 c_
        exact cg_sub [2, 3, 0] rfl (tb_L_gives_33 C   x2 x3 r_1 S_1 h)
      · have h := h.2 c_
        refine cg_aload_n C (i := 3) rfl 3 rfl dL_gives_27 ?_
        refine cg_iload_n C (i := 2) rfl 2 rfl dL_gives_28 ?_
        obtain ⟨hc_29, h⟩ := h
        refine cg_ialoadR C hc_29 dL_gives_29 ?_
        refine cg_goto C 42 (by decide) dL_gives_30 ?_
        exact cg_iret C h dL_gives_42 (by decide) (by decide)
  · have h := h.2 c_
    refine cg_iconst C (x := nI 0) rfl dL_gives_12 ?_
    refine cg_goto C 42 (by decide) dL_gives_13 ?_
    exact cg_iret C h dL_gives_42 (by decide) (by decide)
set_option maxHeartbeats 1000000 in
set_option maxRecDepth 20000 in
theorem t_L_rank (l : Launch) (x0 : Int64) (x2 : Int32) (x3 : Nat) (S : cS) (dp : Nat) {P : Int32 → cS → Prop} (h : k_L_rank P dp x0 x2 x3 S) : cMet (cQi P) l yL_rank cL_rank 7 (some .int) 5 0 0 123 [.long x0, .int x2, .ref x3] S dp := by
  intro D Y tp sz
  refine cg_body (by decide +kernel) (Nat.le_of_ble_eq_true rfl) ?_
  intro p e s m args below meth c C
  generalize va_A (cWd Y S) sz = A at C ⊢
  have C : cC p s m args meth c cL_rank 7 (some .int) A D Y tp dp RL := C
  refine cg_lv (lv' := [(0, .long x0), (2, .int x2), (3, .ref x3)]) rfl ?_
  unfold k_L_rank at h
  refine cg_iload_n C (i := 2) rfl 1 rfl dL_rank_0 ?_
  refine cg_bipush C (x := nI 7) rfl dL_rank_1 ?_
  refine cg_icmp_ge C 13 (by decide) dL_rank_3 (fun c_ => ?_) (fun c_ => ?_)
  · have h := h.1 c_
    refine cg_lload_n C (i := 0) rfl 0 rfl dL_rank_13 ?_
    refine cg_iconst C (x := nI 0) rfl dL_rank_14 ?_
    refine cg_aload_n C (i := 3) rfl 2 rfl dL_rank_15 ?_
    refine cg_callsi C (t_L_gives l x0 ((nI 0)) x3 S dp h) cc_L_42 rfl ⟨by decide, by decide⟩ ⟨by decide, by decide⟩ rfl (Nat.le_of_ble_eq_true rfl) dL_rank_16 (fun r_1 S_1 h => ?_)
    refine cg_istore C (lv' := [(4, .int r_1), (0, .long x0), (2, .int x2), (3, .ref x3)]) (Nat.le_of_ble_eq_true rfl) rfl dL_rank_19 ?_
    refine cg_lload_n C (i := 0) rfl 1 rfl dL_rank_21 ?_
    refine cg_iconst C (x := nI 1) rfl dL_rank_22 ?_
    refine cg_aload_n C (i := 3) rfl 3 rfl dL_rank_23 ?_
    refine cg_callsi C (t_L_gives l x0 ((nI 1)) x3 S_1 dp h) cc_L_42 rfl ⟨by decide, by decide⟩ ⟨by decide, by decide⟩ rfl (Nat.le_of_ble_eq_true rfl) dL_rank_24 (fun r_2 S_2 h => ?_)
    refine cg_istore C (lv' := [(5, .int r_2), (4, .int r_1), (0, .long x0), (2, .int x2), (3, .ref x3)]) (Nat.le_of_ble_eq_true rfl) rfl dL_rank_27 ?_
    refine cg_lload_n C (i := 0) rfl 2 rfl dL_rank_29 ?_
    refine cg_iload_n C (i := 2) rfl 3 rfl dL_rank_30 ?_
    refine cg_aload_n C (i := 3) rfl 4 rfl dL_rank_31 ?_
    refine cg_callsi C (t_L_gives l x0 x2 x3 S_2 dp h) cc_L_42 rfl ⟨by decide, by decide⟩ ⟨by decide, by decide⟩ rfl (Nat.le_of_ble_eq_true rfl) dL_rank_32 (fun r_3 S_3 h => ?_)
    refine cg_istore C (lv' := [(6, .int r_3), (5, .int r_2), (4, .int r_1), (0, .long x0), (2, .int x2), (3, .ref x3)]) (Nat.le_of_ble_eq_true rfl) rfl dL_rank_35 ?_
    refine cg_iload_n C (i := 2) rfl 4 rfl dL_rank_37 ?_
    refine cg_bipush C (x := nI 7) rfl dL_rank_38 ?_
    refine cg_icmp_ne C 54 (by decide) dL_rank_40 (fun c_ => ?_) (fun c_ => ?_)
    · have h := h.1 c_
      refine cg_iload C 2 rfl dL_rank_54 ?_
      refine cg_if_le C 77 (by decide) dL_rank_56 (fun c_ => ?_) (fun c_ => ?_)
      · have h := h.1 c_
        refine cg_iconst C (x := nI 0) rfl dL_rank_77 ?_
        exact cg_iret C h dL_rank_78 (by decide) (by decide)
      · have h := h.2 c_
        refine cg_iload C 0 rfl dL_rank_59 ?_
        refine cg_if_le C 77 (by decide) dL_rank_61 (fun c_ => ?_) (fun c_ => ?_)
        · have h := h.1 c_
          refine cg_iconst C (x := nI 0) rfl dL_rank_77 ?_
          exact cg_iret C h dL_rank_78 (by decide) (by decide)
        · have h := h.2 c_
          refine cg_iload C 1 rfl dL_rank_64 ?_
          refine cg_if_ne C 77 (by decide) dL_rank_66 (fun c_ => ?_) (fun c_ => ?_)
          · have h := h.1 c_
            refine cg_iconst C (x := nI 0) rfl dL_rank_77 ?_
            exact cg_iret C h dL_rank_78 (by decide) (by decide)
          · have h := h.2 c_
            refine cg_iload C 2 rfl dL_rank_69 ?_
            refine cg_iload C 0 rfl dL_rank_71 ?_
            refine cg_iadd C dL_rank_73 ?_
            refine cg_goto C 78 (by decide) dL_rank_74 ?_
            exact cg_iret C h dL_rank_78 (by decide) (by decide)
    · have h := h.2 c_
      refine cg_iload C 2 rfl dL_rank_43 ?_
      refine cg_iload C 1 rfl dL_rank_45 ?_
      refine cg_iadd C dL_rank_47 ?_
      refine cg_iload C 0 rfl dL_rank_48 ?_
      refine cg_iadd C dL_rank_50 ?_
      refine cg_goto C 78 (by decide) dL_rank_51 ?_
      exact cg_iret C h dL_rank_78 (by decide) (by decide)
  · have h := h.2 c_
    refine cg_lload_n C (i := 0) rfl 0 rfl dL_rank_6 ?_
    refine cg_iload_n C (i := 2) rfl 1 rfl dL_rank_7 ?_
    refine cg_aload_n C (i := 3) rfl 2 rfl dL_rank_8 ?_
    refine cg_callsi C (t_L_gives l x0 x2 x3 S dp h) cc_L_42 rfl ⟨by decide, by decide⟩ ⟨by decide, by decide⟩ rfl (Nat.le_of_ble_eq_true rfl) dL_rank_9 (fun r_4 S_4 h => ?_)
    exact cg_iret C h dL_rank_12 (by decide) (by decide)
section S_L_bound
variable {p : Program} {l : Launch} {e : Env} {s : State} {m : MethodId} {args : Array Value} {below : List Frame} {meth : Method} {c : Code} {A : Nat → Prop} {D : va_G} {Y : cY} {tp dp : Nat}
set_option maxRecDepth 20000 in
theorem tb_L_bound_203 (C : cC p s m args meth c cL_bound 15 (some .int) A D Y tp dp RL) {post : Int32 → cS → Prop} {R6 : Nat → Nat → Int32 → Int32 → Int32 → Int32 → Nat → Int32 → Int32 → cS → Prop} (hR6 : ∀ (x0 : Nat) (x1 : Nat) (x2 : Int32) (x3 : Int32) (x4 : Int32) (x5 : Int32) (x6 : Nat) (x7 : Int32) (x8 : Int32) (S : cS), R6 x0 x1 x2 x3 x4 x5 x6 x7 x8 S → cG p l e (cRm 4 0 0 99) s m args below meth c A D Y 15 (MQ below (cQi post D Y A) args s 0 0 A) 0 0 6 [(0, .ref x0), (1, .ref x1), (2, .int x2), (3, .int x3), (4, .int x4), (5, .int x5), (6, .ref x6), (7, .int x7), (8, .int x8)] [] S) (x0 : Nat) (x1 : Nat) (x2 : Int32) (x3 : Int32) (x4 : Int32) (x5 : Int32) (x6 : Nat) (x8 : Int32) (t0 : Int32) (t1 : Int32) (S : cS) (h : k_L_bound_203 post dp R6 x0 x1 x2 x3 x4 x5 x6 x8 t0 t1 S) : cG p l e (cRm 4 0 0 99) s m args below meth c A D Y 15 (MQ below (cQi post D Y A) args s 0 0 A) 0 0 203 [(0, .ref x0), (1, .ref x1), (2, .int x2), (3, .int x3), (4, .int x4), (5, .int x5), (6, .ref x6), (8, .int x8)] [.int t0, .int t1] S := by
  unfold k_L_bound_203 at h
  refine cg_iadd C dL_bound_203 ?_
  refine cg_nmI (fun x7_2 e_x7_2 => ?_)
  have h := h x7_2 e_x7_2
  refine cg_istore C (lv' := [(7, .int x7_2), (0, .ref x0), (1, .ref x1), (2, .int x2), (3, .int x3), (4, .int x4), (5, .int x5), (6, .ref x6), (8, .int x8)]) (Nat.le_of_ble_eq_true rfl) rfl dL_bound_204 ?_
  obtain ⟨x8_3, e_x8_3⟩ : ∃ z : Int32, z = x8 + nI 1 := ⟨_, rfl⟩
  have h := h x8_3 e_x8_3
  refine cg_iinc C (lv' := [(8, .int x8_3), (7, .int x7_2), (0, .ref x0), (1, .ref x1), (2, .int x2), (3, .int x3), (4, .int x4), (5, .int x5), (6, .ref x6)]) 8 rfl (by rw [e_x8_3]; rfl) (Nat.le_of_ble_eq_true rfl) rfl dL_bound_206 ?_
  refine cg_goto C 6 (by decide) dL_bound_209 ?_
  exact cg_sub [2, 3, 4, 5, 6, 7, 8, 1, 0] rfl (hR6 x0 x1 x2 x3 x4 x5 x6 x7_2 x8_3 S h)
set_option maxRecDepth 20000 in
theorem tb_L_bound_192 (C : cC p s m args meth c cL_bound 15 (some .int) A D Y tp dp RL) {post : Int32 → cS → Prop} {R6 : Nat → Nat → Int32 → Int32 → Int32 → Int32 → Nat → Int32 → Int32 → cS → Prop} (hR6 : ∀ (x0 : Nat) (x1 : Nat) (x2 : Int32) (x3 : Int32) (x4 : Int32) (x5 : Int32) (x6 : Nat) (x7 : Int32) (x8 : Int32) (S : cS), R6 x0 x1 x2 x3 x4 x5 x6 x7 x8 S → cG p l e (cRm 4 0 0 99) s m args below meth c A D Y 15 (MQ below (cQi post D Y A) args s 0 0 A) 0 0 6 [(0, .ref x0), (1, .ref x1), (2, .int x2), (3, .int x3), (4, .int x4), (5, .int x5), (6, .ref x6), (7, .int x7), (8, .int x8)] [] S) (x0 : Nat) (x1 : Nat) (x2 : Int32) (x3 : Int32) (x4 : Int32) (x5 : Int32) (x6 : Nat) (x8 : Int32) (x10 : Int32) (t0 : Int32) (S : cS) (h : k_L_bound_192 post dp R6 x0 x1 x2 x3 x4 x5 x6 x8 x10 t0 S) : cG p l e (cRm 4 0 0 99) s m args below meth c A D Y 15 (MQ below (cQi post D Y A) args s 0 0 A) 0 0 192 [(0, .ref x0), (1, .ref x1), (2, .int x2), (3, .int x3), (4, .int x4), (5, .int x5), (6, .ref x6), (8, .int x8), (10, .int x10)] [.int t0] S := by
  unfold k_L_bound_192 at h
  refine cg_iload C 8 rfl dL_bound_192 ?_
  refine cg_callsi C (t_L_strength l x10 S dp h) cc_L_38 rfl ⟨by decide, by decide⟩ ⟨by decide, by decide⟩ rfl (Nat.le_of_ble_eq_true rfl) dL_bound_194 (fun r_1 S_1 h => ?_)
  refine cg_aload C 6 rfl dL_bound_197 ?_
  refine cg_iload C 7 rfl dL_bound_199 ?_
  obtain ⟨hc_201, h⟩ := h
  refine cg_ialoadR C hc_201 dL_bound_201 ?_
  refine cg_imul C dL_bound_202 ?_
  exact cg_sub [0, 1, 2, 3, 4, 5, 6, 7] rfl (tb_L_bound_203 C  hR6 x0 x1 x2 x3 x4 x5 x6 x8 ((r_1 * ((cI S_1 x6 (x8).toNatClampNeg)))) t0 S_1 h)
set_option maxRecDepth 20000 in
theorem tb_L_bound_160 (C : cC p s m args meth c cL_bound 15 (some .int) A D Y tp dp RL) {post : Int32 → cS → Prop} {R6 : Nat → Nat → Int32 → Int32 → Int32 → Int32 → Nat → Int32 → Int32 → cS → Prop} (hR6 : ∀ (x0 : Nat) (x1 : Nat) (x2 : Int32) (x3 : Int32) (x4 : Int32) (x5 : Int32) (x6 : Nat) (x7 : Int32) (x8 : Int32) (S : cS), R6 x0 x1 x2 x3 x4 x5 x6 x7 x8 S → cG p l e (cRm 4 0 0 99) s m args below meth c A D Y 15 (MQ below (cQi post D Y A) args s 0 0 A) 0 0 6 [(0, .ref x0), (1, .ref x1), (2, .int x2), (3, .int x3), (4, .int x4), (5, .int x5), (6, .ref x6), (7, .int x7), (8, .int x8)] [] S) (x0 : Nat) (x1 : Nat) (x2 : Int32) (x3 : Int32) (x4 : Int32) (x5 : Int32) (x6 : Nat) (x7 : Int32) (x8 : Int32) (x10 : Int32) (S : cS) (h : k_L_bound_160 post dp R6 x0 x1 x2 x3 x4 x5 x6 x7 x8 x10 S) : cG p l e (cRm 4 0 0 99) s m args below meth c A D Y 15 (MQ below (cQi post D Y A) args s 0 0 A) 0 0 160 [(0, .ref x0), (1, .ref x1), (2, .int x2), (3, .int x3), (4, .int x4), (5, .int x5), (6, .ref x6), (7, .int x7), (8, .int x8), (10, .int x10)] [] S := by
  unfold k_L_bound_160 at h
  refine cg_iload C 7 rfl dL_bound_160 ?_
  refine cg_iload C 9 rfl dL_bound_162 ?_
  refine cg_if_ne C 171 (by decide) dL_bound_164 (fun c_ => ?_) (fun c_ => ?_)
  · have h := h.1 c_
    refine cg_iload C 8 rfl dL_bound_171 ?_
    refine cg_iconst C (x := nI 3) rfl dL_bound_173 ?_
    refine cg_icmp_le C 192 (by decide) dL_bound_174 (fun c_ => ?_) (fun c_ => ?_)
    · have h := h.1 c_
      exact cg_sub [0, 1, 2, 3, 4, 5, 6, 8, 9] rfl (tb_L_bound_192 C  hR6 x0 x1 x2 x3 x4 x5 x6 x8 x10 x7 S h)
    · have h := h.2 c_
      refine cg_iload C 8 rfl dL_bound_177 ?_
      refine cg_bipush C (x := nI 7) rfl dL_bound_179 ?_
      refine cg_icmp_ge C 192 (by decide) dL_bound_181 (fun c_ => ?_) (fun c_ => ?_)
      · have h := h.1 c_
        exact cg_sub [0, 1, 2, 3, 4, 5, 6, 8, 9] rfl (tb_L_bound_192 C  hR6 x0 x1 x2 x3 x4 x5 x6 x8 x10 x7 S h)
      · have h := h.2 c_
        refine cg_aload C 6 rfl dL_bound_184 ?_
        refine cg_iload C 8 rfl dL_bound_186 ?_
        obtain ⟨hc_188, h⟩ := h
        refine cg_ialoadR C hc_188 dL_bound_188 ?_
        refine cg_goto C 203 (by decide) dL_bound_189 ?_
        exact cg_sub [0, 1, 2, 3, 4, 5, 6, 8] rfl (tb_L_bound_203 C  hR6 x0 x1 x2 x3 x4 x5 x6 x8 ((cI S x6 (x8).toNatClampNeg)) x7 S h)
  · have h := h.2 c_
    refine cg_iconst C (x := nI 0) rfl dL_bound_167 ?_
    refine cg_goto C 203 (by decide) dL_bound_168 ?_
    exact cg_sub [0, 1, 2, 3, 4, 5, 6, 8] rfl (tb_L_bound_203 C  hR6 x0 x1 x2 x3 x4 x5 x6 x8 ((nI 0)) x7 S h)
set_option maxRecDepth 20000 in
theorem tb_L_bound_152 (C : cC p s m args meth c cL_bound 15 (some .int) A D Y tp dp RL) {post : Int32 → cS → Prop} {R6 : Nat → Nat → Int32 → Int32 → Int32 → Int32 → Nat → Int32 → Int32 → cS → Prop} {R84 : Nat → Nat → Int32 → Int32 → Int32 → Int32 → Nat → Int32 → Int32 → Int32 → Int32 → Int32 → cS → Prop} (hR6 : ∀ (x0 : Nat) (x1 : Nat) (x2 : Int32) (x3 : Int32) (x4 : Int32) (x5 : Int32) (x6 : Nat) (x7 : Int32) (x8 : Int32) (S : cS), R6 x0 x1 x2 x3 x4 x5 x6 x7 x8 S → cG p l e (cRm 4 0 0 99) s m args below meth c A D Y 15 (MQ below (cQi post D Y A) args s 0 0 A) 0 0 6 [(0, .ref x0), (1, .ref x1), (2, .int x2), (3, .int x3), (4, .int x4), (5, .int x5), (6, .ref x6), (7, .int x7), (8, .int x8)] [] S) (hR84 : ∀ (x0 : Nat) (x1 : Nat) (x2 : Int32) (x3 : Int32) (x4 : Int32) (x5 : Int32) (x6 : Nat) (x7 : Int32) (x8 : Int32) (x9 : Int32) (x10 : Int32) (x11 : Int32) (S : cS), R84 x0 x1 x2 x3 x4 x5 x6 x7 x8 x9 x10 x11 S → cG p l e (cRm 4 0 0 99) s m args below meth c A D Y 15 (MQ below (cQi post D Y A) args s 0 0 A) 0 0 84 [(0, .ref x0), (1, .ref x1), (2, .int x2), (3, .int x3), (4, .int x4), (5, .int x5), (6, .ref x6), (7, .int x7), (8, .int x8), (9, .int x9), (10, .int x10), (11, .int x11)] [] S) (x0 : Nat) (x1 : Nat) (x2 : Int32) (x3 : Int32) (x4 : Int32) (x5 : Int32) (x6 : Nat) (x7 : Int32) (x8 : Int32) (x9 : Int32) (x11 : Int32) (t0 : Int32) (S : cS) (h : k_L_bound_152 post dp R6 R84 x0 x1 x2 x3 x4 x5 x6 x7 x8 x9 x11 t0 S) : cG p l e (cRm 4 0 0 99) s m args below meth c A D Y 15 (MQ below (cQi post D Y A) args s 0 0 A) 0 0 152 [(0, .ref x0), (1, .ref x1), (2, .int x2), (3, .int x3), (4, .int x4), (5, .int x5), (6, .ref x6), (7, .int x7), (8, .int x8), (9, .int x9), (11, .int x11)] [.int t0] S := by
  unfold k_L_bound_152 at h
  refine cg_istore C (lv' := [(10, .int t0), (0, .ref x0), (1, .ref x1), (2, .int x2), (3, .int x3), (4, .int x4), (5, .int x5), (6, .ref x6), (7, .int x7), (8, .int x8), (9, .int x9), (11, .int x11)]) (Nat.le_of_ble_eq_true rfl) rfl dL_bound_152 ?_
  obtain ⟨x11_7, e_x11_7⟩ : ∃ z : Int32, z = x11 + nI 1 := ⟨_, rfl⟩
  have h := h x11_7 e_x11_7
  refine cg_iinc C (lv' := [(11, .int x11_7), (10, .int t0), (0, .ref x0), (1, .ref x1), (2, .int x2), (3, .int x3), (4, .int x4), (5, .int x5), (6, .ref x6), (7, .int x7), (8, .int x8), (9, .int x9)]) 11 rfl (by rw [e_x11_7]; rfl) (Nat.le_of_ble_eq_true rfl) rfl dL_bound_154 ?_
  refine cg_goto C 84 (by decide) dL_bound_157 ?_
  exact cg_sub [2, 3, 4, 5, 6, 7, 8, 9, 10, 11, 1, 0] rfl (hR84 x0 x1 x2 x3 x4 x5 x6 x7 x8 x9 t0 x11_7 S h)
set_option maxRecDepth 20000 in
theorem tb_L_bound_136 (C : cC p s m args meth c cL_bound 15 (some .int) A D Y tp dp RL) {post : Int32 → cS → Prop} {R6 : Nat → Nat → Int32 → Int32 → Int32 → Int32 → Nat → Int32 → Int32 → cS → Prop} {R84 : Nat → Nat → Int32 → Int32 → Int32 → Int32 → Nat → Int32 → Int32 → Int32 → Int32 → Int32 → cS → Prop} (hR6 : ∀ (x0 : Nat) (x1 : Nat) (x2 : Int32) (x3 : Int32) (x4 : Int32) (x5 : Int32) (x6 : Nat) (x7 : Int32) (x8 : Int32) (S : cS), R6 x0 x1 x2 x3 x4 x5 x6 x7 x8 S → cG p l e (cRm 4 0 0 99) s m args below meth c A D Y 15 (MQ below (cQi post D Y A) args s 0 0 A) 0 0 6 [(0, .ref x0), (1, .ref x1), (2, .int x2), (3, .int x3), (4, .int x4), (5, .int x5), (6, .ref x6), (7, .int x7), (8, .int x8)] [] S) (hR84 : ∀ (x0 : Nat) (x1 : Nat) (x2 : Int32) (x3 : Int32) (x4 : Int32) (x5 : Int32) (x6 : Nat) (x7 : Int32) (x8 : Int32) (x9 : Int32) (x10 : Int32) (x11 : Int32) (S : cS), R84 x0 x1 x2 x3 x4 x5 x6 x7 x8 x9 x10 x11 S → cG p l e (cRm 4 0 0 99) s m args below meth c A D Y 15 (MQ below (cQi post D Y A) args s 0 0 A) 0 0 84 [(0, .ref x0), (1, .ref x1), (2, .int x2), (3, .int x3), (4, .int x4), (5, .int x5), (6, .ref x6), (7, .int x7), (8, .int x8), (9, .int x9), (10, .int x10), (11, .int x11)] [] S) (x0 : Nat) (x1 : Nat) (x2 : Int32) (x3 : Int32) (x4 : Int32) (x5 : Int32) (x6 : Nat) (x7 : Int32) (x8 : Int32) (x9 : Int32) (x10 : Int32) (x11 : Int32) (t0 : Int32) (S : cS) (h : k_L_bound_136 post dp R6 R84 x0 x1 x2 x3 x4 x5 x6 x7 x8 x9 x10 x11 t0 S) : cG p l e (cRm 4 0 0 99) s m args below meth c A D Y 15 (MQ below (cQi post D Y A) args s 0 0 A) 0 0 136 [(0, .ref x0), (1, .ref x1), (2, .int x2), (3, .int x3), (4, .int x4), (5, .int x5), (6, .ref x6), (7, .int x7), (8, .int x8), (9, .int x9), (10, .int x10), (11, .int x11)] [.int t0] S := by
  unfold k_L_bound_136 at h
  refine cg_istore C (lv' := [(14, .int t0), (0, .ref x0), (1, .ref x1), (2, .int x2), (3, .int x3), (4, .int x4), (5, .int x5), (6, .ref x6), (7, .int x7), (8, .int x8), (9, .int x9), (10, .int x10), (11, .int x11)]) (Nat.le_of_ble_eq_true rfl) rfl dL_bound_136 ?_
  refine cg_iload C 0 rfl dL_bound_138 ?_
  refine cg_iload C 11 rfl dL_bound_140 ?_
  refine cg_icmp_le C 150 (by decide) dL_bound_142 (fun c_ => ?_) (fun c_ => ?_)
  · have h := h.1 c_
    refine cg_iload C 11 rfl dL_bound_150 ?_
    exact cg_sub [1, 2, 3, 4, 5, 6, 7, 8, 9, 10, 12] rfl (tb_L_bound_152 C  hR6 hR84 x0 x1 x2 x3 x4 x5 x6 x7 x8 x9 x11 x10 S h)
  · have h := h.2 c_
    refine cg_iload C 0 rfl dL_bound_145 ?_
    refine cg_goto C 152 (by decide) dL_bound_147 ?_
    exact cg_sub [1, 2, 3, 4, 5, 6, 7, 8, 9, 10, 12] rfl (tb_L_bound_152 C  hR6 hR84 x0 x1 x2 x3 x4 x5 x6 x7 x8 x9 x11 t0 S h)
set_option maxRecDepth 20000 in
theorem tb_L_bound_119 (C : cC p s m args meth c cL_bound 15 (some .int) A D Y tp dp RL) {post : Int32 → cS → Prop} {R6 : Nat → Nat → Int32 → Int32 → Int32 → Int32 → Nat → Int32 → Int32 → cS → Prop} {R84 : Nat → Nat → Int32 → Int32 → Int32 → Int32 → Nat → Int32 → Int32 → Int32 → Int32 → Int32 → cS → Prop} (hR6 : ∀ (x0 : Nat) (x1 : Nat) (x2 : Int32) (x3 : Int32) (x4 : Int32) (x5 : Int32) (x6 : Nat) (x7 : Int32) (x8 : Int32) (S : cS), R6 x0 x1 x2 x3 x4 x5 x6 x7 x8 S → cG p l e (cRm 4 0 0 99) s m args below meth c A D Y 15 (MQ below (cQi post D Y A) args s 0 0 A) 0 0 6 [(0, .ref x0), (1, .ref x1), (2, .int x2), (3, .int x3), (4, .int x4), (5, .int x5), (6, .ref x6), (7, .int x7), (8, .int x8)] [] S) (hR84 : ∀ (x0 : Nat) (x1 : Nat) (x2 : Int32) (x3 : Int32) (x4 : Int32) (x5 : Int32) (x6 : Nat) (x7 : Int32) (x8 : Int32) (x9 : Int32) (x10 : Int32) (x11 : Int32) (S : cS), R84 x0 x1 x2 x3 x4 x5 x6 x7 x8 x9 x10 x11 S → cG p l e (cRm 4 0 0 99) s m args below meth c A D Y 15 (MQ below (cQi post D Y A) args s 0 0 A) 0 0 84 [(0, .ref x0), (1, .ref x1), (2, .int x2), (3, .int x3), (4, .int x4), (5, .int x5), (6, .ref x6), (7, .int x7), (8, .int x8), (9, .int x9), (10, .int x10), (11, .int x11)] [] S) (x0 : Nat) (x1 : Nat) (x2 : Int32) (x3 : Int32) (x4 : Int32) (x5 : Int32) (x6 : Nat) (x7 : Int32) (x8 : Int32) (x9 : Int32) (x10 : Int32) (x11 : Int32) (x12 : Int64) (S : cS) (h : k_L_bound_119 post dp R6 R84 x0 x1 x2 x3 x4 x5 x6 x7 x8 x9 x10 x11 x12 S) : cG p l e (cRm 4 0 0 99) s m args below meth c A D Y 15 (MQ below (cQi post D Y A) args s 0 0 A) 0 0 119 [(0, .ref x0), (1, .ref x1), (2, .int x2), (3, .int x3), (4, .int x4), (5, .int x5), (6, .ref x6), (7, .int x7), (8, .int x8), (9, .int x9), (10, .int x10), (11, .int x11), (12, .long x12)] [] S := by
  unfold k_L_bound_119 at h
  refine cg_lload C 12 rfl dL_bound_119 ?_
  refine cg_iconst C (x := nI 0) rfl dL_bound_121 ?_
  refine cg_iconst C (x := nI 0) rfl dL_bound_122 ?_
  refine cg_callsi C (t_L_count l x12 ((nI 0)) ((nI 0)) S dp h) cc_L_23 rfl ⟨by decide, by decide⟩ ⟨by decide, by decide⟩ rfl (Nat.le_of_ble_eq_true rfl) dL_bound_123 (fun r_6 S_6 h => ?_)
  refine cg_goto C 136 (by decide) dL_bound_126 ?_
  exact cg_sub [0, 1, 2, 3, 4, 5, 6, 7, 8, 9, 10, 11] rfl (tb_L_bound_136 C  hR6 hR84 x0 x1 x2 x3 x4 x5 x6 x7 x8 x9 x10 x11 r_6 S_6 h)
set_option maxRecDepth 20000 in
theorem tb_L_bound_84 (C : cC p s m args meth c cL_bound 15 (some .int) A D Y tp dp RL) {post : Int32 → cS → Prop} {R6 : Nat → Nat → Int32 → Int32 → Int32 → Int32 → Nat → Int32 → Int32 → cS → Prop} {R84 : Nat → Nat → Int32 → Int32 → Int32 → Int32 → Nat → Int32 → Int32 → Int32 → Int32 → Int32 → cS → Prop} (hR6 : ∀ (x0 : Nat) (x1 : Nat) (x2 : Int32) (x3 : Int32) (x4 : Int32) (x5 : Int32) (x6 : Nat) (x7 : Int32) (x8 : Int32) (S : cS), R6 x0 x1 x2 x3 x4 x5 x6 x7 x8 S → cG p l e (cRm 4 0 0 99) s m args below meth c A D Y 15 (MQ below (cQi post D Y A) args s 0 0 A) 0 0 6 [(0, .ref x0), (1, .ref x1), (2, .int x2), (3, .int x3), (4, .int x4), (5, .int x5), (6, .ref x6), (7, .int x7), (8, .int x8)] [] S) (hR84 : ∀ (x0 : Nat) (x1 : Nat) (x2 : Int32) (x3 : Int32) (x4 : Int32) (x5 : Int32) (x6 : Nat) (x7 : Int32) (x8 : Int32) (x9 : Int32) (x10 : Int32) (x11 : Int32) (S : cS), R84 x0 x1 x2 x3 x4 x5 x6 x7 x8 x9 x10 x11 S → cG p l e (cRm 4 0 0 99) s m args below meth c A D Y 15 (MQ below (cQi post D Y A) args s 0 0 A) 0 0 84 [(0, .ref x0), (1, .ref x1), (2, .int x2), (3, .int x3), (4, .int x4), (5, .int x5), (6, .ref x6), (7, .int x7), (8, .int x8), (9, .int x9), (10, .int x10), (11, .int x11)] [] S) (x0 : Nat) (x1 : Nat) (x2 : Int32) (x3 : Int32) (x4 : Int32) (x5 : Int32) (x6 : Nat) (x7 : Int32) (x8 : Int32) (x9 : Int32) (x10 : Int32) (x11 : Int32) (S : cS) (h : k_L_bound_84 post dp R6 R84 x0 x1 x2 x3 x4 x5 x6 x7 x8 x9 x10 x11 S) : cG p l e (cRm 4 0 0 99) s m args below meth c A D Y 15 (MQ below (cQi post D Y A) args s 0 0 A) 0 0 84 [(0, .ref x0), (1, .ref x1), (2, .int x2), (3, .int x3), (4, .int x4), (5, .int x5), (6, .ref x6), (7, .int x7), (8, .int x8), (9, .int x9), (10, .int x10), (11, .int x11)] [] S := by
  unfold k_L_bound_84 at h
  refine cg_iload C 11 rfl dL_bound_84 ?_
  refine cg_iload C 4 rfl dL_bound_86 ?_
  refine cg_icmp_ge C 160 (by decide) dL_bound_88 (fun c_ => ?_) (fun c_ => ?_)
  · have h := h.1 c_
    exact cg_sub [0, 1, 2, 3, 4, 5, 6, 7, 8, 10] rfl (tb_L_bound_160 C  hR6 x0 x1 x2 x3 x4 x5 x6 x7 x8 x10 S h)
  · have h := h.2 c_
    refine cg_iload C 9 rfl dL_bound_91 ?_
    refine cg_if_eq C 160 (by decide) dL_bound_93 (fun c_ => ?_) (fun c_ => ?_)
    · have h := h.1 c_
      exact cg_sub [0, 1, 2, 3, 4, 5, 6, 7, 8, 10] rfl (tb_L_bound_160 C  hR6 x0 x1 x2 x3 x4 x5 x6 x7 x8 x10 S h)
    · have h := h.2 c_
      refine cg_aload_n C (i := 0) rfl 0 rfl dL_bound_96 ?_
      refine cg_aload_n C (i := 1) rfl 1 rfl dL_bound_97 ?_
      refine cg_iload_n C (i := 2) rfl 2 rfl dL_bound_98 ?_
      refine cg_iload C 11 rfl dL_bound_99 ?_
      refine cg_callsi C (t_L_record l x1 x2 x11 S dp h) cc_L_26 rfl ⟨by decide, by decide⟩ ⟨by decide, by decide⟩ rfl (Nat.le_of_ble_eq_true rfl) dL_bound_101 (fun r_4 S_4 h => ?_)
      obtain ⟨hc_104, h⟩ := h
      refine cg_laloadR C hc_104 dL_bound_104 ?_
      refine cg_nmL (fun x12_5 e_x12_5 => ?_)
      have h := h x12_5 e_x12_5
      refine cg_lstore C (lv' := [(12, .long x12_5), (0, .ref x0), (1, .ref x1), (2, .int x2), (3, .int x3), (4, .int x4), (5, .int x5), (6, .ref x6), (7, .int x7), (8, .int x8), (9, .int x9), (10, .int x10), (11, .int x11)]) (Nat.le_of_ble_eq_true rfl) rfl dL_bound_105 ?_
      refine cg_iload C 9 rfl dL_bound_107 ?_
      refine cg_iconst C (x := nI 2) rfl dL_bound_109 ?_
      refine cg_icmp_eq C 119 (by decide) dL_bound_110 (fun c_ => ?_) (fun c_ => ?_)
      · have h := h.1 c_
        exact cg_sub [1, 2, 3, 4, 5, 6, 7, 8, 9, 10, 11, 12, 0] rfl (tb_L_bound_119 C  hR6 hR84 x0 x1 x2 x3 x4 x5 x6 x7 x8 x9 x10 x11 x12_5 S_4 h)
      · have h := h.2 c_
        refine cg_iload C 9 rfl dL_bound_113 ?_
        refine cg_iconst C (x := nI 3) rfl dL_bound_115 ?_
        refine cg_icmp_ne C 129 (by decide) dL_bound_116 (fun c_ => ?_) (fun c_ => ?_)
        · have h := h.1 c_
          refine cg_lload C 0 rfl dL_bound_129 ?_
          refine cg_iload C 9 rfl dL_bound_131 ?_
          refine cg_callsi C (t_L_leafCount l x12_5 x8 S_4 dp h) cc_L_34 rfl ⟨by decide, by decide⟩ ⟨by decide, by decide⟩ rfl (Nat.le_of_ble_eq_true rfl) dL_bound_133 (fun r_8 S_8 h => ?_)
          exact cg_sub [1, 2, 3, 4, 5, 6, 7, 8, 9, 10, 11, 12] rfl (tb_L_bound_136 C  hR6 hR84 x0 x1 x2 x3 x4 x5 x6 x7 x8 x9 x10 x11 r_8 S_8 h)
        · have h := h.2 c_
          exact cg_sub [1, 2, 3, 4, 5, 6, 7, 8, 9, 10, 11, 12, 0] rfl (tb_L_bound_119 C  hR6 hR84 x0 x1 x2 x3 x4 x5 x6 x7 x8 x9 x10 x11 x12_5 S_4 h)
set_option maxRecDepth 20000 in
theorem tl_L_bound_84 (C : cC p s m args meth c cL_bound 15 (some .int) A D Y tp dp RL) {post : Int32 → cS → Prop} {R6 : Nat → Nat → Int32 → Int32 → Int32 → Int32 → Nat → Int32 → Int32 → cS → Prop} (hR6 : ∀ (x0 : Nat) (x1 : Nat) (x2 : Int32) (x3 : Int32) (x4 : Int32) (x5 : Int32) (x6 : Nat) (x7 : Int32) (x8 : Int32) (S : cS), R6 x0 x1 x2 x3 x4 x5 x6 x7 x8 S → cG p l e (cRm 4 0 0 99) s m args below meth c A D Y 15 (MQ below (cQi post D Y A) args s 0 0 A) 0 0 6 [(0, .ref x0), (1, .ref x1), (2, .int x2), (3, .int x3), (4, .int x4), (5, .int x5), (6, .ref x6), (7, .int x7), (8, .int x8)] [] S) (x0 : Nat) (x1 : Nat) (x2 : Int32) (x3 : Int32) (x4 : Int32) (x5 : Int32) (x6 : Nat) (x7 : Int32) (x8 : Int32) (x9 : Int32) (x10 : Int32) (x11 : Int32) (S : cS) (h : k_L_bound_84L post dp R6 x0 x1 x2 x3 x4 x5 x6 x7 x8 x9 x10 x11 S) : cG p l e (cRm 4 0 0 99) s m args below meth c A D Y 15 (MQ below (cQi post D Y A) args s 0 0 A) 0 0 84 [(0, .ref x0), (1, .ref x1), (2, .int x2), (3, .int x3), (4, .int x4), (5, .int x5), (6, .ref x6), (7, .int x7), (8, .int x8), (9, .int x9), (10, .int x10), (11, .int x11)] [] S :=
  h (fun y => cG p l e (cRm 4 0 0 99) s m args below meth c A D Y 15 (MQ below (cQi post D Y A) args s 0 0 A) 0 0 84 [(0, .ref (y.1)), (1, .ref (y.2.1)), (2, .int (y.2.2.1)), (3, .int (y.2.2.2.1)), (4, .int (y.2.2.2.2.1)), (5, .int (y.2.2.2.2.2.1)), (6, .ref (y.2.2.2.2.2.2.1)), (7, .int (y.2.2.2.2.2.2.2.1)), (8, .int (y.2.2.2.2.2.2.2.2.1)), (9, .int (y.2.2.2.2.2.2.2.2.2.1)), (10, .int (y.2.2.2.2.2.2.2.2.2.2.1)), (11, .int (y.2.2.2.2.2.2.2.2.2.2.2.1))] [] (y.2.2.2.2.2.2.2.2.2.2.2.2)) (fun y hy => tb_L_bound_84 C  hR6 (fun b0 b1 b2 b3 b4 b5 b6 b7 b8 b9 b10 b11 S z => z) (y.1) (y.2.1) (y.2.2.1) (y.2.2.2.1) (y.2.2.2.2.1) (y.2.2.2.2.2.1) (y.2.2.2.2.2.2.1) (y.2.2.2.2.2.2.2.1) (y.2.2.2.2.2.2.2.2.1) (y.2.2.2.2.2.2.2.2.2.1) (y.2.2.2.2.2.2.2.2.2.2.1) (y.2.2.2.2.2.2.2.2.2.2.2.1) (y.2.2.2.2.2.2.2.2.2.2.2.2) hy)
set_option maxRecDepth 20000 in
theorem tb_L_bound_76 (C : cC p s m args meth c cL_bound 15 (some .int) A D Y tp dp RL) {post : Int32 → cS → Prop} {R6 : Nat → Nat → Int32 → Int32 → Int32 → Int32 → Nat → Int32 → Int32 → cS → Prop} (hR6 : ∀ (x0 : Nat) (x1 : Nat) (x2 : Int32) (x3 : Int32) (x4 : Int32) (x5 : Int32) (x6 : Nat) (x7 : Int32) (x8 : Int32) (S : cS), R6 x0 x1 x2 x3 x4 x5 x6 x7 x8 S → cG p l e (cRm 4 0 0 99) s m args below meth c A D Y 15 (MQ below (cQi post D Y A) args s 0 0 A) 0 0 6 [(0, .ref x0), (1, .ref x1), (2, .int x2), (3, .int x3), (4, .int x4), (5, .int x5), (6, .ref x6), (7, .int x7), (8, .int x8)] [] S) (x0 : Nat) (x1 : Nat) (x2 : Int32) (x3 : Int32) (x4 : Int32) (x5 : Int32) (x6 : Nat) (x7 : Int32) (x8 : Int32) (t0 : Int32) (S : cS) (h : k_L_bound_76 post dp R6 x0 x1 x2 x3 x4 x5 x6 x7 x8 t0 S) : cG p l e (cRm 4 0 0 99) s m args below meth c A D Y 15 (MQ below (cQi post D Y A) args s 0 0 A) 0 0 76 [(0, .ref x0), (1, .ref x1), (2, .int x2), (3, .int x3), (4, .int x4), (5, .int x5), (6, .ref x6), (7, .int x7), (8, .int x8)] [.int t0] S := by
  unfold k_L_bound_76 at h
  refine cg_istore C (lv' := [(9, .int t0), (0, .ref x0), (1, .ref x1), (2, .int x2), (3, .int x3), (4, .int x4), (5, .int x5), (6, .ref x6), (7, .int x7), (8, .int x8)]) (Nat.le_of_ble_eq_true rfl) rfl dL_bound_76 ?_
  refine cg_iconst C (x := nI 0) rfl dL_bound_78 ?_
  refine cg_istore C (lv' := [(10, .int ((nI 0))), (9, .int t0), (0, .ref x0), (1, .ref x1), (2, .int x2), (3, .int x3), (4, .int x4), (5, .int x5), (6, .ref x6), (7, .int x7), (8, .int x8)]) (Nat.le_of_ble_eq_true rfl) rfl dL_bound_79 ?_
  refine cg_iload_n C (i := 3) rfl 5 rfl dL_bound_81 ?_
  refine cg_istore C (lv' := [(11, .int x3), (10, .int ((nI 0))), (9, .int t0), (0, .ref x0), (1, .ref x1), (2, .int x2), (3, .int x3), (4, .int x4), (5, .int x5), (6, .ref x6), (7, .int x7), (8, .int x8)]) (Nat.le_of_ble_eq_true rfl) rfl dL_bound_82 ?_
  exact cg_sub [3, 4, 5, 6, 7, 8, 9, 10, 11, 2, 1, 0] rfl (tl_L_bound_84 C  hR6 x0 x1 x2 x3 x4 x5 x6 x7 x8 t0 (((nI 0))) x3 S h)
set_option maxRecDepth 20000 in
theorem tb_L_bound_75 (C : cC p s m args meth c cL_bound 15 (some .int) A D Y tp dp RL) {post : Int32 → cS → Prop} {R6 : Nat → Nat → Int32 → Int32 → Int32 → Int32 → Nat → Int32 → Int32 → cS → Prop} (hR6 : ∀ (x0 : Nat) (x1 : Nat) (x2 : Int32) (x3 : Int32) (x4 : Int32) (x5 : Int32) (x6 : Nat) (x7 : Int32) (x8 : Int32) (S : cS), R6 x0 x1 x2 x3 x4 x5 x6 x7 x8 S → cG p l e (cRm 4 0 0 99) s m args below meth c A D Y 15 (MQ below (cQi post D Y A) args s 0 0 A) 0 0 6 [(0, .ref x0), (1, .ref x1), (2, .int x2), (3, .int x3), (4, .int x4), (5, .int x5), (6, .ref x6), (7, .int x7), (8, .int x8)] [] S) (x0 : Nat) (x1 : Nat) (x2 : Int32) (x3 : Int32) (x4 : Int32) (x5 : Int32) (x6 : Nat) (x7 : Int32) (x8 : Int32) (S : cS) (h : k_L_bound_75 post dp R6 x0 x1 x2 x3 x4 x5 x6 x7 x8 S) : cG p l e (cRm 4 0 0 99) s m args below meth c A D Y 15 (MQ below (cQi post D Y A) args s 0 0 A) 0 0 75 [(0, .ref x0), (1, .ref x1), (2, .int x2), (3, .int x3), (4, .int x4), (5, .int x5), (6, .ref x6), (7, .int x7), (8, .int x8)] [] S := by
  unfold k_L_bound_75 at h
  refine cg_iconst C (x := nI 0) rfl dL_bound_75 ?_
  exact cg_sub [0, 1, 2, 3, 4, 5, 6, 7, 8] rfl (tb_L_bound_76 C  hR6 x0 x1 x2 x3 x4 x5 x6 x7 x8 ((nI 0)) S h)
set_option maxRecDepth 20000 in
theorem tb_L_bound_52 (C : cC p s m args meth c cL_bound 15 (some .int) A D Y tp dp RL) {post : Int32 → cS → Prop} {R6 : Nat → Nat → Int32 → Int32 → Int32 → Int32 → Nat → Int32 → Int32 → cS → Prop} (hR6 : ∀ (x0 : Nat) (x1 : Nat) (x2 : Int32) (x3 : Int32) (x4 : Int32) (x5 : Int32) (x6 : Nat) (x7 : Int32) (x8 : Int32) (S : cS), R6 x0 x1 x2 x3 x4 x5 x6 x7 x8 S → cG p l e (cRm 4 0 0 99) s m args below meth c A D Y 15 (MQ below (cQi post D Y A) args s 0 0 A) 0 0 6 [(0, .ref x0), (1, .ref x1), (2, .int x2), (3, .int x3), (4, .int x4), (5, .int x5), (6, .ref x6), (7, .int x7), (8, .int x8)] [] S) (x0 : Nat) (x1 : Nat) (x2 : Int32) (x3 : Int32) (x4 : Int32) (x5 : Int32) (x6 : Nat) (x7 : Int32) (x8 : Int32) (S : cS) (h : k_L_bound_52 post dp R6 x0 x1 x2 x3 x4 x5 x6 x7 x8 S) : cG p l e (cRm 4 0 0 99) s m args below meth c A D Y 15 (MQ below (cQi post D Y A) args s 0 0 A) 0 0 52 [(0, .ref x0), (1, .ref x1), (2, .int x2), (3, .int x3), (4, .int x4), (5, .int x5), (6, .ref x6), (7, .int x7), (8, .int x8)] [] S := by
  unfold k_L_bound_52 at h
  refine cg_iload C 5 rfl dL_bound_52 ?_
  refine cg_bipush C (x := nI 8) rfl dL_bound_54 ?_
  refine cg_icmp_ne C 75 (by decide) dL_bound_56 (fun c_ => ?_) (fun c_ => ?_)
  · have h := h.1 c_
    exact cg_sub [0, 1, 2, 3, 4, 5, 6, 7, 8] rfl (tb_L_bound_75 C  hR6 x0 x1 x2 x3 x4 x5 x6 x7 x8 S h)
  · have h := h.2 c_
    refine cg_iload C 8 rfl dL_bound_59 ?_
    refine cg_if_eq C 71 (by decide) dL_bound_61 (fun c_ => ?_) (fun c_ => ?_)
    · have h := h.1 c_
      refine cg_iconst C (x := nI 1) rfl dL_bound_71 ?_
      refine cg_goto C 76 (by decide) dL_bound_72 ?_
      exact cg_sub [0, 1, 2, 3, 4, 5, 6, 7, 8] rfl (tb_L_bound_76 C  hR6 x0 x1 x2 x3 x4 x5 x6 x7 x8 ((nI 1)) S h)
    · have h := h.2 c_
      refine cg_iload C 8 rfl dL_bound_64 ?_
      refine cg_bipush C (x := nI 8) rfl dL_bound_66 ?_
      refine cg_icmp_ne C 75 (by decide) dL_bound_68 (fun c_ => ?_) (fun c_ => ?_)
      · have h := h.1 c_
        exact cg_sub [0, 1, 2, 3, 4, 5, 6, 7, 8] rfl (tb_L_bound_75 C  hR6 x0 x1 x2 x3 x4 x5 x6 x7 x8 S h)
      · have h := h.2 c_
        refine cg_iconst C (x := nI 1) rfl dL_bound_71 ?_
        refine cg_goto C 76 (by decide) dL_bound_72 ?_
        exact cg_sub [0, 1, 2, 3, 4, 5, 6, 7, 8] rfl (tb_L_bound_76 C  hR6 x0 x1 x2 x3 x4 x5 x6 x7 x8 ((nI 1)) S h)
set_option maxRecDepth 20000 in
theorem tb_L_bound_27 (C : cC p s m args meth c cL_bound 15 (some .int) A D Y tp dp RL) {post : Int32 → cS → Prop} {R6 : Nat → Nat → Int32 → Int32 → Int32 → Int32 → Nat → Int32 → Int32 → cS → Prop} (hR6 : ∀ (x0 : Nat) (x1 : Nat) (x2 : Int32) (x3 : Int32) (x4 : Int32) (x5 : Int32) (x6 : Nat) (x7 : Int32) (x8 : Int32) (S : cS), R6 x0 x1 x2 x3 x4 x5 x6 x7 x8 S → cG p l e (cRm 4 0 0 99) s m args below meth c A D Y 15 (MQ below (cQi post D Y A) args s 0 0 A) 0 0 6 [(0, .ref x0), (1, .ref x1), (2, .int x2), (3, .int x3), (4, .int x4), (5, .int x5), (6, .ref x6), (7, .int x7), (8, .int x8)] [] S) (x0 : Nat) (x1 : Nat) (x2 : Int32) (x3 : Int32) (x4 : Int32) (x5 : Int32) (x6 : Nat) (x7 : Int32) (x8 : Int32) (S : cS) (h : k_L_bound_27 post dp R6 x0 x1 x2 x3 x4 x5 x6 x7 x8 S) : cG p l e (cRm 4 0 0 99) s m args below meth c A D Y 15 (MQ below (cQi post D Y A) args s 0 0 A) 0 0 27 [(0, .ref x0), (1, .ref x1), (2, .int x2), (3, .int x3), (4, .int x4), (5, .int x5), (6, .ref x6), (7, .int x7), (8, .int x8)] [] S := by
  unfold k_L_bound_27 at h
  refine cg_iload C 5 rfl dL_bound_27 ?_
  refine cg_bipush C (x := nI 7) rfl dL_bound_29 ?_
  refine cg_icmp_ne C 52 (by decide) dL_bound_31 (fun c_ => ?_) (fun c_ => ?_)
  · have h := h.1 c_
    exact cg_sub [0, 1, 2, 3, 4, 5, 6, 7, 8] rfl (tb_L_bound_52 C  hR6 x0 x1 x2 x3 x4 x5 x6 x7 x8 S h)
  · have h := h.2 c_
    refine cg_iload C 8 rfl dL_bound_34 ?_
    refine cg_if_eq C 71 (by decide) dL_bound_36 (fun c_ => ?_) (fun c_ => ?_)
    · have h := h.1 c_
      refine cg_iconst C (x := nI 1) rfl dL_bound_71 ?_
      refine cg_goto C 76 (by decide) dL_bound_72 ?_
      exact cg_sub [0, 1, 2, 3, 4, 5, 6, 7, 8] rfl (tb_L_bound_76 C  hR6 x0 x1 x2 x3 x4 x5 x6 x7 x8 ((nI 1)) S h)
    · have h := h.2 c_
      refine cg_iload C 8 rfl dL_bound_39 ?_
      refine cg_iconst C (x := nI 1) rfl dL_bound_41 ?_
      refine cg_icmp_eq C 71 (by decide) dL_bound_42 (fun c_ => ?_) (fun c_ => ?_)
      · have h := h.1 c_
        refine cg_iconst C (x := nI 1) rfl dL_bound_71 ?_
        refine cg_goto C 76 (by decide) dL_bound_72 ?_
        exact cg_sub [0, 1, 2, 3, 4, 5, 6, 7, 8] rfl (tb_L_bound_76 C  hR6 x0 x1 x2 x3 x4 x5 x6 x7 x8 ((nI 1)) S h)
      · have h := h.2 c_
        refine cg_iload C 8 rfl dL_bound_45 ?_
        refine cg_bipush C (x := nI 7) rfl dL_bound_47 ?_
        refine cg_icmp_eq C 71 (by decide) dL_bound_49 (fun c_ => ?_) (fun c_ => ?_)
        · have h := h.1 c_
          refine cg_iconst C (x := nI 1) rfl dL_bound_71 ?_
          refine cg_goto C 76 (by decide) dL_bound_72 ?_
          exact cg_sub [0, 1, 2, 3, 4, 5, 6, 7, 8] rfl (tb_L_bound_76 C  hR6 x0 x1 x2 x3 x4 x5 x6 x7 x8 ((nI 1)) S h)
        · have h := h.2 c_
          exact cg_sub [0, 1, 2, 3, 4, 5, 6, 7, 8] rfl (tb_L_bound_52 C  hR6 x0 x1 x2 x3 x4 x5 x6 x7 x8 S h)
set_option maxRecDepth 20000 in
theorem tb_L_bound_6 (C : cC p s m args meth c cL_bound 15 (some .int) A D Y tp dp RL) {post : Int32 → cS → Prop} {R6 : Nat → Nat → Int32 → Int32 → Int32 → Int32 → Nat → Int32 → Int32 → cS → Prop} (hR6 : ∀ (x0 : Nat) (x1 : Nat) (x2 : Int32) (x3 : Int32) (x4 : Int32) (x5 : Int32) (x6 : Nat) (x7 : Int32) (x8 : Int32) (S : cS), R6 x0 x1 x2 x3 x4 x5 x6 x7 x8 S → cG p l e (cRm 4 0 0 99) s m args below meth c A D Y 15 (MQ below (cQi post D Y A) args s 0 0 A) 0 0 6 [(0, .ref x0), (1, .ref x1), (2, .int x2), (3, .int x3), (4, .int x4), (5, .int x5), (6, .ref x6), (7, .int x7), (8, .int x8)] [] S) (x0 : Nat) (x1 : Nat) (x2 : Int32) (x3 : Int32) (x4 : Int32) (x5 : Int32) (x6 : Nat) (x7 : Int32) (x8 : Int32) (S : cS) (h : k_L_bound_6 post dp R6 x0 x1 x2 x3 x4 x5 x6 x7 x8 S) : cG p l e (cRm 4 0 0 99) s m args below meth c A D Y 15 (MQ below (cQi post D Y A) args s 0 0 A) 0 0 6 [(0, .ref x0), (1, .ref x1), (2, .int x2), (3, .int x3), (4, .int x4), (5, .int x5), (6, .ref x6), (7, .int x7), (8, .int x8)] [] S := by
  unfold k_L_bound_6 at h
  refine cg_iload C 8 rfl dL_bound_6 ?_
  refine cg_bipush C (x := nI 9) rfl dL_bound_8 ?_
  refine cg_icmp_ge C 212 (by decide) dL_bound_10 (fun c_ => ?_) (fun c_ => ?_)
  · have h := h.1 c_
    refine cg_iload C 7 rfl dL_bound_212 ?_
    exact cg_iret C h dL_bound_214 (by decide) (by decide)
  · have h := h.2 c_
    refine cg_iload C 8 rfl dL_bound_13 ?_
    refine cg_iload C 5 rfl dL_bound_15 ?_
    refine cg_icmp_ne C 27 (by decide) dL_bound_17 (fun c_ => ?_) (fun c_ => ?_)
    · have h := h.1 c_
      exact cg_sub [0, 1, 2, 3, 4, 5, 6, 7, 8] rfl (tb_L_bound_27 C  hR6 x0 x1 x2 x3 x4 x5 x6 x7 x8 S h)
    · have h := h.2 c_
      refine cg_iload C 5 rfl dL_bound_20 ?_
      refine cg_bipush C (x := nI 7) rfl dL_bound_22 ?_
      refine cg_icmp_lt C 71 (by decide) dL_bound_24 (fun c_ => ?_) (fun c_ => ?_)
      · have h := h.1 c_
        refine cg_iconst C (x := nI 1) rfl dL_bound_71 ?_
        refine cg_goto C 76 (by decide) dL_bound_72 ?_
        exact cg_sub [0, 1, 2, 3, 4, 5, 6, 7, 8] rfl (tb_L_bound_76 C  hR6 x0 x1 x2 x3 x4 x5 x6 x7 x8 ((nI 1)) S h)
      · have h := h.2 c_
        exact cg_sub [0, 1, 2, 3, 4, 5, 6, 7, 8] rfl (tb_L_bound_27 C  hR6 x0 x1 x2 x3 x4 x5 x6 x7 x8 S h)
set_option maxRecDepth 20000 in
theorem tl_L_bound_6 (C : cC p s m args meth c cL_bound 15 (some .int) A D Y tp dp RL) {post : Int32 → cS → Prop}   (x0 : Nat) (x1 : Nat) (x2 : Int32) (x3 : Int32) (x4 : Int32) (x5 : Int32) (x6 : Nat) (x7 : Int32) (x8 : Int32) (S : cS) (h : k_L_bound_6L post dp  x0 x1 x2 x3 x4 x5 x6 x7 x8 S) : cG p l e (cRm 4 0 0 99) s m args below meth c A D Y 15 (MQ below (cQi post D Y A) args s 0 0 A) 0 0 6 [(0, .ref x0), (1, .ref x1), (2, .int x2), (3, .int x3), (4, .int x4), (5, .int x5), (6, .ref x6), (7, .int x7), (8, .int x8)] [] S :=
  h (fun y => cG p l e (cRm 4 0 0 99) s m args below meth c A D Y 15 (MQ below (cQi post D Y A) args s 0 0 A) 0 0 6 [(0, .ref (y.1)), (1, .ref (y.2.1)), (2, .int (y.2.2.1)), (3, .int (y.2.2.2.1)), (4, .int (y.2.2.2.2.1)), (5, .int (y.2.2.2.2.2.1)), (6, .ref (y.2.2.2.2.2.2.1)), (7, .int (y.2.2.2.2.2.2.2.1)), (8, .int (y.2.2.2.2.2.2.2.2.1))] [] (y.2.2.2.2.2.2.2.2.2)) (fun y hy => tb_L_bound_6 C   (fun b0 b1 b2 b3 b4 b5 b6 b7 b8 S z => z) (y.1) (y.2.1) (y.2.2.1) (y.2.2.2.1) (y.2.2.2.2.1) (y.2.2.2.2.2.1) (y.2.2.2.2.2.2.1) (y.2.2.2.2.2.2.2.1) (y.2.2.2.2.2.2.2.2.1) (y.2.2.2.2.2.2.2.2.2) hy)
end S_L_bound
set_option maxHeartbeats 1000000 in
set_option maxRecDepth 20000 in
theorem t_L_bound (l : Launch) (x0 : Nat) (x1 : Nat) (x2 : Int32) (x3 : Int32) (x4 : Int32) (x5 : Int32) (x6 : Nat) (S : cS) (dp : Nat) {P : Int32 → cS → Prop} (h : k_L_bound P dp x0 x1 x2 x3 x4 x5 x6 S) : cMet (cQi P) l yL_bound cL_bound 15 (some .int) 4 0 0 99 [.ref x0, .ref x1, .int x2, .int x3, .int x4, .int x5, .ref x6] S dp := by
  intro D Y tp sz
  refine cg_body (by decide +kernel) (Nat.le_of_ble_eq_true rfl) ?_
  intro p e s m args below meth c C
  generalize va_A (cWd Y S) sz = A at C ⊢
  have C : cC p s m args meth c cL_bound 15 (some .int) A D Y tp dp RL := C
  refine cg_lv (lv' := [(0, .ref x0), (1, .ref x1), (2, .int x2), (3, .int x3), (4, .int x4), (5, .int x5), (6, .ref x6)]) rfl ?_
  unfold k_L_bound at h
  refine cg_iconst C (x := nI 0) rfl dL_bound_0 ?_
  refine cg_istore C (lv' := [(7, .int ((nI 0))), (0, .ref x0), (1, .ref x1), (2, .int x2), (3, .int x3), (4, .int x4), (5, .int x5), (6, .ref x6)]) (Nat.le_of_ble_eq_true rfl) rfl dL_bound_1 ?_
  refine cg_iconst C (x := nI 0) rfl dL_bound_3 ?_
  refine cg_istore C (lv' := [(8, .int ((nI 0))), (7, .int ((nI 0))), (0, .ref x0), (1, .ref x1), (2, .int x2), (3, .int x3), (4, .int x4), (5, .int x5), (6, .ref x6)]) (Nat.le_of_ble_eq_true rfl) rfl dL_bound_4 ?_
  exact cg_sub [2, 3, 4, 5, 6, 7, 8, 1, 0] rfl (tl_L_bound_6 C   x0 x1 x2 x3 x4 x5 x6 (((nI 0))) (((nI 0))) S h)
section S_L_find
variable {p : Program} {l : Launch} {e : Env} {s : State} {m : MethodId} {args : Array Value} {below : List Frame} {meth : Method} {c : Code} {A : Nat → Prop} {D : va_G} {Y : cY} {tp dp : Nat}
set_option maxRecDepth 20000 in
theorem tb_L_find_525 {mc ms : Nat} (C : cC p s m args meth c cL_find 21 none A D Y tp dp RL) {post : cS → Prop} {R36 : Nat → Nat → Nat → Nat → Nat → Nat → Nat → Int32 → Int32 → Nat → Int32 → Nat → Nat → cS → Prop} {R209 : Nat → Nat → Nat → Nat → Nat → Nat → Nat → Int32 → Int32 → Nat → Int32 → Int32 → Int32 → Nat → Nat → cS → Prop} (hR36 : ∀ (x0 : Nat) (x1 : Nat) (x2 : Nat) (x3 : Nat) (x4 : Nat) (x5 : Nat) (x6 : Nat) (x7 : Int32) (x8 : Int32) (x9 : Nat) (x10 : Int32) (cd dd : Nat) (S : cS), R36 x0 x1 x2 x3 x4 x5 x6 x7 x8 x9 x10 cd dd S → cG p l e (cRm 6 mc ms 149) s m args below meth c A D Y 21 (MQ below (cQv post D Y A) args s mc ms A) cd dd 36 [(0, .ref x0), (1, .ref x1), (2, .ref x2), (3, .ref x3), (4, .ref x4), (5, .ref x5), (6, .ref x6), (7, .int x7), (8, .int x8), (9, .ref x9), (10, .int x10)] [] S) (hR209 : ∀ (x0 : Nat) (x1 : Nat) (x2 : Nat) (x3 : Nat) (x4 : Nat) (x5 : Nat) (x6 : Nat) (x7 : Int32) (x8 : Int32) (x9 : Nat) (x10 : Int32) (x11 : Int32) (x13 : Int32) (cd dd : Nat) (S : cS), R209 x0 x1 x2 x3 x4 x5 x6 x7 x8 x9 x10 x11 x13 cd dd S → cG p l e (cRm 6 mc ms 149) s m args below meth c A D Y 21 (MQ below (cQv post D Y A) args s mc ms A) cd dd 209 [(0, .ref x0), (1, .ref x1), (2, .ref x2), (3, .ref x3), (4, .ref x4), (5, .ref x5), (6, .ref x6), (7, .int x7), (8, .int x8), (9, .ref x9), (10, .int x10), (11, .int x11), (13, .int x13)] [] S) (x0 : Nat) (x1 : Nat) (x2 : Nat) (x3 : Nat) (x4 : Nat) (x5 : Nat) (x6 : Nat) (x7 : Int32) (x8 : Int32) (x9 : Nat) (x10 : Int32) (x11 : Int32) (x13 : Int32) (cd dd : Nat) (S : cS) (h : k_L_find_525 post dp mc ms R36 R209 x0 x1 x2 x3 x4 x5 x6 x7 x8 x9 x10 x11 x13 cd dd S) : cG p l e (cRm 6 mc ms 149) s m args below meth c A D Y 21 (MQ below (cQv post D Y A) args s mc ms A) cd dd 525 [(0, .ref x0), (1, .ref x1), (2, .ref x2), (3, .ref x3), (4, .ref x4), (5, .ref x5), (6, .ref x6), (7, .int x7), (8, .int x8), (9, .ref x9), (10, .int x10), (11, .int x11), (13, .int x13)] [] S := by
  unfold k_L_find_525 at h
  obtain ⟨x13_13, e_x13_13⟩ : ∃ z : Int32, z = x13 + nI 4 := ⟨_, rfl⟩
  have h := h x13_13 e_x13_13
  refine cg_iinc C (lv' := [(13, .int x13_13), (0, .ref x0), (1, .ref x1), (2, .ref x2), (3, .ref x3), (4, .ref x4), (5, .ref x5), (6, .ref x6), (7, .int x7), (8, .int x8), (9, .ref x9), (10, .int x10), (11, .int x11)]) 12 rfl (by rw [e_x13_13]; rfl) (Nat.le_of_ble_eq_true rfl) rfl dL_find_525 ?_
  refine cg_goto C 209 (by decide) dL_find_528 ?_
  exact cg_sub [1, 2, 3, 4, 5, 6, 7, 8, 9, 10, 11, 12, 0] rfl (hR209 x0 x1 x2 x3 x4 x5 x6 x7 x8 x9 x10 x11 x13_13 cd dd S h)
set_option maxRecDepth 20000 in
theorem tb_L_find_519 {mc ms : Nat} (C : cC p s m args meth c cL_find 21 none A D Y tp dp RL) {post : cS → Prop} {R36 : Nat → Nat → Nat → Nat → Nat → Nat → Nat → Int32 → Int32 → Nat → Int32 → Nat → Nat → cS → Prop} {R209 : Nat → Nat → Nat → Nat → Nat → Nat → Nat → Int32 → Int32 → Nat → Int32 → Int32 → Int32 → Nat → Nat → cS → Prop} {R309 : Nat → Nat → Nat → Nat → Nat → Nat → Nat → Int32 → Int32 → Nat → Int32 → Int32 → Int32 → Int32 → Int32 → Int32 → Nat → Nat → cS → Prop} (hR36 : ∀ (x0 : Nat) (x1 : Nat) (x2 : Nat) (x3 : Nat) (x4 : Nat) (x5 : Nat) (x6 : Nat) (x7 : Int32) (x8 : Int32) (x9 : Nat) (x10 : Int32) (cd dd : Nat) (S : cS), R36 x0 x1 x2 x3 x4 x5 x6 x7 x8 x9 x10 cd dd S → cG p l e (cRm 6 mc ms 149) s m args below meth c A D Y 21 (MQ below (cQv post D Y A) args s mc ms A) cd dd 36 [(0, .ref x0), (1, .ref x1), (2, .ref x2), (3, .ref x3), (4, .ref x4), (5, .ref x5), (6, .ref x6), (7, .int x7), (8, .int x8), (9, .ref x9), (10, .int x10)] [] S) (hR209 : ∀ (x0 : Nat) (x1 : Nat) (x2 : Nat) (x3 : Nat) (x4 : Nat) (x5 : Nat) (x6 : Nat) (x7 : Int32) (x8 : Int32) (x9 : Nat) (x10 : Int32) (x11 : Int32) (x13 : Int32) (cd dd : Nat) (S : cS), R209 x0 x1 x2 x3 x4 x5 x6 x7 x8 x9 x10 x11 x13 cd dd S → cG p l e (cRm 6 mc ms 149) s m args below meth c A D Y 21 (MQ below (cQv post D Y A) args s mc ms A) cd dd 209 [(0, .ref x0), (1, .ref x1), (2, .ref x2), (3, .ref x3), (4, .ref x4), (5, .ref x5), (6, .ref x6), (7, .int x7), (8, .int x8), (9, .ref x9), (10, .int x10), (11, .int x11), (13, .int x13)] [] S) (hR309 : ∀ (x0 : Nat) (x1 : Nat) (x2 : Nat) (x3 : Nat) (x4 : Nat) (x5 : Nat) (x6 : Nat) (x7 : Int32) (x8 : Int32) (x9 : Nat) (x10 : Int32) (x11 : Int32) (x13 : Int32) (x14 : Int32) (x15 : Int32) (x16 : Int32) (cd dd : Nat) (S : cS), R309 x0 x1 x2 x3 x4 x5 x6 x7 x8 x9 x10 x11 x13 x14 x15 x16 cd dd S → cG p l e (cRm 6 mc ms 149) s m args below meth c A D Y 21 (MQ below (cQv post D Y A) args s mc ms A) cd dd 309 [(0, .ref x0), (1, .ref x1), (2, .ref x2), (3, .ref x3), (4, .ref x4), (5, .ref x5), (6, .ref x6), (7, .int x7), (8, .int x8), (9, .ref x9), (10, .int x10), (11, .int x11), (13, .int x13), (14, .int x14), (15, .int x15), (16, .int x16)] [] S) (x0 : Nat) (x1 : Nat) (x2 : Nat) (x3 : Nat) (x4 : Nat) (x5 : Nat) (x6 : Nat) (x7 : Int32) (x8 : Int32) (x9 : Nat) (x10 : Int32) (x11 : Int32) (x13 : Int32) (x14 : Int32) (x15 : Int32) (x16 : Int32) (cd dd : Nat) (S : cS) (h : k_L_find_519 post dp mc ms R36 R209 R309 x0 x1 x2 x3 x4 x5 x6 x7 x8 x9 x10 x11 x13 x14 x15 x16 cd dd S) : cG p l e (cRm 6 mc ms 149) s m args below meth c A D Y 21 (MQ below (cQv post D Y A) args s mc ms A) cd dd 519 [(0, .ref x0), (1, .ref x1), (2, .ref x2), (3, .ref x3), (4, .ref x4), (5, .ref x5), (6, .ref x6), (7, .int x7), (8, .int x8), (9, .ref x9), (10, .int x10), (11, .int x11), (13, .int x13), (14, .int x14), (15, .int x15), (16, .int x16)] [] S := by
  unfold k_L_find_519 at h
  obtain ⟨x16_16, e_x16_16⟩ : ∃ z : Int32, z = x16 + nI 1 := ⟨_, rfl⟩
  have h := h x16_16 e_x16_16
  refine cg_iinc C (lv' := [(16, .int x16_16), (0, .ref x0), (1, .ref x1), (2, .ref x2), (3, .ref x3), (4, .ref x4), (5, .ref x5), (6, .ref x6), (7, .int x7), (8, .int x8), (9, .ref x9), (10, .int x10), (11, .int x11), (13, .int x13), (14, .int x14), (15, .int x15)]) 15 rfl (by rw [e_x16_16]; rfl) (Nat.le_of_ble_eq_true rfl) rfl dL_find_519 ?_
  refine cg_goto C 309 (by decide) dL_find_522 ?_
  exact cg_sub [1, 2, 3, 4, 5, 6, 7, 8, 9, 10, 11, 12, 13, 14, 15, 0] rfl (hR309 x0 x1 x2 x3 x4 x5 x6 x7 x8 x9 x10 x11 x13 x14 x15 x16_16 cd dd S h)
set_option maxRecDepth 20000 in
theorem tb_L_find_517 {mc ms : Nat} (C : cC p s m args meth c cL_find 21 none A D Y tp dp RL) {post : cS → Prop} {R36 : Nat → Nat → Nat → Nat → Nat → Nat → Nat → Int32 → Int32 → Nat → Int32 → Nat → Nat → cS → Prop} {R209 : Nat → Nat → Nat → Nat → Nat → Nat → Nat → Int32 → Int32 → Nat → Int32 → Int32 → Int32 → Nat → Nat → cS → Prop} {R309 : Nat → Nat → Nat → Nat → Nat → Nat → Nat → Int32 → Int32 → Nat → Int32 → Int32 → Int32 → Int32 → Int32 → Int32 → Nat → Nat → cS → Prop} (hR36 : ∀ (x0 : Nat) (x1 : Nat) (x2 : Nat) (x3 : Nat) (x4 : Nat) (x5 : Nat) (x6 : Nat) (x7 : Int32) (x8 : Int32) (x9 : Nat) (x10 : Int32) (cd dd : Nat) (S : cS), R36 x0 x1 x2 x3 x4 x5 x6 x7 x8 x9 x10 cd dd S → cG p l e (cRm 6 mc ms 149) s m args below meth c A D Y 21 (MQ below (cQv post D Y A) args s mc ms A) cd dd 36 [(0, .ref x0), (1, .ref x1), (2, .ref x2), (3, .ref x3), (4, .ref x4), (5, .ref x5), (6, .ref x6), (7, .int x7), (8, .int x8), (9, .ref x9), (10, .int x10)] [] S) (hR209 : ∀ (x0 : Nat) (x1 : Nat) (x2 : Nat) (x3 : Nat) (x4 : Nat) (x5 : Nat) (x6 : Nat) (x7 : Int32) (x8 : Int32) (x9 : Nat) (x10 : Int32) (x11 : Int32) (x13 : Int32) (cd dd : Nat) (S : cS), R209 x0 x1 x2 x3 x4 x5 x6 x7 x8 x9 x10 x11 x13 cd dd S → cG p l e (cRm 6 mc ms 149) s m args below meth c A D Y 21 (MQ below (cQv post D Y A) args s mc ms A) cd dd 209 [(0, .ref x0), (1, .ref x1), (2, .ref x2), (3, .ref x3), (4, .ref x4), (5, .ref x5), (6, .ref x6), (7, .int x7), (8, .int x8), (9, .ref x9), (10, .int x10), (11, .int x11), (13, .int x13)] [] S) (hR309 : ∀ (x0 : Nat) (x1 : Nat) (x2 : Nat) (x3 : Nat) (x4 : Nat) (x5 : Nat) (x6 : Nat) (x7 : Int32) (x8 : Int32) (x9 : Nat) (x10 : Int32) (x11 : Int32) (x13 : Int32) (x14 : Int32) (x15 : Int32) (x16 : Int32) (cd dd : Nat) (S : cS), R309 x0 x1 x2 x3 x4 x5 x6 x7 x8 x9 x10 x11 x13 x14 x15 x16 cd dd S → cG p l e (cRm 6 mc ms 149) s m args below meth c A D Y 21 (MQ below (cQv post D Y A) args s mc ms A) cd dd 309 [(0, .ref x0), (1, .ref x1), (2, .ref x2), (3, .ref x3), (4, .ref x4), (5, .ref x5), (6, .ref x6), (7, .int x7), (8, .int x8), (9, .ref x9), (10, .int x10), (11, .int x11), (13, .int x13), (14, .int x14), (15, .int x15), (16, .int x16)] [] S) (x0 : Nat) (x1 : Nat) (x2 : Nat) (x3 : Nat) (x4 : Nat) (x5 : Nat) (x6 : Nat) (x7 : Int32) (x8 : Int32) (x9 : Nat) (x10 : Int32) (x11 : Int32) (x13 : Int32) (x14 : Int32) (x15 : Int32) (x16 : Int32) (t0 : Int32) (t1 : Int32) (t2 : Int32) (t3 : Nat) (cd dd : Nat) (S : cS) (h : k_L_find_517 post dp mc ms R36 R209 R309 x0 x1 x2 x3 x4 x5 x6 x7 x8 x9 x10 x11 x13 x14 x15 x16 t0 t1 t2 t3 cd dd S) : cG p l e (cRm 6 mc ms 149) s m args below meth c A D Y 21 (MQ below (cQv post D Y A) args s mc ms A) cd dd 517 [(0, .ref x0), (1, .ref x1), (2, .ref x2), (3, .ref x3), (4, .ref x4), (5, .ref x5), (6, .ref x6), (7, .int x7), (8, .int x8), (9, .ref x9), (10, .int x10), (11, .int x11), (13, .int x13), (14, .int x14), (15, .int x15), (16, .int x16)] [.int t0, .int t1, .int t2, .ref t3] S := by
  unfold k_L_find_517 at h
  refine cg_iadd C dL_find_517 ?_
  obtain ⟨hc_518, h⟩ := h
  refine cg_iastoreR C hc_518 dL_find_518 ?_
  refine cg_nm (fun S19 e_S19 => ?_)
  have h := h S19 e_S19
  exact cg_sub [0, 1, 2, 3, 4, 5, 6, 7, 8, 9, 10, 11, 12, 13, 14, 15] rfl (tb_L_find_519 C  hR36 hR209 hR309 x0 x1 x2 x3 x4 x5 x6 x7 x8 x9 x10 x11 x13 x14 x15 x16 cd dd S19 h)
set_option maxRecDepth 20000 in
theorem tb_L_find_474 {mc ms : Nat} (C : cC p s m args meth c cL_find 21 none A D Y tp dp RL) {post : cS → Prop} {R36 : Nat → Nat → Nat → Nat → Nat → Nat → Nat → Int32 → Int32 → Nat → Int32 → Nat → Nat → cS → Prop} {R209 : Nat → Nat → Nat → Nat → Nat → Nat → Nat → Int32 → Int32 → Nat → Int32 → Int32 → Int32 → Nat → Nat → cS → Prop} {R309 : Nat → Nat → Nat → Nat → Nat → Nat → Nat → Int32 → Int32 → Nat → Int32 → Int32 → Int32 → Int32 → Int32 → Int32 → Nat → Nat → cS → Prop} (hR36 : ∀ (x0 : Nat) (x1 : Nat) (x2 : Nat) (x3 : Nat) (x4 : Nat) (x5 : Nat) (x6 : Nat) (x7 : Int32) (x8 : Int32) (x9 : Nat) (x10 : Int32) (cd dd : Nat) (S : cS), R36 x0 x1 x2 x3 x4 x5 x6 x7 x8 x9 x10 cd dd S → cG p l e (cRm 6 mc ms 149) s m args below meth c A D Y 21 (MQ below (cQv post D Y A) args s mc ms A) cd dd 36 [(0, .ref x0), (1, .ref x1), (2, .ref x2), (3, .ref x3), (4, .ref x4), (5, .ref x5), (6, .ref x6), (7, .int x7), (8, .int x8), (9, .ref x9), (10, .int x10)] [] S) (hR209 : ∀ (x0 : Nat) (x1 : Nat) (x2 : Nat) (x3 : Nat) (x4 : Nat) (x5 : Nat) (x6 : Nat) (x7 : Int32) (x8 : Int32) (x9 : Nat) (x10 : Int32) (x11 : Int32) (x13 : Int32) (cd dd : Nat) (S : cS), R209 x0 x1 x2 x3 x4 x5 x6 x7 x8 x9 x10 x11 x13 cd dd S → cG p l e (cRm 6 mc ms 149) s m args below meth c A D Y 21 (MQ below (cQv post D Y A) args s mc ms A) cd dd 209 [(0, .ref x0), (1, .ref x1), (2, .ref x2), (3, .ref x3), (4, .ref x4), (5, .ref x5), (6, .ref x6), (7, .int x7), (8, .int x8), (9, .ref x9), (10, .int x10), (11, .int x11), (13, .int x13)] [] S) (hR309 : ∀ (x0 : Nat) (x1 : Nat) (x2 : Nat) (x3 : Nat) (x4 : Nat) (x5 : Nat) (x6 : Nat) (x7 : Int32) (x8 : Int32) (x9 : Nat) (x10 : Int32) (x11 : Int32) (x13 : Int32) (x14 : Int32) (x15 : Int32) (x16 : Int32) (cd dd : Nat) (S : cS), R309 x0 x1 x2 x3 x4 x5 x6 x7 x8 x9 x10 x11 x13 x14 x15 x16 cd dd S → cG p l e (cRm 6 mc ms 149) s m args below meth c A D Y 21 (MQ below (cQv post D Y A) args s mc ms A) cd dd 309 [(0, .ref x0), (1, .ref x1), (2, .ref x2), (3, .ref x3), (4, .ref x4), (5, .ref x5), (6, .ref x6), (7, .int x7), (8, .int x8), (9, .ref x9), (10, .int x10), (11, .int x11), (13, .int x13), (14, .int x14), (15, .int x15), (16, .int x16)] [] S) (x0 : Nat) (x1 : Nat) (x2 : Nat) (x3 : Nat) (x4 : Nat) (x5 : Nat) (x6 : Nat) (x7 : Int32) (x8 : Int32) (x9 : Nat) (x10 : Int32) (x11 : Int32) (x13 : Int32) (x14 : Int32) (x15 : Int32) (x16 : Int32) (x17 : Int64) (x19 : Int32) (x20 : Int32) (cd dd : Nat) (S : cS) (h : k_L_find_474 post dp mc ms R36 R209 R309 x0 x1 x2 x3 x4 x5 x6 x7 x8 x9 x10 x11 x13 x14 x15 x16 x17 x19 x20 cd dd S) : cG p l e (cRm 6 mc ms 149) s m args below meth c A D Y 21 (MQ below (cQv post D Y A) args s mc ms A) cd dd 474 [(0, .ref x0), (1, .ref x1), (2, .ref x2), (3, .ref x3), (4, .ref x4), (5, .ref x5), (6, .ref x6), (7, .int x7), (8, .int x8), (9, .ref x9), (10, .int x10), (11, .int x11), (13, .int x13), (14, .int x14), (15, .int x15), (16, .int x16), (17, .long x17), (19, .int x19), (20, .int x20)] [] S := by
  unfold k_L_find_474 at h
  refine cg_aload C 5 rfl dL_find_474 ?_
  refine cg_iload C 18 rfl dL_find_476 ?_
  refine cg_lload C 16 rfl dL_find_478 ?_
  refine cg_ldc2 C (x := 15) ck_L_9 dL_find_480 ?_
  refine cg_land C dL_find_483 ?_
  refine cg_l2i C dL_find_484 ?_
  obtain ⟨hc_485, h⟩ := h
  refine cg_iastoreR C hc_485 dL_find_485 ?_
  refine cg_nm (fun S17 e_S17 => ?_)
  have h := h S17 e_S17
  refine cg_aload C 5 rfl dL_find_486 ?_
  refine cg_bipush C (x := nI 20) rfl dL_find_488 ?_
  refine cg_iload C 18 rfl dL_find_490 ?_
  refine cg_iadd C dL_find_492 ?_
  refine cg_iload C 17 rfl dL_find_493 ?_
  obtain ⟨hc_495, h⟩ := h
  refine cg_iastoreR C hc_495 dL_find_495 ?_
  refine cg_nm (fun S18 e_S18 => ?_)
  have h := h S18 e_S18
  refine cg_aload C 6 rfl dL_find_496 ?_
  refine cg_bipush C (x := nI 14) rfl dL_find_498 ?_
  refine cg_dup2 C rfl rfl dL_find_500 ?_
  obtain ⟨hc_501, h⟩ := h
  refine cg_ialoadR C hc_501 dL_find_501 ?_
  refine cg_aload C 6 rfl dL_find_502 ?_
  refine cg_bipush C (x := nI 14) rfl dL_find_504 ?_
  obtain ⟨hc_506, h⟩ := h
  refine cg_ialoadR C hc_506 dL_find_506 ?_
  refine cg_iload C 8 rfl dL_find_507 ?_
  refine cg_icmp_ge C 516 (by decide) dL_find_509 (fun c_ => ?_) (fun c_ => ?_)
  · have h := h.1 c_
    refine cg_iconst C (x := nI 0) rfl dL_find_516 ?_
    exact cg_sub [0, 1, 2, 3, 4, 5, 6, 7, 8, 9, 10, 11, 12, 13, 14, 15] rfl (tb_L_find_517 C  hR36 hR209 hR309 x0 x1 x2 x3 x4 x5 x6 x7 x8 x9 x10 x11 x13 x14 x15 x16 ((nI 0)) ((cI S18 x6 ((nI 14)).toNatClampNeg)) ((nI 14)) x6 cd dd S18 h)
  · have h := h.2 c_
    refine cg_iconst C (x := nI 1) rfl dL_find_512 ?_
    refine cg_goto C 517 (by decide) dL_find_513 ?_
    exact cg_sub [0, 1, 2, 3, 4, 5, 6, 7, 8, 9, 10, 11, 12, 13, 14, 15] rfl (tb_L_find_517 C  hR36 hR209 hR309 x0 x1 x2 x3 x4 x5 x6 x7 x8 x9 x10 x11 x13 x14 x15 x16 ((nI 1)) ((cI S18 x6 ((nI 14)).toNatClampNeg)) ((nI 14)) x6 cd dd S18 h)
set_option maxRecDepth 20000 in
theorem tb_L_find_418 {mc ms : Nat} (C : cC p s m args meth c cL_find 21 none A D Y tp dp RL) {post : cS → Prop} {R36 : Nat → Nat → Nat → Nat → Nat → Nat → Nat → Int32 → Int32 → Nat → Int32 → Nat → Nat → cS → Prop} {R209 : Nat → Nat → Nat → Nat → Nat → Nat → Nat → Int32 → Int32 → Nat → Int32 → Int32 → Int32 → Nat → Nat → cS → Prop} {R309 : Nat → Nat → Nat → Nat → Nat → Nat → Nat → Int32 → Int32 → Nat → Int32 → Int32 → Int32 → Int32 → Int32 → Int32 → Nat → Nat → cS → Prop} {R418 : Nat → Nat → Nat → Nat → Nat → Nat → Nat → Int32 → Int32 → Nat → Int32 → Int32 → Int32 → Int32 → Int32 → Int32 → Int64 → Int32 → Int32 → Nat → Nat → cS → Prop} (hR36 : ∀ (x0 : Nat) (x1 : Nat) (x2 : Nat) (x3 : Nat) (x4 : Nat) (x5 : Nat) (x6 : Nat) (x7 : Int32) (x8 : Int32) (x9 : Nat) (x10 : Int32) (cd dd : Nat) (S : cS), R36 x0 x1 x2 x3 x4 x5 x6 x7 x8 x9 x10 cd dd S → cG p l e (cRm 6 mc ms 149) s m args below meth c A D Y 21 (MQ below (cQv post D Y A) args s mc ms A) cd dd 36 [(0, .ref x0), (1, .ref x1), (2, .ref x2), (3, .ref x3), (4, .ref x4), (5, .ref x5), (6, .ref x6), (7, .int x7), (8, .int x8), (9, .ref x9), (10, .int x10)] [] S) (hR209 : ∀ (x0 : Nat) (x1 : Nat) (x2 : Nat) (x3 : Nat) (x4 : Nat) (x5 : Nat) (x6 : Nat) (x7 : Int32) (x8 : Int32) (x9 : Nat) (x10 : Int32) (x11 : Int32) (x13 : Int32) (cd dd : Nat) (S : cS), R209 x0 x1 x2 x3 x4 x5 x6 x7 x8 x9 x10 x11 x13 cd dd S → cG p l e (cRm 6 mc ms 149) s m args below meth c A D Y 21 (MQ below (cQv post D Y A) args s mc ms A) cd dd 209 [(0, .ref x0), (1, .ref x1), (2, .ref x2), (3, .ref x3), (4, .ref x4), (5, .ref x5), (6, .ref x6), (7, .int x7), (8, .int x8), (9, .ref x9), (10, .int x10), (11, .int x11), (13, .int x13)] [] S) (hR309 : ∀ (x0 : Nat) (x1 : Nat) (x2 : Nat) (x3 : Nat) (x4 : Nat) (x5 : Nat) (x6 : Nat) (x7 : Int32) (x8 : Int32) (x9 : Nat) (x10 : Int32) (x11 : Int32) (x13 : Int32) (x14 : Int32) (x15 : Int32) (x16 : Int32) (cd dd : Nat) (S : cS), R309 x0 x1 x2 x3 x4 x5 x6 x7 x8 x9 x10 x11 x13 x14 x15 x16 cd dd S → cG p l e (cRm 6 mc ms 149) s m args below meth c A D Y 21 (MQ below (cQv post D Y A) args s mc ms A) cd dd 309 [(0, .ref x0), (1, .ref x1), (2, .ref x2), (3, .ref x3), (4, .ref x4), (5, .ref x5), (6, .ref x6), (7, .int x7), (8, .int x8), (9, .ref x9), (10, .int x10), (11, .int x11), (13, .int x13), (14, .int x14), (15, .int x15), (16, .int x16)] [] S) (hR418 : ∀ (x0 : Nat) (x1 : Nat) (x2 : Nat) (x3 : Nat) (x4 : Nat) (x5 : Nat) (x6 : Nat) (x7 : Int32) (x8 : Int32) (x9 : Nat) (x10 : Int32) (x11 : Int32) (x13 : Int32) (x14 : Int32) (x15 : Int32) (x16 : Int32) (x17 : Int64) (x19 : Int32) (x20 : Int32) (cd dd : Nat) (S : cS), R418 x0 x1 x2 x3 x4 x5 x6 x7 x8 x9 x10 x11 x13 x14 x15 x16 x17 x19 x20 cd dd S → cG p l e (cRm 6 mc ms 149) s m args below meth c A D Y 21 (MQ below (cQv post D Y A) args s mc ms A) cd dd 418 [(0, .ref x0), (1, .ref x1), (2, .ref x2), (3, .ref x3), (4, .ref x4), (5, .ref x5), (6, .ref x6), (7, .int x7), (8, .int x8), (9, .ref x9), (10, .int x10), (11, .int x11), (13, .int x13), (14, .int x14), (15, .int x15), (16, .int x16), (17, .long x17), (19, .int x19), (20, .int x20)] [] S) (x0 : Nat) (x1 : Nat) (x2 : Nat) (x3 : Nat) (x4 : Nat) (x5 : Nat) (x6 : Nat) (x7 : Int32) (x8 : Int32) (x9 : Nat) (x10 : Int32) (x11 : Int32) (x13 : Int32) (x14 : Int32) (x15 : Int32) (x16 : Int32) (x17 : Int64) (x19 : Int32) (x20 : Int32) (cd dd : Nat) (S : cS) (h : k_L_find_418 post dp mc ms R36 R209 R309 R418 x0 x1 x2 x3 x4 x5 x6 x7 x8 x9 x10 x11 x13 x14 x15 x16 x17 x19 x20 cd dd S) : cG p l e (cRm 6 mc ms 149) s m args below meth c A D Y 21 (MQ below (cQv post D Y A) args s mc ms A) cd dd 418 [(0, .ref x0), (1, .ref x1), (2, .ref x2), (3, .ref x3), (4, .ref x4), (5, .ref x5), (6, .ref x6), (7, .int x7), (8, .int x8), (9, .ref x9), (10, .int x10), (11, .int x11), (13, .int x13), (14, .int x14), (15, .int x15), (16, .int x16), (17, .long x17), (19, .int x19), (20, .int x20)] [] S := by
  unfold k_L_find_418 at h
  refine cg_iload C 18 rfl dL_find_418 ?_
  refine cg_if_le C 474 (by decide) dL_find_420 (fun c_ => ?_) (fun c_ => ?_)
  · have h := h.1 c_
    exact cg_sub [0, 1, 2, 3, 4, 5, 6, 7, 8, 9, 10, 11, 12, 13, 14, 15, 16, 17, 18] rfl (tb_L_find_474 C  hR36 hR209 hR309 x0 x1 x2 x3 x4 x5 x6 x7 x8 x9 x10 x11 x13 x14 x15 x16 x17 x19 x20 cd dd S h)
  · have h := h.2 c_
    refine cg_aload C 5 rfl dL_find_423 ?_
    refine cg_bipush C (x := nI 20) rfl dL_find_425 ?_
    refine cg_iload C 18 rfl dL_find_427 ?_
    refine cg_iadd C dL_find_429 ?_
    refine cg_iconst C (x := nI 1) rfl dL_find_430 ?_
    refine cg_isub C dL_find_431 ?_
    obtain ⟨hc_432, h⟩ := h
    refine cg_ialoadR C hc_432 dL_find_432 ?_
    refine cg_iload C 17 rfl dL_find_433 ?_
    refine cg_icmp_ge C 474 (by decide) dL_find_435 (fun c_ => ?_) (fun c_ => ?_)
    · have h := h.1 c_
      exact cg_sub [0, 1, 2, 3, 4, 5, 6, 7, 8, 9, 10, 11, 12, 13, 14, 15, 16, 17, 18] rfl (tb_L_find_474 C  hR36 hR209 hR309 x0 x1 x2 x3 x4 x5 x6 x7 x8 x9 x10 x11 x13 x14 x15 x16 x17 x19 x20 cd dd S h)
    · have h := h.2 c_
      refine cg_aload C 5 rfl dL_find_438 ?_
      refine cg_iload C 18 rfl dL_find_440 ?_
      refine cg_aload C 5 rfl dL_find_442 ?_
      refine cg_iload C 18 rfl dL_find_444 ?_
      refine cg_iconst C (x := nI 1) rfl dL_find_446 ?_
      refine cg_isub C dL_find_447 ?_
      obtain ⟨hc_448, h⟩ := h
      refine cg_ialoadR C hc_448 dL_find_448 ?_
      obtain ⟨hc_449, h⟩ := h
      refine cg_iastoreR C hc_449 dL_find_449 ?_
      refine cg_nm (fun S20 e_S20 => ?_)
      have h := h S20 e_S20
      refine cg_aload C 5 rfl dL_find_450 ?_
      refine cg_bipush C (x := nI 20) rfl dL_find_452 ?_
      refine cg_iload C 18 rfl dL_find_454 ?_
      refine cg_iadd C dL_find_456 ?_
      refine cg_aload C 5 rfl dL_find_457 ?_
      refine cg_bipush C (x := nI 20) rfl dL_find_459 ?_
      refine cg_iload C 18 rfl dL_find_461 ?_
      refine cg_iadd C dL_find_463 ?_
      refine cg_iconst C (x := nI 1) rfl dL_find_464 ?_
      refine cg_isub C dL_find_465 ?_
      obtain ⟨hc_466, h⟩ := h
      refine cg_ialoadR C hc_466 dL_find_466 ?_
      obtain ⟨hc_467, h⟩ := h
      refine cg_iastoreR C hc_467 dL_find_467 ?_
      refine cg_nm (fun S21 e_S21 => ?_)
      have h := h S21 e_S21
      obtain ⟨x20_22, e_x20_22⟩ : ∃ z : Int32, z = x20 + (-1) := ⟨_, rfl⟩
      have h := h x20_22 e_x20_22
      refine cg_iinc C (lv' := [(20, .int x20_22), (0, .ref x0), (1, .ref x1), (2, .ref x2), (3, .ref x3), (4, .ref x4), (5, .ref x5), (6, .ref x6), (7, .int x7), (8, .int x8), (9, .ref x9), (10, .int x10), (11, .int x11), (13, .int x13), (14, .int x14), (15, .int x15), (16, .int x16), (17, .long x17), (19, .int x19)]) 18 rfl (by rw [e_x20_22]; rfl) (Nat.le_of_ble_eq_true rfl) rfl dL_find_468 ?_
      refine cg_goto C 418 (by decide) dL_find_471 ?_
      exact cg_sub [1, 2, 3, 4, 5, 6, 7, 8, 9, 10, 11, 12, 13, 14, 15, 16, 17, 18, 0] rfl (hR418 x0 x1 x2 x3 x4 x5 x6 x7 x8 x9 x10 x11 x13 x14 x15 x16 x17 x19 x20_22 cd dd S21 h)
set_option maxRecDepth 20000 in
theorem tl_L_find_418 {mc ms : Nat} (C : cC p s m args meth c cL_find 21 none A D Y tp dp RL) {post : cS → Prop} {R36 : Nat → Nat → Nat → Nat → Nat → Nat → Nat → Int32 → Int32 → Nat → Int32 → Nat → Nat → cS → Prop} {R209 : Nat → Nat → Nat → Nat → Nat → Nat → Nat → Int32 → Int32 → Nat → Int32 → Int32 → Int32 → Nat → Nat → cS → Prop} {R309 : Nat → Nat → Nat → Nat → Nat → Nat → Nat → Int32 → Int32 → Nat → Int32 → Int32 → Int32 → Int32 → Int32 → Int32 → Nat → Nat → cS → Prop} (hR36 : ∀ (x0 : Nat) (x1 : Nat) (x2 : Nat) (x3 : Nat) (x4 : Nat) (x5 : Nat) (x6 : Nat) (x7 : Int32) (x8 : Int32) (x9 : Nat) (x10 : Int32) (cd dd : Nat) (S : cS), R36 x0 x1 x2 x3 x4 x5 x6 x7 x8 x9 x10 cd dd S → cG p l e (cRm 6 mc ms 149) s m args below meth c A D Y 21 (MQ below (cQv post D Y A) args s mc ms A) cd dd 36 [(0, .ref x0), (1, .ref x1), (2, .ref x2), (3, .ref x3), (4, .ref x4), (5, .ref x5), (6, .ref x6), (7, .int x7), (8, .int x8), (9, .ref x9), (10, .int x10)] [] S) (hR209 : ∀ (x0 : Nat) (x1 : Nat) (x2 : Nat) (x3 : Nat) (x4 : Nat) (x5 : Nat) (x6 : Nat) (x7 : Int32) (x8 : Int32) (x9 : Nat) (x10 : Int32) (x11 : Int32) (x13 : Int32) (cd dd : Nat) (S : cS), R209 x0 x1 x2 x3 x4 x5 x6 x7 x8 x9 x10 x11 x13 cd dd S → cG p l e (cRm 6 mc ms 149) s m args below meth c A D Y 21 (MQ below (cQv post D Y A) args s mc ms A) cd dd 209 [(0, .ref x0), (1, .ref x1), (2, .ref x2), (3, .ref x3), (4, .ref x4), (5, .ref x5), (6, .ref x6), (7, .int x7), (8, .int x8), (9, .ref x9), (10, .int x10), (11, .int x11), (13, .int x13)] [] S) (hR309 : ∀ (x0 : Nat) (x1 : Nat) (x2 : Nat) (x3 : Nat) (x4 : Nat) (x5 : Nat) (x6 : Nat) (x7 : Int32) (x8 : Int32) (x9 : Nat) (x10 : Int32) (x11 : Int32) (x13 : Int32) (x14 : Int32) (x15 : Int32) (x16 : Int32) (cd dd : Nat) (S : cS), R309 x0 x1 x2 x3 x4 x5 x6 x7 x8 x9 x10 x11 x13 x14 x15 x16 cd dd S → cG p l e (cRm 6 mc ms 149) s m args below meth c A D Y 21 (MQ below (cQv post D Y A) args s mc ms A) cd dd 309 [(0, .ref x0), (1, .ref x1), (2, .ref x2), (3, .ref x3), (4, .ref x4), (5, .ref x5), (6, .ref x6), (7, .int x7), (8, .int x8), (9, .ref x9), (10, .int x10), (11, .int x11), (13, .int x13), (14, .int x14), (15, .int x15), (16, .int x16)] [] S) (x0 : Nat) (x1 : Nat) (x2 : Nat) (x3 : Nat) (x4 : Nat) (x5 : Nat) (x6 : Nat) (x7 : Int32) (x8 : Int32) (x9 : Nat) (x10 : Int32) (x11 : Int32) (x13 : Int32) (x14 : Int32) (x15 : Int32) (x16 : Int32) (x17 : Int64) (x19 : Int32) (x20 : Int32) (cd dd : Nat) (S : cS) (h : k_L_find_418L post dp mc ms R36 R209 R309 x0 x1 x2 x3 x4 x5 x6 x7 x8 x9 x10 x11 x13 x14 x15 x16 x17 x19 x20 cd dd S) : cG p l e (cRm 6 mc ms 149) s m args below meth c A D Y 21 (MQ below (cQv post D Y A) args s mc ms A) cd dd 418 [(0, .ref x0), (1, .ref x1), (2, .ref x2), (3, .ref x3), (4, .ref x4), (5, .ref x5), (6, .ref x6), (7, .int x7), (8, .int x8), (9, .ref x9), (10, .int x10), (11, .int x11), (13, .int x13), (14, .int x14), (15, .int x15), (16, .int x16), (17, .long x17), (19, .int x19), (20, .int x20)] [] S :=
  h (fun y => cG p l e (cRm 6 mc ms 149) s m args below meth c A D Y 21 (MQ below (cQv post D Y A) args s mc ms A) (y.2.2.2.2.2.2.2.2.2.2.2.2.2.2.2.2.2.2.2.1) (y.2.2.2.2.2.2.2.2.2.2.2.2.2.2.2.2.2.2.2.2.1) 418 [(0, .ref (y.1)), (1, .ref (y.2.1)), (2, .ref (y.2.2.1)), (3, .ref (y.2.2.2.1)), (4, .ref (y.2.2.2.2.1)), (5, .ref (y.2.2.2.2.2.1)), (6, .ref (y.2.2.2.2.2.2.1)), (7, .int (y.2.2.2.2.2.2.2.1)), (8, .int (y.2.2.2.2.2.2.2.2.1)), (9, .ref (y.2.2.2.2.2.2.2.2.2.1)), (10, .int (y.2.2.2.2.2.2.2.2.2.2.1)), (11, .int (y.2.2.2.2.2.2.2.2.2.2.2.1)), (13, .int (y.2.2.2.2.2.2.2.2.2.2.2.2.1)), (14, .int (y.2.2.2.2.2.2.2.2.2.2.2.2.2.1)), (15, .int (y.2.2.2.2.2.2.2.2.2.2.2.2.2.2.1)), (16, .int (y.2.2.2.2.2.2.2.2.2.2.2.2.2.2.2.1)), (17, .long (y.2.2.2.2.2.2.2.2.2.2.2.2.2.2.2.2.1)), (19, .int (y.2.2.2.2.2.2.2.2.2.2.2.2.2.2.2.2.2.1)), (20, .int (y.2.2.2.2.2.2.2.2.2.2.2.2.2.2.2.2.2.2.1))] [] (y.2.2.2.2.2.2.2.2.2.2.2.2.2.2.2.2.2.2.2.2.2)) (fun y hy => tb_L_find_418 C  hR36 hR209 hR309 (fun b0 b1 b2 b3 b4 b5 b6 b7 b8 b9 b10 b11 b12 b13 b14 b15 b16 b17 b18 b19 b20 S z => z) (y.1) (y.2.1) (y.2.2.1) (y.2.2.2.1) (y.2.2.2.2.1) (y.2.2.2.2.2.1) (y.2.2.2.2.2.2.1) (y.2.2.2.2.2.2.2.1) (y.2.2.2.2.2.2.2.2.1) (y.2.2.2.2.2.2.2.2.2.1) (y.2.2.2.2.2.2.2.2.2.2.1) (y.2.2.2.2.2.2.2.2.2.2.2.1) (y.2.2.2.2.2.2.2.2.2.2.2.2.1) (y.2.2.2.2.2.2.2.2.2.2.2.2.2.1) (y.2.2.2.2.2.2.2.2.2.2.2.2.2.2.1) (y.2.2.2.2.2.2.2.2.2.2.2.2.2.2.2.1) (y.2.2.2.2.2.2.2.2.2.2.2.2.2.2.2.2.1) (y.2.2.2.2.2.2.2.2.2.2.2.2.2.2.2.2.2.1) (y.2.2.2.2.2.2.2.2.2.2.2.2.2.2.2.2.2.2.1) (y.2.2.2.2.2.2.2.2.2.2.2.2.2.2.2.2.2.2.2.1) (y.2.2.2.2.2.2.2.2.2.2.2.2.2.2.2.2.2.2.2.2.1) (y.2.2.2.2.2.2.2.2.2.2.2.2.2.2.2.2.2.2.2.2.2) hy)
set_option maxRecDepth 20000 in
theorem tb_L_find_416 {mc ms : Nat} (C : cC p s m args meth c cL_find 21 none A D Y tp dp RL) {post : cS → Prop} {R36 : Nat → Nat → Nat → Nat → Nat → Nat → Nat → Int32 → Int32 → Nat → Int32 → Nat → Nat → cS → Prop} {R209 : Nat → Nat → Nat → Nat → Nat → Nat → Nat → Int32 → Int32 → Nat → Int32 → Int32 → Int32 → Nat → Nat → cS → Prop} {R309 : Nat → Nat → Nat → Nat → Nat → Nat → Nat → Int32 → Int32 → Nat → Int32 → Int32 → Int32 → Int32 → Int32 → Int32 → Nat → Nat → cS → Prop} (hR36 : ∀ (x0 : Nat) (x1 : Nat) (x2 : Nat) (x3 : Nat) (x4 : Nat) (x5 : Nat) (x6 : Nat) (x7 : Int32) (x8 : Int32) (x9 : Nat) (x10 : Int32) (cd dd : Nat) (S : cS), R36 x0 x1 x2 x3 x4 x5 x6 x7 x8 x9 x10 cd dd S → cG p l e (cRm 6 mc ms 149) s m args below meth c A D Y 21 (MQ below (cQv post D Y A) args s mc ms A) cd dd 36 [(0, .ref x0), (1, .ref x1), (2, .ref x2), (3, .ref x3), (4, .ref x4), (5, .ref x5), (6, .ref x6), (7, .int x7), (8, .int x8), (9, .ref x9), (10, .int x10)] [] S) (hR209 : ∀ (x0 : Nat) (x1 : Nat) (x2 : Nat) (x3 : Nat) (x4 : Nat) (x5 : Nat) (x6 : Nat) (x7 : Int32) (x8 : Int32) (x9 : Nat) (x10 : Int32) (x11 : Int32) (x13 : Int32) (cd dd : Nat) (S : cS), R209 x0 x1 x2 x3 x4 x5 x6 x7 x8 x9 x10 x11 x13 cd dd S → cG p l e (cRm 6 mc ms 149) s m args below meth c A D Y 21 (MQ below (cQv post D Y A) args s mc ms A) cd dd 209 [(0, .ref x0), (1, .ref x1), (2, .ref x2), (3, .ref x3), (4, .ref x4), (5, .ref x5), (6, .ref x6), (7, .int x7), (8, .int x8), (9, .ref x9), (10, .int x10), (11, .int x11), (13, .int x13)] [] S) (hR309 : ∀ (x0 : Nat) (x1 : Nat) (x2 : Nat) (x3 : Nat) (x4 : Nat) (x5 : Nat) (x6 : Nat) (x7 : Int32) (x8 : Int32) (x9 : Nat) (x10 : Int32) (x11 : Int32) (x13 : Int32) (x14 : Int32) (x15 : Int32) (x16 : Int32) (cd dd : Nat) (S : cS), R309 x0 x1 x2 x3 x4 x5 x6 x7 x8 x9 x10 x11 x13 x14 x15 x16 cd dd S → cG p l e (cRm 6 mc ms 149) s m args below meth c A D Y 21 (MQ below (cQv post D Y A) args s mc ms A) cd dd 309 [(0, .ref x0), (1, .ref x1), (2, .ref x2), (3, .ref x3), (4, .ref x4), (5, .ref x5), (6, .ref x6), (7, .int x7), (8, .int x8), (9, .ref x9), (10, .int x10), (11, .int x11), (13, .int x13), (14, .int x14), (15, .int x15), (16, .int x16)] [] S) (x0 : Nat) (x1 : Nat) (x2 : Nat) (x3 : Nat) (x4 : Nat) (x5 : Nat) (x6 : Nat) (x7 : Int32) (x8 : Int32) (x9 : Nat) (x10 : Int32) (x11 : Int32) (x13 : Int32) (x14 : Int32) (x15 : Int32) (x16 : Int32) (x17 : Int64) (x19 : Int32) (t0 : Int32) (cd dd : Nat) (S : cS) (h : k_L_find_416 post dp mc ms R36 R209 R309 x0 x1 x2 x3 x4 x5 x6 x7 x8 x9 x10 x11 x13 x14 x15 x16 x17 x19 t0 cd dd S) : cG p l e (cRm 6 mc ms 149) s m args below meth c A D Y 21 (MQ below (cQv post D Y A) args s mc ms A) cd dd 416 [(0, .ref x0), (1, .ref x1), (2, .ref x2), (3, .ref x3), (4, .ref x4), (5, .ref x5), (6, .ref x6), (7, .int x7), (8, .int x8), (9, .ref x9), (10, .int x10), (11, .int x11), (13, .int x13), (14, .int x14), (15, .int x15), (16, .int x16), (17, .long x17), (19, .int x19)] [.int t0] S := by
  unfold k_L_find_416 at h
  refine cg_istore C (lv' := [(20, .int t0), (0, .ref x0), (1, .ref x1), (2, .ref x2), (3, .ref x3), (4, .ref x4), (5, .ref x5), (6, .ref x6), (7, .int x7), (8, .int x8), (9, .ref x9), (10, .int x10), (11, .int x11), (13, .int x13), (14, .int x14), (15, .int x15), (16, .int x16), (17, .long x17), (19, .int x19)]) (Nat.le_of_ble_eq_true rfl) rfl dL_find_416 ?_
  exact cg_sub [1, 2, 3, 4, 5, 6, 7, 8, 9, 10, 11, 12, 13, 14, 15, 16, 17, 18, 0] rfl (tl_L_find_418 C  hR36 hR209 hR309 x0 x1 x2 x3 x4 x5 x6 x7 x8 x9 x10 x11 x13 x14 x15 x16 x17 x19 t0 cd dd S h)
set_option maxRecDepth 20000 in
theorem tb_L_find_394 {mc ms : Nat} (C : cC p s m args meth c cL_find 21 none A D Y tp dp RL) {post : cS → Prop} {R36 : Nat → Nat → Nat → Nat → Nat → Nat → Nat → Int32 → Int32 → Nat → Int32 → Nat → Nat → cS → Prop} {R209 : Nat → Nat → Nat → Nat → Nat → Nat → Nat → Int32 → Int32 → Nat → Int32 → Int32 → Int32 → Nat → Nat → cS → Prop} {R309 : Nat → Nat → Nat → Nat → Nat → Nat → Nat → Int32 → Int32 → Nat → Int32 → Int32 → Int32 → Int32 → Int32 → Int32 → Nat → Nat → cS → Prop} (hR36 : ∀ (x0 : Nat) (x1 : Nat) (x2 : Nat) (x3 : Nat) (x4 : Nat) (x5 : Nat) (x6 : Nat) (x7 : Int32) (x8 : Int32) (x9 : Nat) (x10 : Int32) (cd dd : Nat) (S : cS), R36 x0 x1 x2 x3 x4 x5 x6 x7 x8 x9 x10 cd dd S → cG p l e (cRm 6 mc ms 149) s m args below meth c A D Y 21 (MQ below (cQv post D Y A) args s mc ms A) cd dd 36 [(0, .ref x0), (1, .ref x1), (2, .ref x2), (3, .ref x3), (4, .ref x4), (5, .ref x5), (6, .ref x6), (7, .int x7), (8, .int x8), (9, .ref x9), (10, .int x10)] [] S) (hR209 : ∀ (x0 : Nat) (x1 : Nat) (x2 : Nat) (x3 : Nat) (x4 : Nat) (x5 : Nat) (x6 : Nat) (x7 : Int32) (x8 : Int32) (x9 : Nat) (x10 : Int32) (x11 : Int32) (x13 : Int32) (cd dd : Nat) (S : cS), R209 x0 x1 x2 x3 x4 x5 x6 x7 x8 x9 x10 x11 x13 cd dd S → cG p l e (cRm 6 mc ms 149) s m args below meth c A D Y 21 (MQ below (cQv post D Y A) args s mc ms A) cd dd 209 [(0, .ref x0), (1, .ref x1), (2, .ref x2), (3, .ref x3), (4, .ref x4), (5, .ref x5), (6, .ref x6), (7, .int x7), (8, .int x8), (9, .ref x9), (10, .int x10), (11, .int x11), (13, .int x13)] [] S) (hR309 : ∀ (x0 : Nat) (x1 : Nat) (x2 : Nat) (x3 : Nat) (x4 : Nat) (x5 : Nat) (x6 : Nat) (x7 : Int32) (x8 : Int32) (x9 : Nat) (x10 : Int32) (x11 : Int32) (x13 : Int32) (x14 : Int32) (x15 : Int32) (x16 : Int32) (cd dd : Nat) (S : cS), R309 x0 x1 x2 x3 x4 x5 x6 x7 x8 x9 x10 x11 x13 x14 x15 x16 cd dd S → cG p l e (cRm 6 mc ms 149) s m args below meth c A D Y 21 (MQ below (cQv post D Y A) args s mc ms A) cd dd 309 [(0, .ref x0), (1, .ref x1), (2, .ref x2), (3, .ref x3), (4, .ref x4), (5, .ref x5), (6, .ref x6), (7, .int x7), (8, .int x8), (9, .ref x9), (10, .int x10), (11, .int x11), (13, .int x13), (14, .int x14), (15, .int x15), (16, .int x16)] [] S) (x0 : Nat) (x1 : Nat) (x2 : Nat) (x3 : Nat) (x4 : Nat) (x5 : Nat) (x6 : Nat) (x7 : Int32) (x8 : Int32) (x9 : Nat) (x10 : Int32) (x11 : Int32) (x13 : Int32) (x14 : Int32) (x15 : Int32) (x16 : Int32) (x17 : Int64) (x19 : Int32) (cd dd : Nat) (S : cS) (h : k_L_find_394 post dp mc ms R36 R209 R309 x0 x1 x2 x3 x4 x5 x6 x7 x8 x9 x10 x11 x13 x14 x15 x16 x17 x19 cd dd S) : cG p l e (cRm 6 mc ms 149) s m args below meth c A D Y 21 (MQ below (cQv post D Y A) args s mc ms A) cd dd 394 [(0, .ref x0), (1, .ref x1), (2, .ref x2), (3, .ref x3), (4, .ref x4), (5, .ref x5), (6, .ref x6), (7, .int x7), (8, .int x8), (9, .ref x9), (10, .int x10), (11, .int x11), (13, .int x13), (14, .int x14), (15, .int x15), (16, .int x16), (17, .long x17), (19, .int x19)] [] S := by
  unfold k_L_find_394 at h
  refine cg_aload C 6 rfl dL_find_394 ?_
  refine cg_bipush C (x := nI 14) rfl dL_find_396 ?_
  obtain ⟨hc_398, h⟩ := h
  refine cg_ialoadR C hc_398 dL_find_398 ?_
  refine cg_iload C 8 rfl dL_find_399 ?_
  refine cg_icmp_ge C 412 (by decide) dL_find_401 (fun c_ => ?_) (fun c_ => ?_)
  · have h := h.1 c_
    refine cg_iload C 8 rfl dL_find_412 ?_
    refine cg_iconst C (x := nI 1) rfl dL_find_414 ?_
    refine cg_isub C dL_find_415 ?_
    exact cg_sub [0, 1, 2, 3, 4, 5, 6, 7, 8, 9, 10, 11, 12, 13, 14, 15, 16, 17] rfl (tb_L_find_416 C  hR36 hR209 hR309 x0 x1 x2 x3 x4 x5 x6 x7 x8 x9 x10 x11 x13 x14 x15 x16 x17 x19 ((x8 - ((nI 1)))) cd dd S h)
  · have h := h.2 c_
    refine cg_aload C 6 rfl dL_find_404 ?_
    refine cg_bipush C (x := nI 14) rfl dL_find_406 ?_
    obtain ⟨hc_408, h⟩ := h
    refine cg_ialoadR C hc_408 dL_find_408 ?_
    refine cg_goto C 416 (by decide) dL_find_409 ?_
    exact cg_sub [0, 1, 2, 3, 4, 5, 6, 7, 8, 9, 10, 11, 12, 13, 14, 15, 16, 17] rfl (tb_L_find_416 C  hR36 hR209 hR309 x0 x1 x2 x3 x4 x5 x6 x7 x8 x9 x10 x11 x13 x14 x15 x16 x17 x19 ((cI S x6 ((nI 14)).toNatClampNeg)) cd dd S h)
set_option maxRecDepth 20000 in
theorem tb_L_find_362 {mc ms : Nat} (C : cC p s m args meth c cL_find 21 none A D Y tp dp RL) {post : cS → Prop} {R36 : Nat → Nat → Nat → Nat → Nat → Nat → Nat → Int32 → Int32 → Nat → Int32 → Nat → Nat → cS → Prop} {R209 : Nat → Nat → Nat → Nat → Nat → Nat → Nat → Int32 → Int32 → Nat → Int32 → Int32 → Int32 → Nat → Nat → cS → Prop} {R309 : Nat → Nat → Nat → Nat → Nat → Nat → Nat → Int32 → Int32 → Nat → Int32 → Int32 → Int32 → Int32 → Int32 → Int32 → Nat → Nat → cS → Prop} (hR36 : ∀ (x0 : Nat) (x1 : Nat) (x2 : Nat) (x3 : Nat) (x4 : Nat) (x5 : Nat) (x6 : Nat) (x7 : Int32) (x8 : Int32) (x9 : Nat) (x10 : Int32) (cd dd : Nat) (S : cS), R36 x0 x1 x2 x3 x4 x5 x6 x7 x8 x9 x10 cd dd S → cG p l e (cRm 6 mc ms 149) s m args below meth c A D Y 21 (MQ below (cQv post D Y A) args s mc ms A) cd dd 36 [(0, .ref x0), (1, .ref x1), (2, .ref x2), (3, .ref x3), (4, .ref x4), (5, .ref x5), (6, .ref x6), (7, .int x7), (8, .int x8), (9, .ref x9), (10, .int x10)] [] S) (hR209 : ∀ (x0 : Nat) (x1 : Nat) (x2 : Nat) (x3 : Nat) (x4 : Nat) (x5 : Nat) (x6 : Nat) (x7 : Int32) (x8 : Int32) (x9 : Nat) (x10 : Int32) (x11 : Int32) (x13 : Int32) (cd dd : Nat) (S : cS), R209 x0 x1 x2 x3 x4 x5 x6 x7 x8 x9 x10 x11 x13 cd dd S → cG p l e (cRm 6 mc ms 149) s m args below meth c A D Y 21 (MQ below (cQv post D Y A) args s mc ms A) cd dd 209 [(0, .ref x0), (1, .ref x1), (2, .ref x2), (3, .ref x3), (4, .ref x4), (5, .ref x5), (6, .ref x6), (7, .int x7), (8, .int x8), (9, .ref x9), (10, .int x10), (11, .int x11), (13, .int x13)] [] S) (hR309 : ∀ (x0 : Nat) (x1 : Nat) (x2 : Nat) (x3 : Nat) (x4 : Nat) (x5 : Nat) (x6 : Nat) (x7 : Int32) (x8 : Int32) (x9 : Nat) (x10 : Int32) (x11 : Int32) (x13 : Int32) (x14 : Int32) (x15 : Int32) (x16 : Int32) (cd dd : Nat) (S : cS), R309 x0 x1 x2 x3 x4 x5 x6 x7 x8 x9 x10 x11 x13 x14 x15 x16 cd dd S → cG p l e (cRm 6 mc ms 149) s m args below meth c A D Y 21 (MQ below (cQv post D Y A) args s mc ms A) cd dd 309 [(0, .ref x0), (1, .ref x1), (2, .ref x2), (3, .ref x3), (4, .ref x4), (5, .ref x5), (6, .ref x6), (7, .int x7), (8, .int x8), (9, .ref x9), (10, .int x10), (11, .int x11), (13, .int x13), (14, .int x14), (15, .int x15), (16, .int x16)] [] S) (x0 : Nat) (x1 : Nat) (x2 : Nat) (x3 : Nat) (x4 : Nat) (x5 : Nat) (x6 : Nat) (x7 : Int32) (x8 : Int32) (x9 : Nat) (x10 : Int32) (x11 : Int32) (x13 : Int32) (x14 : Int32) (x15 : Int32) (x16 : Int32) (x17 : Int64) (t0 : Int32) (cd dd : Nat) (S : cS) (h : k_L_find_362 post dp mc ms R36 R209 R309 x0 x1 x2 x3 x4 x5 x6 x7 x8 x9 x10 x11 x13 x14 x15 x16 x17 t0 cd dd S) : cG p l e (cRm 6 mc ms 149) s m args below meth c A D Y 21 (MQ below (cQv post D Y A) args s mc ms A) cd dd 362 [(0, .ref x0), (1, .ref x1), (2, .ref x2), (3, .ref x3), (4, .ref x4), (5, .ref x5), (6, .ref x6), (7, .int x7), (8, .int x8), (9, .ref x9), (10, .int x10), (11, .int x11), (13, .int x13), (14, .int x14), (15, .int x15), (16, .int x16), (17, .long x17)] [.int t0] S := by
  unfold k_L_find_362 at h
  refine cg_istore C (lv' := [(19, .int t0), (0, .ref x0), (1, .ref x1), (2, .ref x2), (3, .ref x3), (4, .ref x4), (5, .ref x5), (6, .ref x6), (7, .int x7), (8, .int x8), (9, .ref x9), (10, .int x10), (11, .int x11), (13, .int x13), (14, .int x14), (15, .int x15), (16, .int x16), (17, .long x17)]) (Nat.le_of_ble_eq_true rfl) rfl dL_find_362 ?_
  refine cg_iload C 0 rfl dL_find_364 ?_
  refine cg_if_le C 519 (by decide) dL_find_366 (fun c_ => ?_) (fun c_ => ?_)
  · have h := h.1 c_
    exact cg_sub [1, 2, 3, 4, 5, 6, 7, 8, 9, 10, 11, 12, 13, 14, 15, 16] rfl (tb_L_find_519 C  hR36 hR209 hR309 x0 x1 x2 x3 x4 x5 x6 x7 x8 x9 x10 x11 x13 x14 x15 x16 cd dd S h)
  · have h := h.2 c_
    refine cg_aload C 7 rfl dL_find_369 ?_
    refine cg_bipush C (x := nI 14) rfl dL_find_371 ?_
    obtain ⟨hc_373, h⟩ := h
    refine cg_ialoadR C hc_373 dL_find_373 ?_
    refine cg_iload C 9 rfl dL_find_374 ?_
    refine cg_icmp_lt C 394 (by decide) dL_find_376 (fun c_ => ?_) (fun c_ => ?_)
    · have h := h.1 c_
      exact cg_sub [1, 2, 3, 4, 5, 6, 7, 8, 9, 10, 11, 12, 13, 14, 15, 16, 17, 0] rfl (tb_L_find_394 C  hR36 hR209 hR309 x0 x1 x2 x3 x4 x5 x6 x7 x8 x9 x10 x11 x13 x14 x15 x16 x17 t0 cd dd S h)
    · have h := h.2 c_
      refine cg_iload C 0 rfl dL_find_379 ?_
      refine cg_aload C 6 rfl dL_find_381 ?_
      refine cg_bipush C (x := nI 20) rfl dL_find_383 ?_
      refine cg_iload C 9 rfl dL_find_385 ?_
      refine cg_iadd C dL_find_387 ?_
      refine cg_iconst C (x := nI 1) rfl dL_find_388 ?_
      refine cg_isub C dL_find_389 ?_
      obtain ⟨hc_390, h⟩ := h
      refine cg_ialoadR C hc_390 dL_find_390 ?_
      refine cg_icmp_le C 519 (by decide) dL_find_391 (fun c_ => ?_) (fun c_ => ?_)
      · have h := h.1 c_
        exact cg_sub [1, 2, 3, 4, 5, 6, 7, 8, 9, 10, 11, 12, 13, 14, 15, 16] rfl (tb_L_find_519 C  hR36 hR209 hR309 x0 x1 x2 x3 x4 x5 x6 x7 x8 x9 x10 x11 x13 x14 x15 x16 cd dd S h)
      · have h := h.2 c_
        exact cg_sub [1, 2, 3, 4, 5, 6, 7, 8, 9, 10, 11, 12, 13, 14, 15, 16, 17, 0] rfl (tb_L_find_394 C  hR36 hR209 hR309 x0 x1 x2 x3 x4 x5 x6 x7 x8 x9 x10 x11 x13 x14 x15 x16 x17 t0 cd dd S h)
set_option maxRecDepth 20000 in
theorem tb_L_find_309 {mc ms : Nat} (C : cC p s m args meth c cL_find 21 none A D Y tp dp RL) {post : cS → Prop} {R36 : Nat → Nat → Nat → Nat → Nat → Nat → Nat → Int32 → Int32 → Nat → Int32 → Nat → Nat → cS → Prop} {R209 : Nat → Nat → Nat → Nat → Nat → Nat → Nat → Int32 → Int32 → Nat → Int32 → Int32 → Int32 → Nat → Nat → cS → Prop} {R309 : Nat → Nat → Nat → Nat → Nat → Nat → Nat → Int32 → Int32 → Nat → Int32 → Int32 → Int32 → Int32 → Int32 → Int32 → Nat → Nat → cS → Prop} (hR36 : ∀ (x0 : Nat) (x1 : Nat) (x2 : Nat) (x3 : Nat) (x4 : Nat) (x5 : Nat) (x6 : Nat) (x7 : Int32) (x8 : Int32) (x9 : Nat) (x10 : Int32) (cd dd : Nat) (S : cS), R36 x0 x1 x2 x3 x4 x5 x6 x7 x8 x9 x10 cd dd S → cG p l e (cRm 6 mc ms 149) s m args below meth c A D Y 21 (MQ below (cQv post D Y A) args s mc ms A) cd dd 36 [(0, .ref x0), (1, .ref x1), (2, .ref x2), (3, .ref x3), (4, .ref x4), (5, .ref x5), (6, .ref x6), (7, .int x7), (8, .int x8), (9, .ref x9), (10, .int x10)] [] S) (hR209 : ∀ (x0 : Nat) (x1 : Nat) (x2 : Nat) (x3 : Nat) (x4 : Nat) (x5 : Nat) (x6 : Nat) (x7 : Int32) (x8 : Int32) (x9 : Nat) (x10 : Int32) (x11 : Int32) (x13 : Int32) (cd dd : Nat) (S : cS), R209 x0 x1 x2 x3 x4 x5 x6 x7 x8 x9 x10 x11 x13 cd dd S → cG p l e (cRm 6 mc ms 149) s m args below meth c A D Y 21 (MQ below (cQv post D Y A) args s mc ms A) cd dd 209 [(0, .ref x0), (1, .ref x1), (2, .ref x2), (3, .ref x3), (4, .ref x4), (5, .ref x5), (6, .ref x6), (7, .int x7), (8, .int x8), (9, .ref x9), (10, .int x10), (11, .int x11), (13, .int x13)] [] S) (hR309 : ∀ (x0 : Nat) (x1 : Nat) (x2 : Nat) (x3 : Nat) (x4 : Nat) (x5 : Nat) (x6 : Nat) (x7 : Int32) (x8 : Int32) (x9 : Nat) (x10 : Int32) (x11 : Int32) (x13 : Int32) (x14 : Int32) (x15 : Int32) (x16 : Int32) (cd dd : Nat) (S : cS), R309 x0 x1 x2 x3 x4 x5 x6 x7 x8 x9 x10 x11 x13 x14 x15 x16 cd dd S → cG p l e (cRm 6 mc ms 149) s m args below meth c A D Y 21 (MQ below (cQv post D Y A) args s mc ms A) cd dd 309 [(0, .ref x0), (1, .ref x1), (2, .ref x2), (3, .ref x3), (4, .ref x4), (5, .ref x5), (6, .ref x6), (7, .int x7), (8, .int x8), (9, .ref x9), (10, .int x10), (11, .int x11), (13, .int x13), (14, .int x14), (15, .int x15), (16, .int x16)] [] S) (x0 : Nat) (x1 : Nat) (x2 : Nat) (x3 : Nat) (x4 : Nat) (x5 : Nat) (x6 : Nat) (x7 : Int32) (x8 : Int32) (x9 : Nat) (x10 : Int32) (x11 : Int32) (x13 : Int32) (x14 : Int32) (x15 : Int32) (x16 : Int32) (cd dd : Nat) (S : cS) (h : k_L_find_309 post dp mc ms R36 R209 R309 x0 x1 x2 x3 x4 x5 x6 x7 x8 x9 x10 x11 x13 x14 x15 x16 cd dd S) : cG p l e (cRm 6 mc ms 149) s m args below meth c A D Y 21 (MQ below (cQv post D Y A) args s mc ms A) cd dd 309 [(0, .ref x0), (1, .ref x1), (2, .ref x2), (3, .ref x3), (4, .ref x4), (5, .ref x5), (6, .ref x6), (7, .int x7), (8, .int x8), (9, .ref x9), (10, .int x10), (11, .int x11), (13, .int x13), (14, .int x14), (15, .int x15), (16, .int x16)] [] S := by
  unfold k_L_find_309 at h
  refine cg_iload C 15 rfl dL_find_309 ?_
  refine cg_iload C 13 rfl dL_find_311 ?_
  refine cg_icmp_ge C 525 (by decide) dL_find_313 (fun c_ => ?_) (fun c_ => ?_)
  · have h := h.1 c_
    exact cg_sub [0, 1, 2, 3, 4, 5, 6, 7, 8, 9, 10, 11, 12] rfl (tb_L_find_525 C  hR36 hR209 x0 x1 x2 x3 x4 x5 x6 x7 x8 x9 x10 x11 x13 cd dd S h)
  · have h := h.2 c_
    refine cg_iload C 14 rfl dL_find_316 ?_
    refine cg_if_ne C 525 (by decide) dL_find_318 (fun c_ => ?_) (fun c_ => ?_)
    · have h := h.1 c_
      exact cg_sub [0, 1, 2, 3, 4, 5, 6, 7, 8, 9, 10, 11, 12] rfl (tb_L_find_525 C  hR36 hR209 x0 x1 x2 x3 x4 x5 x6 x7 x8 x9 x10 x11 x13 cd dd S h)
    · have h := h.2 c_
      refine cg_aload_n C (i := 0) rfl 0 rfl dL_find_321 ?_
      refine cg_aload_n C (i := 1) rfl 1 rfl dL_find_322 ?_
      refine cg_iload C 11 rfl dL_find_323 ?_
      refine cg_iload C 15 rfl dL_find_325 ?_
      obtain ⟨hb_327, h⟩ := h
      refine cg_callsi C (t_L_record l x1 x11 x16 S dp h) cc_L_26 rfl ⟨by decide, by decide⟩ hb_327 rfl (Nat.le_of_ble_eq_true rfl) dL_find_327 (fun r_14 S_14 h => ?_)
      simp only [Nat.add_zero]
      obtain ⟨hc_330, h⟩ := h
      refine cg_laloadR C hc_330 dL_find_330 ?_
      refine cg_nmL (fun x17_15 e_x17_15 => ?_)
      have h := h x17_15 e_x17_15
      refine cg_lstore C (lv' := [(17, .long x17_15), (0, .ref x0), (1, .ref x1), (2, .ref x2), (3, .ref x3), (4, .ref x4), (5, .ref x5), (6, .ref x6), (7, .int x7), (8, .int x8), (9, .ref x9), (10, .int x10), (11, .int x11), (13, .int x13), (14, .int x14), (15, .int x15), (16, .int x16)]) (Nat.le_of_ble_eq_true rfl) rfl dL_find_331 ?_
      refine cg_aload_n C (i := 3) rfl 4 rfl dL_find_333 ?_
      refine cg_bipush C (x := nI 32) rfl dL_find_334 ?_
      refine cg_iload C 12 rfl dL_find_336 ?_
      refine cg_iadd C dL_find_338 ?_
      obtain ⟨hc_339, h⟩ := h
      refine cg_ialoadR C hc_339 dL_find_339 ?_
      refine cg_iload C 16 rfl dL_find_340 ?_
      refine cg_ishr C dL_find_342 ?_
      refine cg_iconst C (x := nI 1) rfl dL_find_343 ?_
      refine cg_iand C dL_find_344 ?_
      refine cg_iconst C (x := nI 1) rfl dL_find_345 ?_
      refine cg_icmp_ne C 361 (by decide) dL_find_346 (fun c_ => ?_) (fun c_ => ?_)
      · have h := h.1 c_
        refine cg_iconst C (x := nI 0) rfl dL_find_361 ?_
        exact cg_sub [1, 2, 3, 4, 5, 6, 7, 8, 9, 10, 11, 12, 13, 14, 15, 16, 0] rfl (tb_L_find_362 C  hR36 hR209 hR309 x0 x1 x2 x3 x4 x5 x6 x7 x8 x9 x10 x11 x13 x14 x15 x16 x17_15 ((nI 0)) cd dd S_14 h)
      · have h := h.2 c_
        refine cg_lload C 0 rfl dL_find_349 ?_
        refine cg_iload C 8 rfl dL_find_351 ?_
        refine cg_aload C 10 rfl dL_find_353 ?_
        obtain ⟨hb_355, h⟩ := h
        refine cg_callsi C (t_L_rank l x17_15 x7 x9 S_14 dp h) cc_L_54 rfl ⟨by decide, by decide⟩ hb_355 rfl (Nat.le_of_ble_eq_true rfl) dL_find_355 (fun r_23 S_23 h => ?_)
        simp only [Nat.add_zero]
        refine cg_goto C 362 (by decide) dL_find_358 ?_
        exact cg_sub [1, 2, 3, 4, 5, 6, 7, 8, 9, 10, 11, 12, 13, 14, 15, 16, 0] rfl (tb_L_find_362 C  hR36 hR209 hR309 x0 x1 x2 x3 x4 x5 x6 x7 x8 x9 x10 x11 x13 x14 x15 x16 x17_15 r_23 cd dd S_23 h)
set_option maxRecDepth 20000 in
theorem tl_L_find_309 {mc ms : Nat} (C : cC p s m args meth c cL_find 21 none A D Y tp dp RL) {post : cS → Prop} {R36 : Nat → Nat → Nat → Nat → Nat → Nat → Nat → Int32 → Int32 → Nat → Int32 → Nat → Nat → cS → Prop} {R209 : Nat → Nat → Nat → Nat → Nat → Nat → Nat → Int32 → Int32 → Nat → Int32 → Int32 → Int32 → Nat → Nat → cS → Prop} (hR36 : ∀ (x0 : Nat) (x1 : Nat) (x2 : Nat) (x3 : Nat) (x4 : Nat) (x5 : Nat) (x6 : Nat) (x7 : Int32) (x8 : Int32) (x9 : Nat) (x10 : Int32) (cd dd : Nat) (S : cS), R36 x0 x1 x2 x3 x4 x5 x6 x7 x8 x9 x10 cd dd S → cG p l e (cRm 6 mc ms 149) s m args below meth c A D Y 21 (MQ below (cQv post D Y A) args s mc ms A) cd dd 36 [(0, .ref x0), (1, .ref x1), (2, .ref x2), (3, .ref x3), (4, .ref x4), (5, .ref x5), (6, .ref x6), (7, .int x7), (8, .int x8), (9, .ref x9), (10, .int x10)] [] S) (hR209 : ∀ (x0 : Nat) (x1 : Nat) (x2 : Nat) (x3 : Nat) (x4 : Nat) (x5 : Nat) (x6 : Nat) (x7 : Int32) (x8 : Int32) (x9 : Nat) (x10 : Int32) (x11 : Int32) (x13 : Int32) (cd dd : Nat) (S : cS), R209 x0 x1 x2 x3 x4 x5 x6 x7 x8 x9 x10 x11 x13 cd dd S → cG p l e (cRm 6 mc ms 149) s m args below meth c A D Y 21 (MQ below (cQv post D Y A) args s mc ms A) cd dd 209 [(0, .ref x0), (1, .ref x1), (2, .ref x2), (3, .ref x3), (4, .ref x4), (5, .ref x5), (6, .ref x6), (7, .int x7), (8, .int x8), (9, .ref x9), (10, .int x10), (11, .int x11), (13, .int x13)] [] S) (x0 : Nat) (x1 : Nat) (x2 : Nat) (x3 : Nat) (x4 : Nat) (x5 : Nat) (x6 : Nat) (x7 : Int32) (x8 : Int32) (x9 : Nat) (x10 : Int32) (x11 : Int32) (x13 : Int32) (x14 : Int32) (x15 : Int32) (x16 : Int32) (cd dd : Nat) (S : cS) (h : k_L_find_309L post dp mc ms R36 R209 x0 x1 x2 x3 x4 x5 x6 x7 x8 x9 x10 x11 x13 x14 x15 x16 cd dd S) : cG p l e (cRm 6 mc ms 149) s m args below meth c A D Y 21 (MQ below (cQv post D Y A) args s mc ms A) cd dd 309 [(0, .ref x0), (1, .ref x1), (2, .ref x2), (3, .ref x3), (4, .ref x4), (5, .ref x5), (6, .ref x6), (7, .int x7), (8, .int x8), (9, .ref x9), (10, .int x10), (11, .int x11), (13, .int x13), (14, .int x14), (15, .int x15), (16, .int x16)] [] S :=
  h (fun y => cG p l e (cRm 6 mc ms 149) s m args below meth c A D Y 21 (MQ below (cQv post D Y A) args s mc ms A) (y.2.2.2.2.2.2.2.2.2.2.2.2.2.2.2.2.1) (y.2.2.2.2.2.2.2.2.2.2.2.2.2.2.2.2.2.1) 309 [(0, .ref (y.1)), (1, .ref (y.2.1)), (2, .ref (y.2.2.1)), (3, .ref (y.2.2.2.1)), (4, .ref (y.2.2.2.2.1)), (5, .ref (y.2.2.2.2.2.1)), (6, .ref (y.2.2.2.2.2.2.1)), (7, .int (y.2.2.2.2.2.2.2.1)), (8, .int (y.2.2.2.2.2.2.2.2.1)), (9, .ref (y.2.2.2.2.2.2.2.2.2.1)), (10, .int (y.2.2.2.2.2.2.2.2.2.2.1)), (11, .int (y.2.2.2.2.2.2.2.2.2.2.2.1)), (13, .int (y.2.2.2.2.2.2.2.2.2.2.2.2.1)), (14, .int (y.2.2.2.2.2.2.2.2.2.2.2.2.2.1)), (15, .int (y.2.2.2.2.2.2.2.2.2.2.2.2.2.2.1)), (16, .int (y.2.2.2.2.2.2.2.2.2.2.2.2.2.2.2.1))] [] (y.2.2.2.2.2.2.2.2.2.2.2.2.2.2.2.2.2.2)) (fun y hy => tb_L_find_309 C  hR36 hR209 (fun b0 b1 b2 b3 b4 b5 b6 b7 b8 b9 b10 b11 b12 b13 b14 b15 b16 b17 S z => z) (y.1) (y.2.1) (y.2.2.1) (y.2.2.2.1) (y.2.2.2.2.1) (y.2.2.2.2.2.1) (y.2.2.2.2.2.2.1) (y.2.2.2.2.2.2.2.1) (y.2.2.2.2.2.2.2.2.1) (y.2.2.2.2.2.2.2.2.2.1) (y.2.2.2.2.2.2.2.2.2.2.1) (y.2.2.2.2.2.2.2.2.2.2.2.1) (y.2.2.2.2.2.2.2.2.2.2.2.2.1) (y.2.2.2.2.2.2.2.2.2.2.2.2.2.1) (y.2.2.2.2.2.2.2.2.2.2.2.2.2.2.1) (y.2.2.2.2.2.2.2.2.2.2.2.2.2.2.2.1) (y.2.2.2.2.2.2.2.2.2.2.2.2.2.2.2.2.1) (y.2.2.2.2.2.2.2.2.2.2.2.2.2.2.2.2.2.1) (y.2.2.2.2.2.2.2.2.2.2.2.2.2.2.2.2.2.2) hy)
set_option maxRecDepth 20000 in
theorem tb_L_find_303 {mc ms : Nat} (C : cC p s m args meth c cL_find 21 none A D Y tp dp RL) {post : cS → Prop} {R36 : Nat → Nat → Nat → Nat → Nat → Nat → Nat → Int32 → Int32 → Nat → Int32 → Nat → Nat → cS → Prop} {R209 : Nat → Nat → Nat → Nat → Nat → Nat → Nat → Int32 → Int32 → Nat → Int32 → Int32 → Int32 → Nat → Nat → cS → Prop} (hR36 : ∀ (x0 : Nat) (x1 : Nat) (x2 : Nat) (x3 : Nat) (x4 : Nat) (x5 : Nat) (x6 : Nat) (x7 : Int32) (x8 : Int32) (x9 : Nat) (x10 : Int32) (cd dd : Nat) (S : cS), R36 x0 x1 x2 x3 x4 x5 x6 x7 x8 x9 x10 cd dd S → cG p l e (cRm 6 mc ms 149) s m args below meth c A D Y 21 (MQ below (cQv post D Y A) args s mc ms A) cd dd 36 [(0, .ref x0), (1, .ref x1), (2, .ref x2), (3, .ref x3), (4, .ref x4), (5, .ref x5), (6, .ref x6), (7, .int x7), (8, .int x8), (9, .ref x9), (10, .int x10)] [] S) (hR209 : ∀ (x0 : Nat) (x1 : Nat) (x2 : Nat) (x3 : Nat) (x4 : Nat) (x5 : Nat) (x6 : Nat) (x7 : Int32) (x8 : Int32) (x9 : Nat) (x10 : Int32) (x11 : Int32) (x13 : Int32) (cd dd : Nat) (S : cS), R209 x0 x1 x2 x3 x4 x5 x6 x7 x8 x9 x10 x11 x13 cd dd S → cG p l e (cRm 6 mc ms 149) s m args below meth c A D Y 21 (MQ below (cQv post D Y A) args s mc ms A) cd dd 209 [(0, .ref x0), (1, .ref x1), (2, .ref x2), (3, .ref x3), (4, .ref x4), (5, .ref x5), (6, .ref x6), (7, .int x7), (8, .int x8), (9, .ref x9), (10, .int x10), (11, .int x11), (13, .int x13)] [] S) (x0 : Nat) (x1 : Nat) (x2 : Nat) (x3 : Nat) (x4 : Nat) (x5 : Nat) (x6 : Nat) (x7 : Int32) (x8 : Int32) (x9 : Nat) (x10 : Int32) (x11 : Int32) (x13 : Int32) (x14 : Int32) (x15 : Int32) (t0 : Int32) (t1 : Int32) (t2 : Int32) (t3 : Nat) (cd dd : Nat) (S : cS) (h : k_L_find_303 post dp mc ms R36 R209 x0 x1 x2 x3 x4 x5 x6 x7 x8 x9 x10 x11 x13 x14 x15 t0 t1 t2 t3 cd dd S) : cG p l e (cRm 6 mc ms 149) s m args below meth c A D Y 21 (MQ below (cQv post D Y A) args s mc ms A) cd dd 303 [(0, .ref x0), (1, .ref x1), (2, .ref x2), (3, .ref x3), (4, .ref x4), (5, .ref x5), (6, .ref x6), (7, .int x7), (8, .int x8), (9, .ref x9), (10, .int x10), (11, .int x11), (13, .int x13), (14, .int x14), (15, .int x15)] [.int t0, .int t1, .int t2, .ref t3] S := by
  unfold k_L_find_303 at h
  refine cg_iadd C dL_find_303 ?_
  obtain ⟨hc_304, h⟩ := h
  refine cg_iastoreR C hc_304 dL_find_304 ?_
  refine cg_nm (fun S12 e_S12 => ?_)
  have h := h S12 e_S12
  refine cg_iload C 12 rfl dL_find_305 ?_
  refine cg_istore C (lv' := [(16, .int x13), (0, .ref x0), (1, .ref x1), (2, .ref x2), (3, .ref x3), (4, .ref x4), (5, .ref x5), (6, .ref x6), (7, .int x7), (8, .int x8), (9, .ref x9), (10, .int x10), (11, .int x11), (13, .int x13), (14, .int x14), (15, .int x15)]) (Nat.le_of_ble_eq_true rfl) rfl dL_find_307 ?_
  exact cg_sub [1, 2, 3, 4, 5, 6, 7, 8, 9, 10, 11, 12, 13, 14, 15, 0] rfl (tl_L_find_309 C  hR36 hR209 x0 x1 x2 x3 x4 x5 x6 x7 x8 x9 x10 x11 x13 x14 x15 x13 cd dd S12 h)
set_option maxRecDepth 20000 in
theorem tb_L_find_285 {mc ms : Nat} (C : cC p s m args meth c cL_find 21 none A D Y tp dp RL) {post : cS → Prop} {R36 : Nat → Nat → Nat → Nat → Nat → Nat → Nat → Int32 → Int32 → Nat → Int32 → Nat → Nat → cS → Prop} {R209 : Nat → Nat → Nat → Nat → Nat → Nat → Nat → Int32 → Int32 → Nat → Int32 → Int32 → Int32 → Nat → Nat → cS → Prop} (hR36 : ∀ (x0 : Nat) (x1 : Nat) (x2 : Nat) (x3 : Nat) (x4 : Nat) (x5 : Nat) (x6 : Nat) (x7 : Int32) (x8 : Int32) (x9 : Nat) (x10 : Int32) (cd dd : Nat) (S : cS), R36 x0 x1 x2 x3 x4 x5 x6 x7 x8 x9 x10 cd dd S → cG p l e (cRm 6 mc ms 149) s m args below meth c A D Y 21 (MQ below (cQv post D Y A) args s mc ms A) cd dd 36 [(0, .ref x0), (1, .ref x1), (2, .ref x2), (3, .ref x3), (4, .ref x4), (5, .ref x5), (6, .ref x6), (7, .int x7), (8, .int x8), (9, .ref x9), (10, .int x10)] [] S) (hR209 : ∀ (x0 : Nat) (x1 : Nat) (x2 : Nat) (x3 : Nat) (x4 : Nat) (x5 : Nat) (x6 : Nat) (x7 : Int32) (x8 : Int32) (x9 : Nat) (x10 : Int32) (x11 : Int32) (x13 : Int32) (cd dd : Nat) (S : cS), R209 x0 x1 x2 x3 x4 x5 x6 x7 x8 x9 x10 x11 x13 cd dd S → cG p l e (cRm 6 mc ms 149) s m args below meth c A D Y 21 (MQ below (cQv post D Y A) args s mc ms A) cd dd 209 [(0, .ref x0), (1, .ref x1), (2, .ref x2), (3, .ref x3), (4, .ref x4), (5, .ref x5), (6, .ref x6), (7, .int x7), (8, .int x8), (9, .ref x9), (10, .int x10), (11, .int x11), (13, .int x13)] [] S) (x0 : Nat) (x1 : Nat) (x2 : Nat) (x3 : Nat) (x4 : Nat) (x5 : Nat) (x6 : Nat) (x7 : Int32) (x8 : Int32) (x9 : Nat) (x10 : Int32) (x11 : Int32) (x13 : Int32) (x14 : Int32) (t0 : Int32) (cd dd : Nat) (S : cS) (h : k_L_find_285 post dp mc ms R36 R209 x0 x1 x2 x3 x4 x5 x6 x7 x8 x9 x10 x11 x13 x14 t0 cd dd S) : cG p l e (cRm 6 mc ms 149) s m args below meth c A D Y 21 (MQ below (cQv post D Y A) args s mc ms A) cd dd 285 [(0, .ref x0), (1, .ref x1), (2, .ref x2), (3, .ref x3), (4, .ref x4), (5, .ref x5), (6, .ref x6), (7, .int x7), (8, .int x8), (9, .ref x9), (10, .int x10), (11, .int x11), (13, .int x13), (14, .int x14)] [.int t0] S := by
  unfold k_L_find_285 at h
  refine cg_istore C (lv' := [(15, .int t0), (0, .ref x0), (1, .ref x1), (2, .ref x2), (3, .ref x3), (4, .ref x4), (5, .ref x5), (6, .ref x6), (7, .int x7), (8, .int x8), (9, .ref x9), (10, .int x10), (11, .int x11), (13, .int x13), (14, .int x14)]) (Nat.le_of_ble_eq_true rfl) rfl dL_find_285 ?_
  refine cg_aload C 7 rfl dL_find_287 ?_
  refine cg_bipush C (x := nI 15) rfl dL_find_289 ?_
  refine cg_dup2 C rfl rfl dL_find_291 ?_
  obtain ⟨hc_292, h⟩ := h
  refine cg_ialoadR C hc_292 dL_find_292 ?_
  refine cg_iload C 0 rfl dL_find_293 ?_
  refine cg_if_eq C 302 (by decide) dL_find_295 (fun c_ => ?_) (fun c_ => ?_)
  · have h := h.1 c_
    refine cg_iconst C (x := nI 0) rfl dL_find_302 ?_
    exact cg_sub [1, 2, 3, 4, 5, 6, 7, 8, 9, 10, 11, 12, 13, 14, 0] rfl (tb_L_find_303 C  hR36 hR209 x0 x1 x2 x3 x4 x5 x6 x7 x8 x9 x10 x11 x13 x14 t0 ((nI 0)) ((cI S x6 ((nI 15)).toNatClampNeg)) ((nI 15)) x6 cd dd S h)
  · have h := h.2 c_
    refine cg_iconst C (x := nI 1) rfl dL_find_298 ?_
    refine cg_goto C 303 (by decide) dL_find_299 ?_
    exact cg_sub [1, 2, 3, 4, 5, 6, 7, 8, 9, 10, 11, 12, 13, 14, 0] rfl (tb_L_find_303 C  hR36 hR209 x0 x1 x2 x3 x4 x5 x6 x7 x8 x9 x10 x11 x13 x14 t0 ((nI 1)) ((cI S x6 ((nI 15)).toNatClampNeg)) ((nI 15)) x6 cd dd S h)
set_option maxRecDepth 20000 in
theorem tb_L_find_284 {mc ms : Nat} (C : cC p s m args meth c cL_find 21 none A D Y tp dp RL) {post : cS → Prop} {R36 : Nat → Nat → Nat → Nat → Nat → Nat → Nat → Int32 → Int32 → Nat → Int32 → Nat → Nat → cS → Prop} {R209 : Nat → Nat → Nat → Nat → Nat → Nat → Nat → Int32 → Int32 → Nat → Int32 → Int32 → Int32 → Nat → Nat → cS → Prop} (hR36 : ∀ (x0 : Nat) (x1 : Nat) (x2 : Nat) (x3 : Nat) (x4 : Nat) (x5 : Nat) (x6 : Nat) (x7 : Int32) (x8 : Int32) (x9 : Nat) (x10 : Int32) (cd dd : Nat) (S : cS), R36 x0 x1 x2 x3 x4 x5 x6 x7 x8 x9 x10 cd dd S → cG p l e (cRm 6 mc ms 149) s m args below meth c A D Y 21 (MQ below (cQv post D Y A) args s mc ms A) cd dd 36 [(0, .ref x0), (1, .ref x1), (2, .ref x2), (3, .ref x3), (4, .ref x4), (5, .ref x5), (6, .ref x6), (7, .int x7), (8, .int x8), (9, .ref x9), (10, .int x10)] [] S) (hR209 : ∀ (x0 : Nat) (x1 : Nat) (x2 : Nat) (x3 : Nat) (x4 : Nat) (x5 : Nat) (x6 : Nat) (x7 : Int32) (x8 : Int32) (x9 : Nat) (x10 : Int32) (x11 : Int32) (x13 : Int32) (cd dd : Nat) (S : cS), R209 x0 x1 x2 x3 x4 x5 x6 x7 x8 x9 x10 x11 x13 cd dd S → cG p l e (cRm 6 mc ms 149) s m args below meth c A D Y 21 (MQ below (cQv post D Y A) args s mc ms A) cd dd 209 [(0, .ref x0), (1, .ref x1), (2, .ref x2), (3, .ref x3), (4, .ref x4), (5, .ref x5), (6, .ref x6), (7, .int x7), (8, .int x8), (9, .ref x9), (10, .int x10), (11, .int x11), (13, .int x13)] [] S) (x0 : Nat) (x1 : Nat) (x2 : Nat) (x3 : Nat) (x4 : Nat) (x5 : Nat) (x6 : Nat) (x7 : Int32) (x8 : Int32) (x9 : Nat) (x10 : Int32) (x11 : Int32) (x13 : Int32) (x14 : Int32) (cd dd : Nat) (S : cS) (h : k_L_find_284 post dp mc ms R36 R209 x0 x1 x2 x3 x4 x5 x6 x7 x8 x9 x10 x11 x13 x14 cd dd S) : cG p l e (cRm 6 mc ms 149) s m args below meth c A D Y 21 (MQ below (cQv post D Y A) args s mc ms A) cd dd 284 [(0, .ref x0), (1, .ref x1), (2, .ref x2), (3, .ref x3), (4, .ref x4), (5, .ref x5), (6, .ref x6), (7, .int x7), (8, .int x8), (9, .ref x9), (10, .int x10), (11, .int x11), (13, .int x13), (14, .int x14)] [] S := by
  unfold k_L_find_284 at h
  refine cg_iconst C (x := nI 0) rfl dL_find_284 ?_
  exact cg_sub [0, 1, 2, 3, 4, 5, 6, 7, 8, 9, 10, 11, 12, 13] rfl (tb_L_find_285 C  hR36 hR209 x0 x1 x2 x3 x4 x5 x6 x7 x8 x9 x10 x11 x13 x14 ((nI 0)) cd dd S h)
set_option maxRecDepth 20000 in
theorem tb_L_find_240 {mc ms : Nat} (C : cC p s m args meth c cL_find 21 none A D Y tp dp RL) {post : cS → Prop} {R36 : Nat → Nat → Nat → Nat → Nat → Nat → Nat → Int32 → Int32 → Nat → Int32 → Nat → Nat → cS → Prop} {R209 : Nat → Nat → Nat → Nat → Nat → Nat → Nat → Int32 → Int32 → Nat → Int32 → Int32 → Int32 → Nat → Nat → cS → Prop} (hR36 : ∀ (x0 : Nat) (x1 : Nat) (x2 : Nat) (x3 : Nat) (x4 : Nat) (x5 : Nat) (x6 : Nat) (x7 : Int32) (x8 : Int32) (x9 : Nat) (x10 : Int32) (cd dd : Nat) (S : cS), R36 x0 x1 x2 x3 x4 x5 x6 x7 x8 x9 x10 cd dd S → cG p l e (cRm 6 mc ms 149) s m args below meth c A D Y 21 (MQ below (cQv post D Y A) args s mc ms A) cd dd 36 [(0, .ref x0), (1, .ref x1), (2, .ref x2), (3, .ref x3), (4, .ref x4), (5, .ref x5), (6, .ref x6), (7, .int x7), (8, .int x8), (9, .ref x9), (10, .int x10)] [] S) (hR209 : ∀ (x0 : Nat) (x1 : Nat) (x2 : Nat) (x3 : Nat) (x4 : Nat) (x5 : Nat) (x6 : Nat) (x7 : Int32) (x8 : Int32) (x9 : Nat) (x10 : Int32) (x11 : Int32) (x13 : Int32) (cd dd : Nat) (S : cS), R209 x0 x1 x2 x3 x4 x5 x6 x7 x8 x9 x10 x11 x13 cd dd S → cG p l e (cRm 6 mc ms 149) s m args below meth c A D Y 21 (MQ below (cQv post D Y A) args s mc ms A) cd dd 209 [(0, .ref x0), (1, .ref x1), (2, .ref x2), (3, .ref x3), (4, .ref x4), (5, .ref x5), (6, .ref x6), (7, .int x7), (8, .int x8), (9, .ref x9), (10, .int x10), (11, .int x11), (13, .int x13)] [] S) (x0 : Nat) (x1 : Nat) (x2 : Nat) (x3 : Nat) (x4 : Nat) (x5 : Nat) (x6 : Nat) (x7 : Int32) (x8 : Int32) (x9 : Nat) (x10 : Int32) (x11 : Int32) (x13 : Int32) (t0 : Int32) (cd dd : Nat) (S : cS) (h : k_L_find_240 post dp mc ms R36 R209 x0 x1 x2 x3 x4 x5 x6 x7 x8 x9 x10 x11 x13 t0 cd dd S) : cG p l e (cRm 6 mc ms 149) s m args below meth c A D Y 21 (MQ below (cQv post D Y A) args s mc ms A) cd dd 240 [(0, .ref x0), (1, .ref x1), (2, .ref x2), (3, .ref x3), (4, .ref x4), (5, .ref x5), (6, .ref x6), (7, .int x7), (8, .int x8), (9, .ref x9), (10, .int x10), (11, .int x11), (13, .int x13)] [.int t0] S := by
  unfold k_L_find_240 at h
  refine cg_istore C (lv' := [(14, .int t0), (0, .ref x0), (1, .ref x1), (2, .ref x2), (3, .ref x3), (4, .ref x4), (5, .ref x5), (6, .ref x6), (7, .int x7), (8, .int x8), (9, .ref x9), (10, .int x10), (11, .int x11), (13, .int x13)]) (Nat.le_of_ble_eq_true rfl) rfl dL_find_240 ?_
  refine cg_aload C 7 rfl dL_find_242 ?_
  refine cg_bipush C (x := nI 14) rfl dL_find_244 ?_
  obtain ⟨hc_246, h⟩ := h
  refine cg_ialoadR C hc_246 dL_find_246 ?_
  refine cg_iload C 9 rfl dL_find_247 ?_
  refine cg_icmp_ne C 284 (by decide) dL_find_249 (fun c_ => ?_) (fun c_ => ?_)
  · have h := h.1 c_
    exact cg_sub [1, 2, 3, 4, 5, 6, 7, 8, 9, 10, 11, 12, 13, 0] rfl (tb_L_find_284 C  hR36 hR209 x0 x1 x2 x3 x4 x5 x6 x7 x8 x9 x10 x11 x13 t0 cd dd S h)
  · have h := h.2 c_
    refine cg_aload_n C (i := 0) rfl 1 rfl dL_find_252 ?_
    refine cg_aload_n C (i := 1) rfl 2 rfl dL_find_253 ?_
    refine cg_iload C 12 rfl dL_find_254 ?_
    refine cg_iload C 13 rfl dL_find_256 ?_
    refine cg_iload C 0 rfl dL_find_258 ?_
    refine cg_iload C 8 rfl dL_find_260 ?_
    refine cg_aload C 10 rfl dL_find_262 ?_
    obtain ⟨hb_264, h⟩ := h
    refine cg_callsi C (t_L_bound l x0 x1 x11 x13 t0 x7 x9 S dp h) cc_L_50 rfl ⟨by decide, by decide⟩ hb_264 rfl (Nat.le_of_ble_eq_true rfl) dL_find_264 (fun r_24 S_24 h => ?_)
    simp only [Nat.add_zero]
    refine cg_aload C 6 rfl dL_find_267 ?_
    refine cg_bipush C (x := nI 20) rfl dL_find_269 ?_
    refine cg_iload C 9 rfl dL_find_271 ?_
    refine cg_iadd C dL_find_273 ?_
    refine cg_iconst C (x := nI 1) rfl dL_find_274 ?_
    refine cg_isub C dL_find_275 ?_
    obtain ⟨hc_276, h⟩ := h
    refine cg_ialoadR C hc_276 dL_find_276 ?_
    refine cg_icmp_gt C 284 (by decide) dL_find_277 (fun c_ => ?_) (fun c_ => ?_)
    · have h := h.1 c_
      exact cg_sub [1, 2, 3, 4, 5, 6, 7, 8, 9, 10, 11, 12, 13, 0] rfl (tb_L_find_284 C  hR36 hR209 x0 x1 x2 x3 x4 x5 x6 x7 x8 x9 x10 x11 x13 t0 cd dd S_24 h)
    · have h := h.2 c_
      refine cg_iconst C (x := nI 1) rfl dL_find_280 ?_
      refine cg_goto C 285 (by decide) dL_find_281 ?_
      exact cg_sub [1, 2, 3, 4, 5, 6, 7, 8, 9, 10, 11, 12, 13, 0] rfl (tb_L_find_285 C  hR36 hR209 x0 x1 x2 x3 x4 x5 x6 x7 x8 x9 x10 x11 x13 t0 ((nI 1)) cd dd S_24 h)
set_option maxRecDepth 20000 in
theorem tb_L_find_209 {mc ms : Nat} (C : cC p s m args meth c cL_find 21 none A D Y tp dp RL) {post : cS → Prop} {R36 : Nat → Nat → Nat → Nat → Nat → Nat → Nat → Int32 → Int32 → Nat → Int32 → Nat → Nat → cS → Prop} {R209 : Nat → Nat → Nat → Nat → Nat → Nat → Nat → Int32 → Int32 → Nat → Int32 → Int32 → Int32 → Nat → Nat → cS → Prop} (hR36 : ∀ (x0 : Nat) (x1 : Nat) (x2 : Nat) (x3 : Nat) (x4 : Nat) (x5 : Nat) (x6 : Nat) (x7 : Int32) (x8 : Int32) (x9 : Nat) (x10 : Int32) (cd dd : Nat) (S : cS), R36 x0 x1 x2 x3 x4 x5 x6 x7 x8 x9 x10 cd dd S → cG p l e (cRm 6 mc ms 149) s m args below meth c A D Y 21 (MQ below (cQv post D Y A) args s mc ms A) cd dd 36 [(0, .ref x0), (1, .ref x1), (2, .ref x2), (3, .ref x3), (4, .ref x4), (5, .ref x5), (6, .ref x6), (7, .int x7), (8, .int x8), (9, .ref x9), (10, .int x10)] [] S) (hR209 : ∀ (x0 : Nat) (x1 : Nat) (x2 : Nat) (x3 : Nat) (x4 : Nat) (x5 : Nat) (x6 : Nat) (x7 : Int32) (x8 : Int32) (x9 : Nat) (x10 : Int32) (x11 : Int32) (x13 : Int32) (cd dd : Nat) (S : cS), R209 x0 x1 x2 x3 x4 x5 x6 x7 x8 x9 x10 x11 x13 cd dd S → cG p l e (cRm 6 mc ms 149) s m args below meth c A D Y 21 (MQ below (cQv post D Y A) args s mc ms A) cd dd 209 [(0, .ref x0), (1, .ref x1), (2, .ref x2), (3, .ref x3), (4, .ref x4), (5, .ref x5), (6, .ref x6), (7, .int x7), (8, .int x8), (9, .ref x9), (10, .int x10), (11, .int x11), (13, .int x13)] [] S) (x0 : Nat) (x1 : Nat) (x2 : Nat) (x3 : Nat) (x4 : Nat) (x5 : Nat) (x6 : Nat) (x7 : Int32) (x8 : Int32) (x9 : Nat) (x10 : Int32) (x11 : Int32) (x13 : Int32) (cd dd : Nat) (S : cS) (h : k_L_find_209 post dp mc ms R36 R209 x0 x1 x2 x3 x4 x5 x6 x7 x8 x9 x10 x11 x13 cd dd S) : cG p l e (cRm 6 mc ms 149) s m args below meth c A D Y 21 (MQ below (cQv post D Y A) args s mc ms A) cd dd 209 [(0, .ref x0), (1, .ref x1), (2, .ref x2), (3, .ref x3), (4, .ref x4), (5, .ref x5), (6, .ref x6), (7, .int x7), (8, .int x8), (9, .ref x9), (10, .int x10), (11, .int x11), (13, .int x13)] [] S := by
  unfold k_L_find_209 at h
  refine cg_iload C 12 rfl dL_find_209 ?_
  refine cg_aload_n C (i := 2) rfl 2 rfl dL_find_211 ?_
  refine cg_iload C 11 rfl dL_find_212 ?_
  obtain ⟨hc_214, h⟩ := h
  refine cg_ialoadR C hc_214 dL_find_214 ?_
  refine cg_icmp_ge C 531 (by decide) dL_find_215 (fun c_ => ?_) (fun c_ => ?_)
  · have h := h.1 c_
    obtain ⟨x10_11, e_x10_11⟩ : ∃ z : Int32, z = x10 + nI 1 := ⟨_, rfl⟩
    have h := h x10_11 e_x10_11
    refine cg_iinc C (lv' := [(10, .int x10_11), (0, .ref x0), (1, .ref x1), (2, .ref x2), (3, .ref x3), (4, .ref x4), (5, .ref x5), (6, .ref x6), (7, .int x7), (8, .int x8), (9, .ref x9), (11, .int x11), (13, .int x13)]) 10 rfl (by rw [e_x10_11]; rfl) (Nat.le_of_ble_eq_true rfl) rfl dL_find_531 ?_
    refine cg_goto C 36 (by decide) dL_find_534 ?_
    exact cg_sub [1, 2, 3, 4, 5, 6, 7, 8, 9, 10, 0] rfl (hR36 x0 x1 x2 x3 x4 x5 x6 x7 x8 x9 x10_11 cd dd S h)
  · have h := h.2 c_
    refine cg_iload C 12 rfl dL_find_218 ?_
    refine cg_iconst C (x := nI 4) rfl dL_find_220 ?_
    refine cg_iadd C dL_find_221 ?_
    refine cg_aload_n C (i := 2) rfl 2 rfl dL_find_222 ?_
    refine cg_iload C 11 rfl dL_find_223 ?_
    obtain ⟨hc_225, h⟩ := h
    refine cg_ialoadR C hc_225 dL_find_225 ?_
    refine cg_icmp_ge C 236 (by decide) dL_find_226 (fun c_ => ?_) (fun c_ => ?_)
    · have h := h.1 c_
      refine cg_aload_n C (i := 2) rfl 2 rfl dL_find_236 ?_
      refine cg_iload C 11 rfl dL_find_237 ?_
      obtain ⟨hc_239, h⟩ := h
      refine cg_ialoadR C hc_239 dL_find_239 ?_
      exact cg_sub [0, 1, 2, 3, 4, 5, 6, 7, 8, 9, 10, 11, 12] rfl (tb_L_find_240 C  hR36 hR209 x0 x1 x2 x3 x4 x5 x6 x7 x8 x9 x10 x11 x13 ((cI S x2 (x11).toNatClampNeg)) cd dd S h)
    · have h := h.2 c_
      refine cg_iload C 12 rfl dL_find_229 ?_
      refine cg_iconst C (x := nI 4) rfl dL_find_231 ?_
      refine cg_iadd C dL_find_232 ?_
      refine cg_goto C 240 (by decide) dL_find_233 ?_
      exact cg_sub [0, 1, 2, 3, 4, 5, 6, 7, 8, 9, 10, 11, 12] rfl (tb_L_find_240 C  hR36 hR209 x0 x1 x2 x3 x4 x5 x6 x7 x8 x9 x10 x11 x13 ((x13 + ((nI 4)))) cd dd S h)
set_option maxRecDepth 20000 in
theorem tl_L_find_209 {mc ms : Nat} (C : cC p s m args meth c cL_find 21 none A D Y tp dp RL) {post : cS → Prop} {R36 : Nat → Nat → Nat → Nat → Nat → Nat → Nat → Int32 → Int32 → Nat → Int32 → Nat → Nat → cS → Prop} (hR36 : ∀ (x0 : Nat) (x1 : Nat) (x2 : Nat) (x3 : Nat) (x4 : Nat) (x5 : Nat) (x6 : Nat) (x7 : Int32) (x8 : Int32) (x9 : Nat) (x10 : Int32) (cd dd : Nat) (S : cS), R36 x0 x1 x2 x3 x4 x5 x6 x7 x8 x9 x10 cd dd S → cG p l e (cRm 6 mc ms 149) s m args below meth c A D Y 21 (MQ below (cQv post D Y A) args s mc ms A) cd dd 36 [(0, .ref x0), (1, .ref x1), (2, .ref x2), (3, .ref x3), (4, .ref x4), (5, .ref x5), (6, .ref x6), (7, .int x7), (8, .int x8), (9, .ref x9), (10, .int x10)] [] S) (x0 : Nat) (x1 : Nat) (x2 : Nat) (x3 : Nat) (x4 : Nat) (x5 : Nat) (x6 : Nat) (x7 : Int32) (x8 : Int32) (x9 : Nat) (x10 : Int32) (x11 : Int32) (x13 : Int32) (cd dd : Nat) (S : cS) (h : k_L_find_209L post dp mc ms R36 x0 x1 x2 x3 x4 x5 x6 x7 x8 x9 x10 x11 x13 cd dd S) : cG p l e (cRm 6 mc ms 149) s m args below meth c A D Y 21 (MQ below (cQv post D Y A) args s mc ms A) cd dd 209 [(0, .ref x0), (1, .ref x1), (2, .ref x2), (3, .ref x3), (4, .ref x4), (5, .ref x5), (6, .ref x6), (7, .int x7), (8, .int x8), (9, .ref x9), (10, .int x10), (11, .int x11), (13, .int x13)] [] S :=
  h (fun y => cG p l e (cRm 6 mc ms 149) s m args below meth c A D Y 21 (MQ below (cQv post D Y A) args s mc ms A) (y.2.2.2.2.2.2.2.2.2.2.2.2.2.1) (y.2.2.2.2.2.2.2.2.2.2.2.2.2.2.1) 209 [(0, .ref (y.1)), (1, .ref (y.2.1)), (2, .ref (y.2.2.1)), (3, .ref (y.2.2.2.1)), (4, .ref (y.2.2.2.2.1)), (5, .ref (y.2.2.2.2.2.1)), (6, .ref (y.2.2.2.2.2.2.1)), (7, .int (y.2.2.2.2.2.2.2.1)), (8, .int (y.2.2.2.2.2.2.2.2.1)), (9, .ref (y.2.2.2.2.2.2.2.2.2.1)), (10, .int (y.2.2.2.2.2.2.2.2.2.2.1)), (11, .int (y.2.2.2.2.2.2.2.2.2.2.2.1)), (13, .int (y.2.2.2.2.2.2.2.2.2.2.2.2.1))] [] (y.2.2.2.2.2.2.2.2.2.2.2.2.2.2.2)) (fun y hy => tb_L_find_209 C  hR36 (fun b0 b1 b2 b3 b4 b5 b6 b7 b8 b9 b10 b11 b12 b13 b14 S z => z) (y.1) (y.2.1) (y.2.2.1) (y.2.2.2.1) (y.2.2.2.2.1) (y.2.2.2.2.2.1) (y.2.2.2.2.2.2.1) (y.2.2.2.2.2.2.2.1) (y.2.2.2.2.2.2.2.2.1) (y.2.2.2.2.2.2.2.2.2.1) (y.2.2.2.2.2.2.2.2.2.2.1) (y.2.2.2.2.2.2.2.2.2.2.2.1) (y.2.2.2.2.2.2.2.2.2.2.2.2.1) (y.2.2.2.2.2.2.2.2.2.2.2.2.2.1) (y.2.2.2.2.2.2.2.2.2.2.2.2.2.2.1) (y.2.2.2.2.2.2.2.2.2.2.2.2.2.2.2) hy)
set_option maxRecDepth 20000 in
theorem tb_L_find_158 {mc ms : Nat} (C : cC p s m args meth c cL_find 21 none A D Y tp dp RL) {post : cS → Prop} {R36 : Nat → Nat → Nat → Nat → Nat → Nat → Nat → Int32 → Int32 → Nat → Int32 → Nat → Nat → cS → Prop} {R158 : Nat → Nat → Nat → Nat → Nat → Nat → Nat → Int32 → Int32 → Nat → Int32 → Int32 → Int32 → Nat → Nat → cS → Prop} (hR36 : ∀ (x0 : Nat) (x1 : Nat) (x2 : Nat) (x3 : Nat) (x4 : Nat) (x5 : Nat) (x6 : Nat) (x7 : Int32) (x8 : Int32) (x9 : Nat) (x10 : Int32) (cd dd : Nat) (S : cS), R36 x0 x1 x2 x3 x4 x5 x6 x7 x8 x9 x10 cd dd S → cG p l e (cRm 6 mc ms 149) s m args below meth c A D Y 21 (MQ below (cQv post D Y A) args s mc ms A) cd dd 36 [(0, .ref x0), (1, .ref x1), (2, .ref x2), (3, .ref x3), (4, .ref x4), (5, .ref x5), (6, .ref x6), (7, .int x7), (8, .int x8), (9, .ref x9), (10, .int x10)] [] S) (hR158 : ∀ (x0 : Nat) (x1 : Nat) (x2 : Nat) (x3 : Nat) (x4 : Nat) (x5 : Nat) (x6 : Nat) (x7 : Int32) (x8 : Int32) (x9 : Nat) (x10 : Int32) (x11 : Int32) (x12 : Int32) (cd dd : Nat) (S : cS), R158 x0 x1 x2 x3 x4 x5 x6 x7 x8 x9 x10 x11 x12 cd dd S → cG p l e (cRm 6 mc ms 149) s m args below meth c A D Y 21 (MQ below (cQv post D Y A) args s mc ms A) cd dd 158 [(0, .ref x0), (1, .ref x1), (2, .ref x2), (3, .ref x3), (4, .ref x4), (5, .ref x5), (6, .ref x6), (7, .int x7), (8, .int x8), (9, .ref x9), (10, .int x10), (11, .int x11), (12, .int x12)] [] S) (x0 : Nat) (x1 : Nat) (x2 : Nat) (x3 : Nat) (x4 : Nat) (x5 : Nat) (x6 : Nat) (x7 : Int32) (x8 : Int32) (x9 : Nat) (x10 : Int32) (x11 : Int32) (x12 : Int32) (cd dd : Nat) (S : cS) (h : k_L_find_158 post dp mc ms R36 R158 x0 x1 x2 x3 x4 x5 x6 x7 x8 x9 x10 x11 x12 cd dd S) : cG p l e (cRm 6 mc ms 149) s m args below meth c A D Y 21 (MQ below (cQv post D Y A) args s mc ms A) cd dd 158 [(0, .ref x0), (1, .ref x1), (2, .ref x2), (3, .ref x3), (4, .ref x4), (5, .ref x5), (6, .ref x6), (7, .int x7), (8, .int x8), (9, .ref x9), (10, .int x10), (11, .int x11), (12, .int x12)] [] S := by
  unfold k_L_find_158 at h
  refine cg_iload C 12 rfl dL_find_158 ?_
  refine cg_iconst C (x := nI 1) rfl dL_find_160 ?_
  refine cg_iadd C dL_find_161 ?_
  refine cg_aload C 6 rfl dL_find_162 ?_
  refine cg_bipush C (x := nI 13) rfl dL_find_164 ?_
  obtain ⟨hc_166, h⟩ := h
  refine cg_ialoadR C hc_166 dL_find_166 ?_
  refine cg_icmp_ge C 188 (by decide) dL_find_167 (fun c_ => ?_) (fun c_ => ?_)
  · have h := h.1 c_
    refine cg_aload C 4 rfl dL_find_188 ?_
    refine cg_aload C 6 rfl dL_find_190 ?_
    refine cg_bipush C (x := nI 13) rfl dL_find_192 ?_
    obtain ⟨hc_194, h⟩ := h
    refine cg_ialoadR C hc_194 dL_find_194 ?_
    refine cg_iconst C (x := nI 1) rfl dL_find_195 ?_
    refine cg_isub C dL_find_196 ?_
    refine cg_bipush C (x := nI 64) rfl dL_find_197 ?_
    refine cg_iload C 7 rfl dL_find_199 ?_
    refine cg_imul C dL_find_201 ?_
    refine cg_iload C 11 rfl dL_find_202 ?_
    refine cg_iadd C dL_find_204 ?_
    obtain ⟨hc_205, h⟩ := h
    refine cg_iastoreR C hc_205 dL_find_205 ?_
    refine cg_nm (fun S10 e_S10 => ?_)
    have h := h S10 e_S10
    refine cg_iconst C (x := nI 0) rfl dL_find_206 ?_
    refine cg_istore C (lv' := [(13, .int ((nI 0))), (0, .ref x0), (1, .ref x1), (2, .ref x2), (3, .ref x3), (4, .ref x4), (5, .ref x5), (6, .ref x6), (7, .int x7), (8, .int x8), (9, .ref x9), (10, .int x10), (11, .int x11), (12, .int x12)]) (Nat.le_of_ble_eq_true rfl) rfl dL_find_207 ?_
    exact cg_sub [1, 2, 3, 4, 5, 6, 7, 8, 9, 10, 11, 12, 0] rfl (tl_L_find_209 C  hR36 x0 x1 x2 x3 x4 x5 x6 x7 x8 x9 x10 x11 (((nI 0))) cd dd S10 h)
  · have h := h.2 c_
    refine cg_aload C 4 rfl dL_find_170 ?_
    refine cg_iload C 12 rfl dL_find_172 ?_
    refine cg_aload C 4 rfl dL_find_174 ?_
    refine cg_iload C 12 rfl dL_find_176 ?_
    refine cg_iconst C (x := nI 1) rfl dL_find_178 ?_
    refine cg_iadd C dL_find_179 ?_
    obtain ⟨hc_180, h⟩ := h
    refine cg_ialoadR C hc_180 dL_find_180 ?_
    obtain ⟨hc_181, h⟩ := h
    refine cg_iastoreR C hc_181 dL_find_181 ?_
    refine cg_nm (fun S25 e_S25 => ?_)
    have h := h S25 e_S25
    obtain ⟨x12_26, e_x12_26⟩ : ∃ z : Int32, z = x12 + nI 1 := ⟨_, rfl⟩
    have h := h x12_26 e_x12_26
    refine cg_iinc C (lv' := [(12, .int x12_26), (0, .ref x0), (1, .ref x1), (2, .ref x2), (3, .ref x3), (4, .ref x4), (5, .ref x5), (6, .ref x6), (7, .int x7), (8, .int x8), (9, .ref x9), (10, .int x10), (11, .int x11)]) 12 rfl (by rw [e_x12_26]; rfl) (Nat.le_of_ble_eq_true rfl) rfl dL_find_182 ?_
    refine cg_goto C 158 (by decide) dL_find_185 ?_
    exact cg_sub [1, 2, 3, 4, 5, 6, 7, 8, 9, 10, 11, 12, 0] rfl (hR158 x0 x1 x2 x3 x4 x5 x6 x7 x8 x9 x10 x11 x12_26 cd dd S25 h)
set_option maxRecDepth 20000 in
theorem tl_L_find_158 {mc ms : Nat} (C : cC p s m args meth c cL_find 21 none A D Y tp dp RL) {post : cS → Prop} {R36 : Nat → Nat → Nat → Nat → Nat → Nat → Nat → Int32 → Int32 → Nat → Int32 → Nat → Nat → cS → Prop} (hR36 : ∀ (x0 : Nat) (x1 : Nat) (x2 : Nat) (x3 : Nat) (x4 : Nat) (x5 : Nat) (x6 : Nat) (x7 : Int32) (x8 : Int32) (x9 : Nat) (x10 : Int32) (cd dd : Nat) (S : cS), R36 x0 x1 x2 x3 x4 x5 x6 x7 x8 x9 x10 cd dd S → cG p l e (cRm 6 mc ms 149) s m args below meth c A D Y 21 (MQ below (cQv post D Y A) args s mc ms A) cd dd 36 [(0, .ref x0), (1, .ref x1), (2, .ref x2), (3, .ref x3), (4, .ref x4), (5, .ref x5), (6, .ref x6), (7, .int x7), (8, .int x8), (9, .ref x9), (10, .int x10)] [] S) (x0 : Nat) (x1 : Nat) (x2 : Nat) (x3 : Nat) (x4 : Nat) (x5 : Nat) (x6 : Nat) (x7 : Int32) (x8 : Int32) (x9 : Nat) (x10 : Int32) (x11 : Int32) (x12 : Int32) (cd dd : Nat) (S : cS) (h : k_L_find_158L post dp mc ms R36 x0 x1 x2 x3 x4 x5 x6 x7 x8 x9 x10 x11 x12 cd dd S) : cG p l e (cRm 6 mc ms 149) s m args below meth c A D Y 21 (MQ below (cQv post D Y A) args s mc ms A) cd dd 158 [(0, .ref x0), (1, .ref x1), (2, .ref x2), (3, .ref x3), (4, .ref x4), (5, .ref x5), (6, .ref x6), (7, .int x7), (8, .int x8), (9, .ref x9), (10, .int x10), (11, .int x11), (12, .int x12)] [] S :=
  h (fun y => cG p l e (cRm 6 mc ms 149) s m args below meth c A D Y 21 (MQ below (cQv post D Y A) args s mc ms A) (y.2.2.2.2.2.2.2.2.2.2.2.2.2.1) (y.2.2.2.2.2.2.2.2.2.2.2.2.2.2.1) 158 [(0, .ref (y.1)), (1, .ref (y.2.1)), (2, .ref (y.2.2.1)), (3, .ref (y.2.2.2.1)), (4, .ref (y.2.2.2.2.1)), (5, .ref (y.2.2.2.2.2.1)), (6, .ref (y.2.2.2.2.2.2.1)), (7, .int (y.2.2.2.2.2.2.2.1)), (8, .int (y.2.2.2.2.2.2.2.2.1)), (9, .ref (y.2.2.2.2.2.2.2.2.2.1)), (10, .int (y.2.2.2.2.2.2.2.2.2.2.1)), (11, .int (y.2.2.2.2.2.2.2.2.2.2.2.1)), (12, .int (y.2.2.2.2.2.2.2.2.2.2.2.2.1))] [] (y.2.2.2.2.2.2.2.2.2.2.2.2.2.2.2)) (fun y hy => tb_L_find_158 C  hR36 (fun b0 b1 b2 b3 b4 b5 b6 b7 b8 b9 b10 b11 b12 b13 b14 S z => z) (y.1) (y.2.1) (y.2.2.1) (y.2.2.2.1) (y.2.2.2.2.1) (y.2.2.2.2.2.1) (y.2.2.2.2.2.2.1) (y.2.2.2.2.2.2.2.1) (y.2.2.2.2.2.2.2.2.1) (y.2.2.2.2.2.2.2.2.2.1) (y.2.2.2.2.2.2.2.2.2.2.1) (y.2.2.2.2.2.2.2.2.2.2.2.1) (y.2.2.2.2.2.2.2.2.2.2.2.2.1) (y.2.2.2.2.2.2.2.2.2.2.2.2.2.1) (y.2.2.2.2.2.2.2.2.2.2.2.2.2.2.1) (y.2.2.2.2.2.2.2.2.2.2.2.2.2.2.2) hy)
set_option maxRecDepth 20000 in
theorem tb_L_find_156 {mc ms : Nat} (C : cC p s m args meth c cL_find 21 none A D Y tp dp RL) {post : cS → Prop} {R36 : Nat → Nat → Nat → Nat → Nat → Nat → Nat → Int32 → Int32 → Nat → Int32 → Nat → Nat → cS → Prop} (hR36 : ∀ (x0 : Nat) (x1 : Nat) (x2 : Nat) (x3 : Nat) (x4 : Nat) (x5 : Nat) (x6 : Nat) (x7 : Int32) (x8 : Int32) (x9 : Nat) (x10 : Int32) (cd dd : Nat) (S : cS), R36 x0 x1 x2 x3 x4 x5 x6 x7 x8 x9 x10 cd dd S → cG p l e (cRm 6 mc ms 149) s m args below meth c A D Y 21 (MQ below (cQv post D Y A) args s mc ms A) cd dd 36 [(0, .ref x0), (1, .ref x1), (2, .ref x2), (3, .ref x3), (4, .ref x4), (5, .ref x5), (6, .ref x6), (7, .int x7), (8, .int x8), (9, .ref x9), (10, .int x10)] [] S) (x0 : Nat) (x1 : Nat) (x2 : Nat) (x3 : Nat) (x4 : Nat) (x5 : Nat) (x6 : Nat) (x7 : Int32) (x8 : Int32) (x9 : Nat) (x10 : Int32) (x11 : Int32) (t0 : Int32) (cd dd : Nat) (S : cS) (h : k_L_find_156 post dp mc ms R36 x0 x1 x2 x3 x4 x5 x6 x7 x8 x9 x10 x11 t0 cd dd S) : cG p l e (cRm 6 mc ms 149) s m args below meth c A D Y 21 (MQ below (cQv post D Y A) args s mc ms A) cd dd 156 [(0, .ref x0), (1, .ref x1), (2, .ref x2), (3, .ref x3), (4, .ref x4), (5, .ref x5), (6, .ref x6), (7, .int x7), (8, .int x8), (9, .ref x9), (10, .int x10), (11, .int x11)] [.int t0] S := by
  unfold k_L_find_156 at h
  refine cg_istore C (lv' := [(12, .int t0), (0, .ref x0), (1, .ref x1), (2, .ref x2), (3, .ref x3), (4, .ref x4), (5, .ref x5), (6, .ref x6), (7, .int x7), (8, .int x8), (9, .ref x9), (10, .int x10), (11, .int x11)]) (Nat.le_of_ble_eq_true rfl) rfl dL_find_156 ?_
  exact cg_sub [1, 2, 3, 4, 5, 6, 7, 8, 9, 10, 11, 12, 0] rfl (tl_L_find_158 C  hR36 x0 x1 x2 x3 x4 x5 x6 x7 x8 x9 x10 x11 t0 cd dd S h)
set_option maxRecDepth 20000 in
theorem tb_L_find_141 {mc ms : Nat} (C : cC p s m args meth c cL_find 21 none A D Y tp dp RL) {post : cS → Prop} {R36 : Nat → Nat → Nat → Nat → Nat → Nat → Nat → Int32 → Int32 → Nat → Int32 → Nat → Nat → cS → Prop} (hR36 : ∀ (x0 : Nat) (x1 : Nat) (x2 : Nat) (x3 : Nat) (x4 : Nat) (x5 : Nat) (x6 : Nat) (x7 : Int32) (x8 : Int32) (x9 : Nat) (x10 : Int32) (cd dd : Nat) (S : cS), R36 x0 x1 x2 x3 x4 x5 x6 x7 x8 x9 x10 cd dd S → cG p l e (cRm 6 mc ms 149) s m args below meth c A D Y 21 (MQ below (cQv post D Y A) args s mc ms A) cd dd 36 [(0, .ref x0), (1, .ref x1), (2, .ref x2), (3, .ref x3), (4, .ref x4), (5, .ref x5), (6, .ref x6), (7, .int x7), (8, .int x8), (9, .ref x9), (10, .int x10)] [] S) (x0 : Nat) (x1 : Nat) (x2 : Nat) (x3 : Nat) (x4 : Nat) (x5 : Nat) (x6 : Nat) (x7 : Int32) (x8 : Int32) (x9 : Nat) (x10 : Int32) (x11 : Int32) (x12 : Int32) (t0 : Int32) (t1 : Int32) (t2 : Int32) (t3 : Nat) (cd dd : Nat) (S : cS) (h : k_L_find_141 post dp mc ms R36 x0 x1 x2 x3 x4 x5 x6 x7 x8 x9 x10 x11 x12 t0 t1 t2 t3 cd dd S) : cG p l e (cRm 6 mc ms 149) s m args below meth c A D Y 21 (MQ below (cQv post D Y A) args s mc ms A) cd dd 141 [(0, .ref x0), (1, .ref x1), (2, .ref x2), (3, .ref x3), (4, .ref x4), (5, .ref x5), (6, .ref x6), (7, .int x7), (8, .int x8), (9, .ref x9), (10, .int x10), (11, .int x11), (12, .int x12)] [.int t0, .int t1, .int t2, .ref t3] S := by
  unfold k_L_find_141 at h
  refine cg_iadd C dL_find_141 ?_
  obtain ⟨hc_142, h⟩ := h
  refine cg_iastoreR C hc_142 dL_find_142 ?_
  refine cg_nm (fun S27 e_S27 => ?_)
  have h := h S27 e_S27
  refine cg_iload C 12 rfl dL_find_143 ?_
  refine cg_bipush C (x := nI 8) rfl dL_find_145 ?_
  refine cg_icmp_ne C 154 (by decide) dL_find_147 (fun c_ => ?_) (fun c_ => ?_)
  · have h := h.1 c_
    refine cg_iload C 12 rfl dL_find_154 ?_
    exact cg_sub [0, 1, 2, 3, 4, 5, 6, 7, 8, 9, 10, 11] rfl (tb_L_find_156 C  hR36 x0 x1 x2 x3 x4 x5 x6 x7 x8 x9 x10 x11 x12 cd dd S27 h)
  · have h := h.2 c_
    refine cg_iconst C (x := nI 0) rfl dL_find_150 ?_
    refine cg_goto C 156 (by decide) dL_find_151 ?_
    exact cg_sub [0, 1, 2, 3, 4, 5, 6, 7, 8, 9, 10, 11] rfl (tb_L_find_156 C  hR36 x0 x1 x2 x3 x4 x5 x6 x7 x8 x9 x10 x11 ((nI 0)) cd dd S27 h)
set_option maxRecDepth 20000 in
theorem tb_L_find_108 {mc ms : Nat} (C : cC p s m args meth c cL_find 21 none A D Y tp dp RL) {post : cS → Prop} {R36 : Nat → Nat → Nat → Nat → Nat → Nat → Nat → Int32 → Int32 → Nat → Int32 → Nat → Nat → cS → Prop} (hR36 : ∀ (x0 : Nat) (x1 : Nat) (x2 : Nat) (x3 : Nat) (x4 : Nat) (x5 : Nat) (x6 : Nat) (x7 : Int32) (x8 : Int32) (x9 : Nat) (x10 : Int32) (cd dd : Nat) (S : cS), R36 x0 x1 x2 x3 x4 x5 x6 x7 x8 x9 x10 cd dd S → cG p l e (cRm 6 mc ms 149) s m args below meth c A D Y 21 (MQ below (cQv post D Y A) args s mc ms A) cd dd 36 [(0, .ref x0), (1, .ref x1), (2, .ref x2), (3, .ref x3), (4, .ref x4), (5, .ref x5), (6, .ref x6), (7, .int x7), (8, .int x8), (9, .ref x9), (10, .int x10)] [] S) (x0 : Nat) (x1 : Nat) (x2 : Nat) (x3 : Nat) (x4 : Nat) (x5 : Nat) (x6 : Nat) (x7 : Int32) (x8 : Int32) (x9 : Nat) (x10 : Int32) (x11 : Int32) (x12 : Int32) (t0 : Int32) (t1 : Int32) (t2 : Int32) (t3 : Nat) (cd dd : Nat) (S : cS) (h : k_L_find_108 post dp mc ms R36 x0 x1 x2 x3 x4 x5 x6 x7 x8 x9 x10 x11 x12 t0 t1 t2 t3 cd dd S) : cG p l e (cRm 6 mc ms 149) s m args below meth c A D Y 21 (MQ below (cQv post D Y A) args s mc ms A) cd dd 108 [(0, .ref x0), (1, .ref x1), (2, .ref x2), (3, .ref x3), (4, .ref x4), (5, .ref x5), (6, .ref x6), (7, .int x7), (8, .int x8), (9, .ref x9), (10, .int x10), (11, .int x11), (12, .int x12)] [.int t0, .int t1, .int t2, .ref t3] S := by
  unfold k_L_find_108 at h
  refine cg_iadd C dL_find_108 ?_
  obtain ⟨hc_109, h⟩ := h
  refine cg_iastoreR C hc_109 dL_find_109 ?_
  refine cg_nm (fun S9 e_S9 => ?_)
  have h := h S9 e_S9
  refine cg_iload C 12 rfl dL_find_110 ?_
  refine cg_aload C 6 rfl dL_find_112 ?_
  refine cg_bipush C (x := nI 13) rfl dL_find_114 ?_
  obtain ⟨hc_116, h⟩ := h
  refine cg_ialoadR C hc_116 dL_find_116 ?_
  refine cg_icmp_ne C 158 (by decide) dL_find_117 (fun c_ => ?_) (fun c_ => ?_)
  · have h := h.1 c_
    exact cg_sub [0, 1, 2, 3, 4, 5, 6, 7, 8, 9, 10, 11, 12] rfl (tl_L_find_158 C  hR36 x0 x1 x2 x3 x4 x5 x6 x7 x8 x9 x10 x11 x12 cd dd S9 h)
  · have h := h.2 c_
    refine cg_aload C 6 rfl dL_find_120 ?_
    refine cg_bipush C (x := nI 13) rfl dL_find_122 ?_
    refine cg_dup2 C rfl rfl dL_find_124 ?_
    obtain ⟨hc_125, h⟩ := h
    refine cg_ialoadR C hc_125 dL_find_125 ?_
    refine cg_aload C 6 rfl dL_find_126 ?_
    refine cg_bipush C (x := nI 13) rfl dL_find_128 ?_
    obtain ⟨hc_130, h⟩ := h
    refine cg_ialoadR C hc_130 dL_find_130 ?_
    refine cg_bipush C (x := nI 8) rfl dL_find_131 ?_
    refine cg_icmp_ge C 140 (by decide) dL_find_133 (fun c_ => ?_) (fun c_ => ?_)
    · have h := h.1 c_
      refine cg_iconst C (x := nI 0) rfl dL_find_140 ?_
      exact cg_sub [0, 1, 2, 3, 4, 5, 6, 7, 8, 9, 10, 11, 12] rfl (tb_L_find_141 C  hR36 x0 x1 x2 x3 x4 x5 x6 x7 x8 x9 x10 x11 x12 ((nI 0)) ((cI S9 x6 ((nI 13)).toNatClampNeg)) ((nI 13)) x6 cd dd S9 h)
    · have h := h.2 c_
      refine cg_iconst C (x := nI 1) rfl dL_find_136 ?_
      refine cg_goto C 141 (by decide) dL_find_137 ?_
      exact cg_sub [0, 1, 2, 3, 4, 5, 6, 7, 8, 9, 10, 11, 12] rfl (tb_L_find_141 C  hR36 x0 x1 x2 x3 x4 x5 x6 x7 x8 x9 x10 x11 x12 ((nI 1)) ((cI S9 x6 ((nI 13)).toNatClampNeg)) ((nI 13)) x6 cd dd S9 h)
set_option maxRecDepth 20000 in
theorem tb_L_find_87 {mc ms : Nat} (C : cC p s m args meth c cL_find 21 none A D Y tp dp RL) {post : cS → Prop} {R36 : Nat → Nat → Nat → Nat → Nat → Nat → Nat → Int32 → Int32 → Nat → Int32 → Nat → Nat → cS → Prop} (hR36 : ∀ (x0 : Nat) (x1 : Nat) (x2 : Nat) (x3 : Nat) (x4 : Nat) (x5 : Nat) (x6 : Nat) (x7 : Int32) (x8 : Int32) (x9 : Nat) (x10 : Int32) (cd dd : Nat) (S : cS), R36 x0 x1 x2 x3 x4 x5 x6 x7 x8 x9 x10 cd dd S → cG p l e (cRm 6 mc ms 149) s m args below meth c A D Y 21 (MQ below (cQv post D Y A) args s mc ms A) cd dd 36 [(0, .ref x0), (1, .ref x1), (2, .ref x2), (3, .ref x3), (4, .ref x4), (5, .ref x5), (6, .ref x6), (7, .int x7), (8, .int x8), (9, .ref x9), (10, .int x10)] [] S) (x0 : Nat) (x1 : Nat) (x2 : Nat) (x3 : Nat) (x4 : Nat) (x5 : Nat) (x6 : Nat) (x7 : Int32) (x8 : Int32) (x9 : Nat) (x10 : Int32) (x11 : Int32) (x12 : Int32) (cd dd : Nat) (S : cS) (h : k_L_find_87 post dp mc ms R36 x0 x1 x2 x3 x4 x5 x6 x7 x8 x9 x10 x11 x12 cd dd S) : cG p l e (cRm 6 mc ms 149) s m args below meth c A D Y 21 (MQ below (cQv post D Y A) args s mc ms A) cd dd 87 [(0, .ref x0), (1, .ref x1), (2, .ref x2), (3, .ref x3), (4, .ref x4), (5, .ref x5), (6, .ref x6), (7, .int x7), (8, .int x8), (9, .ref x9), (10, .int x10), (11, .int x11), (12, .int x12)] [] S := by
  unfold k_L_find_87 at h
  refine cg_aload C 6 rfl dL_find_87 ?_
  refine cg_bipush C (x := nI 16) rfl dL_find_89 ?_
  refine cg_dup2 C rfl rfl dL_find_91 ?_
  obtain ⟨hc_92, h⟩ := h
  refine cg_ialoadR C hc_92 dL_find_92 ?_
  refine cg_iload C 12 rfl dL_find_93 ?_
  refine cg_aload C 6 rfl dL_find_95 ?_
  refine cg_bipush C (x := nI 13) rfl dL_find_97 ?_
  obtain ⟨hc_99, h⟩ := h
  refine cg_ialoadR C hc_99 dL_find_99 ?_
  refine cg_icmp_ge C 107 (by decide) dL_find_100 (fun c_ => ?_) (fun c_ => ?_)
  · have h := h.1 c_
    refine cg_iconst C (x := nI 0) rfl dL_find_107 ?_
    exact cg_sub [0, 1, 2, 3, 4, 5, 6, 7, 8, 9, 10, 11, 12] rfl (tb_L_find_108 C  hR36 x0 x1 x2 x3 x4 x5 x6 x7 x8 x9 x10 x11 x12 ((nI 0)) ((cI S x6 ((nI 16)).toNatClampNeg)) ((nI 16)) x6 cd dd S h)
  · have h := h.2 c_
    refine cg_iconst C (x := nI 1) rfl dL_find_103 ?_
    refine cg_goto C 108 (by decide) dL_find_104 ?_
    exact cg_sub [0, 1, 2, 3, 4, 5, 6, 7, 8, 9, 10, 11, 12] rfl (tb_L_find_108 C  hR36 x0 x1 x2 x3 x4 x5 x6 x7 x8 x9 x10 x11 x12 ((nI 1)) ((cI S x6 ((nI 16)).toNatClampNeg)) ((nI 16)) x6 cd dd S h)
set_option maxRecDepth 20000 in
theorem tb_L_find_55 {mc ms : Nat} (C : cC p s m args meth c cL_find 21 none A D Y tp dp RL) {post : cS → Prop} {R36 : Nat → Nat → Nat → Nat → Nat → Nat → Nat → Int32 → Int32 → Nat → Int32 → Nat → Nat → cS → Prop} {R55 : Nat → Nat → Nat → Nat → Nat → Nat → Nat → Int32 → Int32 → Nat → Int32 → Int32 → Int32 → Nat → Nat → cS → Prop} (hR36 : ∀ (x0 : Nat) (x1 : Nat) (x2 : Nat) (x3 : Nat) (x4 : Nat) (x5 : Nat) (x6 : Nat) (x7 : Int32) (x8 : Int32) (x9 : Nat) (x10 : Int32) (cd dd : Nat) (S : cS), R36 x0 x1 x2 x3 x4 x5 x6 x7 x8 x9 x10 cd dd S → cG p l e (cRm 6 mc ms 149) s m args below meth c A D Y 21 (MQ below (cQv post D Y A) args s mc ms A) cd dd 36 [(0, .ref x0), (1, .ref x1), (2, .ref x2), (3, .ref x3), (4, .ref x4), (5, .ref x5), (6, .ref x6), (7, .int x7), (8, .int x8), (9, .ref x9), (10, .int x10)] [] S) (hR55 : ∀ (x0 : Nat) (x1 : Nat) (x2 : Nat) (x3 : Nat) (x4 : Nat) (x5 : Nat) (x6 : Nat) (x7 : Int32) (x8 : Int32) (x9 : Nat) (x10 : Int32) (x11 : Int32) (x12 : Int32) (cd dd : Nat) (S : cS), R55 x0 x1 x2 x3 x4 x5 x6 x7 x8 x9 x10 x11 x12 cd dd S → cG p l e (cRm 6 mc ms 149) s m args below meth c A D Y 21 (MQ below (cQv post D Y A) args s mc ms A) cd dd 55 [(0, .ref x0), (1, .ref x1), (2, .ref x2), (3, .ref x3), (4, .ref x4), (5, .ref x5), (6, .ref x6), (7, .int x7), (8, .int x8), (9, .ref x9), (10, .int x10), (11, .int x11), (12, .int x12)] [] S) (x0 : Nat) (x1 : Nat) (x2 : Nat) (x3 : Nat) (x4 : Nat) (x5 : Nat) (x6 : Nat) (x7 : Int32) (x8 : Int32) (x9 : Nat) (x10 : Int32) (x11 : Int32) (x12 : Int32) (cd dd : Nat) (S : cS) (h : k_L_find_55 post dp mc ms R36 R55 x0 x1 x2 x3 x4 x5 x6 x7 x8 x9 x10 x11 x12 cd dd S) : cG p l e (cRm 6 mc ms 149) s m args below meth c A D Y 21 (MQ below (cQv post D Y A) args s mc ms A) cd dd 55 [(0, .ref x0), (1, .ref x1), (2, .ref x2), (3, .ref x3), (4, .ref x4), (5, .ref x5), (6, .ref x6), (7, .int x7), (8, .int x8), (9, .ref x9), (10, .int x10), (11, .int x11), (12, .int x12)] [] S := by
  unfold k_L_find_55 at h
  refine cg_iload C 12 rfl dL_find_55 ?_
  refine cg_aload C 6 rfl dL_find_57 ?_
  refine cg_bipush C (x := nI 13) rfl dL_find_59 ?_
  obtain ⟨hc_61, h⟩ := h
  refine cg_ialoadR C hc_61 dL_find_61 ?_
  refine cg_icmp_ge C 87 (by decide) dL_find_62 (fun c_ => ?_) (fun c_ => ?_)
  · have h := h.1 c_
    exact cg_sub [0, 1, 2, 3, 4, 5, 6, 7, 8, 9, 10, 11, 12] rfl (tb_L_find_87 C  hR36 x0 x1 x2 x3 x4 x5 x6 x7 x8 x9 x10 x11 x12 cd dd S h)
  · have h := h.2 c_
    refine cg_aload C 4 rfl dL_find_65 ?_
    refine cg_iload C 12 rfl dL_find_67 ?_
    obtain ⟨hc_69, h⟩ := h
    refine cg_ialoadR C hc_69 dL_find_69 ?_
    refine cg_bipush C (x := nI 64) rfl dL_find_70 ?_
    refine cg_iload C 7 rfl dL_find_72 ?_
    refine cg_imul C dL_find_74 ?_
    refine cg_iload C 11 rfl dL_find_75 ?_
    refine cg_iadd C dL_find_77 ?_
    refine cg_icmp_eq C 87 (by decide) dL_find_78 (fun c_ => ?_) (fun c_ => ?_)
    · have h := h.1 c_
      exact cg_sub [0, 1, 2, 3, 4, 5, 6, 7, 8, 9, 10, 11, 12] rfl (tb_L_find_87 C  hR36 x0 x1 x2 x3 x4 x5 x6 x7 x8 x9 x10 x11 x12 cd dd S h)
    · have h := h.2 c_
      obtain ⟨x12_28, e_x12_28⟩ : ∃ z : Int32, z = x12 + nI 1 := ⟨_, rfl⟩
      have h := h x12_28 e_x12_28
      refine cg_iinc C (lv' := [(12, .int x12_28), (0, .ref x0), (1, .ref x1), (2, .ref x2), (3, .ref x3), (4, .ref x4), (5, .ref x5), (6, .ref x6), (7, .int x7), (8, .int x8), (9, .ref x9), (10, .int x10), (11, .int x11)]) 12 rfl (by rw [e_x12_28]; rfl) (Nat.le_of_ble_eq_true rfl) rfl dL_find_81 ?_
      refine cg_goto C 55 (by decide) dL_find_84 ?_
      exact cg_sub [1, 2, 3, 4, 5, 6, 7, 8, 9, 10, 11, 12, 0] rfl (hR55 x0 x1 x2 x3 x4 x5 x6 x7 x8 x9 x10 x11 x12_28 cd dd S h)
set_option maxRecDepth 20000 in
theorem tl_L_find_55 {mc ms : Nat} (C : cC p s m args meth c cL_find 21 none A D Y tp dp RL) {post : cS → Prop} {R36 : Nat → Nat → Nat → Nat → Nat → Nat → Nat → Int32 → Int32 → Nat → Int32 → Nat → Nat → cS → Prop} (hR36 : ∀ (x0 : Nat) (x1 : Nat) (x2 : Nat) (x3 : Nat) (x4 : Nat) (x5 : Nat) (x6 : Nat) (x7 : Int32) (x8 : Int32) (x9 : Nat) (x10 : Int32) (cd dd : Nat) (S : cS), R36 x0 x1 x2 x3 x4 x5 x6 x7 x8 x9 x10 cd dd S → cG p l e (cRm 6 mc ms 149) s m args below meth c A D Y 21 (MQ below (cQv post D Y A) args s mc ms A) cd dd 36 [(0, .ref x0), (1, .ref x1), (2, .ref x2), (3, .ref x3), (4, .ref x4), (5, .ref x5), (6, .ref x6), (7, .int x7), (8, .int x8), (9, .ref x9), (10, .int x10)] [] S) (x0 : Nat) (x1 : Nat) (x2 : Nat) (x3 : Nat) (x4 : Nat) (x5 : Nat) (x6 : Nat) (x7 : Int32) (x8 : Int32) (x9 : Nat) (x10 : Int32) (x11 : Int32) (x12 : Int32) (cd dd : Nat) (S : cS) (h : k_L_find_55L post dp mc ms R36 x0 x1 x2 x3 x4 x5 x6 x7 x8 x9 x10 x11 x12 cd dd S) : cG p l e (cRm 6 mc ms 149) s m args below meth c A D Y 21 (MQ below (cQv post D Y A) args s mc ms A) cd dd 55 [(0, .ref x0), (1, .ref x1), (2, .ref x2), (3, .ref x3), (4, .ref x4), (5, .ref x5), (6, .ref x6), (7, .int x7), (8, .int x8), (9, .ref x9), (10, .int x10), (11, .int x11), (12, .int x12)] [] S :=
  h (fun y => cG p l e (cRm 6 mc ms 149) s m args below meth c A D Y 21 (MQ below (cQv post D Y A) args s mc ms A) (y.2.2.2.2.2.2.2.2.2.2.2.2.2.1) (y.2.2.2.2.2.2.2.2.2.2.2.2.2.2.1) 55 [(0, .ref (y.1)), (1, .ref (y.2.1)), (2, .ref (y.2.2.1)), (3, .ref (y.2.2.2.1)), (4, .ref (y.2.2.2.2.1)), (5, .ref (y.2.2.2.2.2.1)), (6, .ref (y.2.2.2.2.2.2.1)), (7, .int (y.2.2.2.2.2.2.2.1)), (8, .int (y.2.2.2.2.2.2.2.2.1)), (9, .ref (y.2.2.2.2.2.2.2.2.2.1)), (10, .int (y.2.2.2.2.2.2.2.2.2.2.1)), (11, .int (y.2.2.2.2.2.2.2.2.2.2.2.1)), (12, .int (y.2.2.2.2.2.2.2.2.2.2.2.2.1))] [] (y.2.2.2.2.2.2.2.2.2.2.2.2.2.2.2)) (fun y hy => tb_L_find_55 C  hR36 (fun b0 b1 b2 b3 b4 b5 b6 b7 b8 b9 b10 b11 b12 b13 b14 S z => z) (y.1) (y.2.1) (y.2.2.1) (y.2.2.2.1) (y.2.2.2.2.1) (y.2.2.2.2.2.1) (y.2.2.2.2.2.2.1) (y.2.2.2.2.2.2.2.1) (y.2.2.2.2.2.2.2.2.1) (y.2.2.2.2.2.2.2.2.2.1) (y.2.2.2.2.2.2.2.2.2.2.1) (y.2.2.2.2.2.2.2.2.2.2.2.1) (y.2.2.2.2.2.2.2.2.2.2.2.2.1) (y.2.2.2.2.2.2.2.2.2.2.2.2.2.1) (y.2.2.2.2.2.2.2.2.2.2.2.2.2.2.1) (y.2.2.2.2.2.2.2.2.2.2.2.2.2.2.2) hy)
set_option maxRecDepth 20000 in
theorem tb_L_find_36 {mc ms : Nat} (C : cC p s m args meth c cL_find 21 none A D Y tp dp RL) {post : cS → Prop} {R36 : Nat → Nat → Nat → Nat → Nat → Nat → Nat → Int32 → Int32 → Nat → Int32 → Nat → Nat → cS → Prop} (hR36 : ∀ (x0 : Nat) (x1 : Nat) (x2 : Nat) (x3 : Nat) (x4 : Nat) (x5 : Nat) (x6 : Nat) (x7 : Int32) (x8 : Int32) (x9 : Nat) (x10 : Int32) (cd dd : Nat) (S : cS), R36 x0 x1 x2 x3 x4 x5 x6 x7 x8 x9 x10 cd dd S → cG p l e (cRm 6 mc ms 149) s m args below meth c A D Y 21 (MQ below (cQv post D Y A) args s mc ms A) cd dd 36 [(0, .ref x0), (1, .ref x1), (2, .ref x2), (3, .ref x3), (4, .ref x4), (5, .ref x5), (6, .ref x6), (7, .int x7), (8, .int x8), (9, .ref x9), (10, .int x10)] [] S) (x0 : Nat) (x1 : Nat) (x2 : Nat) (x3 : Nat) (x4 : Nat) (x5 : Nat) (x6 : Nat) (x7 : Int32) (x8 : Int32) (x9 : Nat) (x10 : Int32) (cd dd : Nat) (S : cS) (h : k_L_find_36 post dp mc ms R36 x0 x1 x2 x3 x4 x5 x6 x7 x8 x9 x10 cd dd S) : cG p l e (cRm 6 mc ms 149) s m args below meth c A D Y 21 (MQ below (cQv post D Y A) args s mc ms A) cd dd 36 [(0, .ref x0), (1, .ref x1), (2, .ref x2), (3, .ref x3), (4, .ref x4), (5, .ref x5), (6, .ref x6), (7, .int x7), (8, .int x8), (9, .ref x9), (10, .int x10)] [] S := by
  unfold k_L_find_36 at h
  refine cg_iload C 10 rfl dL_find_36 ?_
  refine cg_aload_n C (i := 3) rfl 3 rfl dL_find_38 ?_
  refine cg_iconst C (x := nI 1) rfl dL_find_39 ?_
  obtain ⟨hc_40, h⟩ := h
  refine cg_ialoadR C hc_40 dL_find_40 ?_
  refine cg_icmp_ge C 537 (by decide) dL_find_41 (fun c_ => ?_) (fun c_ => ?_)
  · have h := h.1 c_
    obtain ⟨hb_537, h⟩ := h
    exact cg_vret C h dL_find_537 hb_537.1 hb_537.2
  · have h := h.2 c_
    refine cg_aload_n C (i := 3) rfl 3 rfl dL_find_44 ?_
    refine cg_iconst C (x := nI 2) rfl dL_find_45 ?_
    refine cg_iload C 10 rfl dL_find_46 ?_
    refine cg_iadd C dL_find_48 ?_
    obtain ⟨hc_49, h⟩ := h
    refine cg_ialoadR C hc_49 dL_find_49 ?_
    refine cg_nmI (fun x11_8 e_x11_8 => ?_)
    have h := h x11_8 e_x11_8
    refine cg_istore C (lv' := [(11, .int x11_8), (0, .ref x0), (1, .ref x1), (2, .ref x2), (3, .ref x3), (4, .ref x4), (5, .ref x5), (6, .ref x6), (7, .int x7), (8, .int x8), (9, .ref x9), (10, .int x10)]) (Nat.le_of_ble_eq_true rfl) rfl dL_find_50 ?_
    refine cg_iconst C (x := nI 0) rfl dL_find_52 ?_
    refine cg_istore C (lv' := [(12, .int ((nI 0))), (11, .int x11_8), (0, .ref x0), (1, .ref x1), (2, .ref x2), (3, .ref x3), (4, .ref x4), (5, .ref x5), (6, .ref x6), (7, .int x7), (8, .int x8), (9, .ref x9), (10, .int x10)]) (Nat.le_of_ble_eq_true rfl) rfl dL_find_53 ?_
    exact cg_sub [2, 3, 4, 5, 6, 7, 8, 9, 10, 11, 12, 1, 0] rfl (tl_L_find_55 C  hR36 x0 x1 x2 x3 x4 x5 x6 x7 x8 x9 x10 x11_8 (((nI 0))) cd dd S h)
set_option maxRecDepth 20000 in
theorem tl_L_find_36 {mc ms : Nat} (C : cC p s m args meth c cL_find 21 none A D Y tp dp RL) {post : cS → Prop}   (x0 : Nat) (x1 : Nat) (x2 : Nat) (x3 : Nat) (x4 : Nat) (x5 : Nat) (x6 : Nat) (x7 : Int32) (x8 : Int32) (x9 : Nat) (x10 : Int32) (cd dd : Nat) (S : cS) (h : k_L_find_36L post dp mc ms  x0 x1 x2 x3 x4 x5 x6 x7 x8 x9 x10 cd dd S) : cG p l e (cRm 6 mc ms 149) s m args below meth c A D Y 21 (MQ below (cQv post D Y A) args s mc ms A) cd dd 36 [(0, .ref x0), (1, .ref x1), (2, .ref x2), (3, .ref x3), (4, .ref x4), (5, .ref x5), (6, .ref x6), (7, .int x7), (8, .int x8), (9, .ref x9), (10, .int x10)] [] S :=
  h (fun y => cG p l e (cRm 6 mc ms 149) s m args below meth c A D Y 21 (MQ below (cQv post D Y A) args s mc ms A) (y.2.2.2.2.2.2.2.2.2.2.2.1) (y.2.2.2.2.2.2.2.2.2.2.2.2.1) 36 [(0, .ref (y.1)), (1, .ref (y.2.1)), (2, .ref (y.2.2.1)), (3, .ref (y.2.2.2.1)), (4, .ref (y.2.2.2.2.1)), (5, .ref (y.2.2.2.2.2.1)), (6, .ref (y.2.2.2.2.2.2.1)), (7, .int (y.2.2.2.2.2.2.2.1)), (8, .int (y.2.2.2.2.2.2.2.2.1)), (9, .ref (y.2.2.2.2.2.2.2.2.2.1)), (10, .int (y.2.2.2.2.2.2.2.2.2.2.1))] [] (y.2.2.2.2.2.2.2.2.2.2.2.2.2)) (fun y hy => tb_L_find_36 C   (fun b0 b1 b2 b3 b4 b5 b6 b7 b8 b9 b10 b11 b12 S z => z) (y.1) (y.2.1) (y.2.2.1) (y.2.2.2.1) (y.2.2.2.2.1) (y.2.2.2.2.2.1) (y.2.2.2.2.2.2.1) (y.2.2.2.2.2.2.2.1) (y.2.2.2.2.2.2.2.2.1) (y.2.2.2.2.2.2.2.2.2.1) (y.2.2.2.2.2.2.2.2.2.2.1) (y.2.2.2.2.2.2.2.2.2.2.2.1) (y.2.2.2.2.2.2.2.2.2.2.2.2.1) (y.2.2.2.2.2.2.2.2.2.2.2.2.2) hy)
end S_L_find
set_option maxHeartbeats 1000000 in
set_option maxRecDepth 20000 in
theorem t_L_find (l : Launch) (mc ms : Nat) (x0 : Nat) (x1 : Nat) (x2 : Nat) (x3 : Nat) (x4 : Nat) (x5 : Nat) (x6 : Nat) (x7 : Int32) (x8 : Int32) (S : cS) (dp : Nat) {P : cS → Prop} (h : k_L_find P dp mc ms x0 x1 x2 x3 x4 x5 x6 x7 x8 S) : cMet (cQv P) l yL_find cL_find 21 none 6 mc ms 149 [.ref x0, .ref x1, .ref x2, .ref x3, .ref x4, .ref x5, .ref x6, .int x7, .int x8] S dp := by
  intro D Y tp sz
  refine cg_body (by decide +kernel) (Nat.le_of_ble_eq_true rfl) ?_
  intro p e s m args below meth c C
  generalize va_A (cWd Y S) sz = A at C ⊢
  have C : cC p s m args meth c cL_find 21 none A D Y tp dp RL := C
  refine cg_lv (lv' := [(0, .ref x0), (1, .ref x1), (2, .ref x2), (3, .ref x3), (4, .ref x4), (5, .ref x5), (6, .ref x6), (7, .int x7), (8, .int x8)]) rfl ?_
  unfold k_L_find at h
  refine cg_bipush C (x := nI 9) rfl dL_find_0 ?_
  obtain ⟨n1, hn_1, hn_2, hn_3, hn_4, h⟩ := h
  refine cg_cast (.int (nI n1)) (congrArg Value.int hn_1) ?_
  refine cg_newI C n1 hn_2 ca_int hn_3 hn_4 dL_find_2 (fun q2 hf_q2 => ?_)
  have h := h q2 hf_q2
  refine cg_nm (fun S3 e_S3 => ?_)
  have h := h S3 e_S3
  refine cg_astore (lv' := [(9, .ref q2), (0, .ref x0), (1, .ref x1), (2, .ref x2), (3, .ref x3), (4, .ref x4), (5, .ref x5), (6, .ref x6), (7, .int x7), (8, .int x8)]) C (Nat.le_of_ble_eq_true rfl) rfl dL_find_4 ?_
  refine cg_aload_n C (i := 0) rfl 1 rfl dL_find_6 ?_
  refine cg_aload_n C (i := 1) rfl 2 rfl dL_find_7 ?_
  refine cg_aload_n C (i := 2) rfl 3 rfl dL_find_8 ?_
  refine cg_aload_n C (i := 3) rfl 4 rfl dL_find_9 ?_
  refine cg_aload C 0 rfl dL_find_10 ?_
  obtain ⟨hb_12, h⟩ := h
  refine cg_callsv C (t_L_gains l x0 x1 x2 x3 q2 S3 dp h) cc_L_46 rfl ⟨by decide, by decide⟩ hb_12 rfl (Nat.le_of_ble_eq_true rfl) dL_find_12 (fun S_4 h => ?_)
  simp only [Nat.add_zero]
  refine cg_aload C 7 rfl dL_find_15 ?_
  refine cg_bipush C (x := nI 14) rfl dL_find_17 ?_
  refine cg_iconst C (x := nI 0) rfl dL_find_19 ?_
  obtain ⟨hc_20, h⟩ := h
  refine cg_iastoreR C hc_20 dL_find_20 ?_
  refine cg_nm (fun S5 e_S5 => ?_)
  have h := h S5 e_S5
  refine cg_aload C 7 rfl dL_find_21 ?_
  refine cg_bipush C (x := nI 15) rfl dL_find_23 ?_
  refine cg_iconst C (x := nI 0) rfl dL_find_25 ?_
  obtain ⟨hc_26, h⟩ := h
  refine cg_iastoreR C hc_26 dL_find_26 ?_
  refine cg_nm (fun S6 e_S6 => ?_)
  have h := h S6 e_S6
  refine cg_aload C 7 rfl dL_find_27 ?_
  refine cg_bipush C (x := nI 16) rfl dL_find_29 ?_
  refine cg_iconst C (x := nI 0) rfl dL_find_31 ?_
  obtain ⟨hc_32, h⟩ := h
  refine cg_iastoreR C hc_32 dL_find_32 ?_
  refine cg_nm (fun S7 e_S7 => ?_)
  have h := h S7 e_S7
  refine cg_iconst C (x := nI 0) rfl dL_find_33 ?_
  refine cg_istore C (lv' := [(10, .int ((nI 0))), (9, .ref q2), (0, .ref x0), (1, .ref x1), (2, .ref x2), (3, .ref x3), (4, .ref x4), (5, .ref x5), (6, .ref x6), (7, .int x7), (8, .int x8)]) (Nat.le_of_ble_eq_true rfl) rfl dL_find_34 ?_
  exact cg_sub [2, 3, 4, 5, 6, 7, 8, 9, 10, 1, 0] rfl (tl_L_find_36 C   x0 x1 x2 x3 x4 x5 x6 x7 x8 q2 (((nI 0))) (0 + 1) (0 + n1) S7 h)
