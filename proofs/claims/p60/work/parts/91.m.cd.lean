/-! the law's methods as predicates, and their contracts -/
section S_L_tokens
variable {p : Program} {l : Launch} {e : Env} {s : State} {m : MethodId} {args : Array Value} {below : List Frame} {meth : Method} {c : Code} {A : Nat → Prop} {D : va_G} {Y : cY} {tp dp : Nat}
set_option maxRecDepth 20000 in
theorem tb_L_tokens_48 (C : cC p s m args meth c cL_tokens 6 (some .int) A D Y tp dp RL) {post : Int32 → cS → Prop} {R5 : Int64 → Int32 → Int32 → Int32 → cS → Prop} (hR5 : ∀ (x0 : Int64) (x2 : Int32) (x3 : Int32) (x4 : Int32) (S : cS), R5 x0 x2 x3 x4 S → cG p l e (cRm 1 0 0 23) s m args below meth c A D Y 6 (MQ below (cQi post D Y A) args s 0 0 A) 0 0 5 [(0, .long x0), (2, .int x2), (3, .int x3), (4, .int x4)] [] S) (x0 : Int64) (x2 : Int32) (x4 : Int32) (t0 : Int32) (t1 : Int32) (S : cS) (h : k_L_tokens_48 post dp R5 x0 x2 x4 t0 t1 S) : cG p l e (cRm 1 0 0 23) s m args below meth c A D Y 6 (MQ below (cQi post D Y A) args s 0 0 A) 0 0 48 [(0, .long x0), (2, .int x2), (4, .int x4)] [.int t0, .int t1] S := by
  unfold k_L_tokens_48 at h
  refine cg_iadd C dL_tokens_48 ?_
  refine cg_nmI (fun x3_2 e_x3_2 => ?_)
  have h := h x3_2 e_x3_2
  refine cg_istore_n C (i := 3) (lv' := [(3, .int x3_2), (0, .long x0), (2, .int x2), (4, .int x4)]) rfl (Nat.le_of_ble_eq_true rfl) rfl dL_tokens_49 ?_
  obtain ⟨x4_3, e_x4_3⟩ : ∃ z : Int32, z = x4 + nI 1 := ⟨_, rfl⟩
  have h := h x4_3 e_x4_3
  refine cg_iinc C (lv' := [(4, .int x4_3), (3, .int x3_2), (0, .long x0), (2, .int x2)]) 3 rfl (by rw [e_x4_3]; rfl) (Nat.le_of_ble_eq_true rfl) rfl dL_tokens_50 ?_
  refine cg_goto C 5 (by decide) dL_tokens_53 ?_
  exact cg_sub [2, 3, 1, 0] rfl (hR5 x0 x2 x3_2 x4_3 S h)
set_option maxRecDepth 20000 in
theorem tb_L_tokens_5 (C : cC p s m args meth c cL_tokens 6 (some .int) A D Y tp dp RL) {post : Int32 → cS → Prop} {R5 : Int64 → Int32 → Int32 → Int32 → cS → Prop} (hR5 : ∀ (x0 : Int64) (x2 : Int32) (x3 : Int32) (x4 : Int32) (S : cS), R5 x0 x2 x3 x4 S → cG p l e (cRm 1 0 0 23) s m args below meth c A D Y 6 (MQ below (cQi post D Y A) args s 0 0 A) 0 0 5 [(0, .long x0), (2, .int x2), (3, .int x3), (4, .int x4)] [] S) (x0 : Int64) (x2 : Int32) (x3 : Int32) (x4 : Int32) (S : cS) (h : k_L_tokens_5 post dp R5 x0 x2 x3 x4 S) : cG p l e (cRm 1 0 0 23) s m args below meth c A D Y 6 (MQ below (cQi post D Y A) args s 0 0 A) 0 0 5 [(0, .long x0), (2, .int x2), (3, .int x3), (4, .int x4)] [] S := by
  unfold k_L_tokens_5 at h
  refine cg_iload C 3 rfl dL_tokens_5 ?_
  refine cg_iconst C (x := nI 5) rfl dL_tokens_7 ?_
  refine cg_icmp_ge C 56 (by decide) dL_tokens_8 (fun c_ => ?_) (fun c_ => ?_)
  · have h := h.1 c_
    refine cg_iload_n C (i := 3) rfl 2 rfl dL_tokens_56 ?_
    exact cg_iret C h dL_tokens_57 (by decide) (by decide)
  · have h := h.2 c_
    refine cg_lload_n C (i := 0) rfl 0 rfl dL_tokens_11 ?_
    refine cg_iload_n C (i := 2) rfl 1 rfl dL_tokens_12 ?_
    refine cg_iload C 3 rfl dL_tokens_13 ?_
    refine cg_callsi C (t_L_word l x0 x2 x4 S dp h) cc_L_11 rfl ⟨by decide, by decide⟩ ⟨by decide, by decide⟩ rfl (Nat.le_of_ble_eq_true rfl) dL_tokens_15 (fun r_1 S_1 h => ?_)
    refine cg_istore C (lv' := [(5, .int r_1), (0, .long x0), (2, .int x2), (3, .int x3), (4, .int x4)]) (Nat.le_of_ble_eq_true rfl) rfl dL_tokens_18 ?_
    refine cg_iload_n C (i := 3) rfl 3 rfl dL_tokens_20 ?_
    refine cg_iload C 0 rfl dL_tokens_21 ?_
    refine cg_if_eq C 33 (by decide) dL_tokens_23 (fun c_ => ?_) (fun c_ => ?_)
    · have h := h.1 c_
      refine cg_iconst C (x := nI 0) rfl dL_tokens_33 ?_
      refine cg_goto C 48 (by decide) dL_tokens_34 ?_
      exact cg_sub [1, 2, 4] rfl (tb_L_tokens_48 C  hR5 x0 x2 x4 ((nI 0)) x3 S_1 h)
    · have h := h.2 c_
      refine cg_iload C 0 rfl dL_tokens_26 ?_
      refine cg_bipush C (x := nI 7) rfl dL_tokens_28 ?_
      refine cg_icmp_ne C 37 (by decide) dL_tokens_30 (fun c_ => ?_) (fun c_ => ?_)
      · have h := h.1 c_
        refine cg_iload C 0 rfl dL_tokens_37 ?_
        refine cg_iconst C (x := nI 3) rfl dL_tokens_39 ?_
        refine cg_icmp_ge C 47 (by decide) dL_tokens_40 (fun c_ => ?_) (fun c_ => ?_)
        · have h := h.1 c_
          refine cg_iconst C (x := nI 1) rfl dL_tokens_47 ?_
          exact cg_sub [1, 2, 4] rfl (tb_L_tokens_48 C  hR5 x0 x2 x4 ((nI 1)) x3 S_1 h)
        · have h := h.2 c_
          refine cg_iconst C (x := nI 2) rfl dL_tokens_43 ?_
          refine cg_goto C 48 (by decide) dL_tokens_44 ?_
          exact cg_sub [1, 2, 4] rfl (tb_L_tokens_48 C  hR5 x0 x2 x4 ((nI 2)) x3 S_1 h)
      · have h := h.2 c_
        refine cg_iconst C (x := nI 0) rfl dL_tokens_33 ?_
        refine cg_goto C 48 (by decide) dL_tokens_34 ?_
        exact cg_sub [1, 2, 4] rfl (tb_L_tokens_48 C  hR5 x0 x2 x4 ((nI 0)) x3 S_1 h)
set_option maxRecDepth 20000 in
theorem tl_L_tokens_5 (C : cC p s m args meth c cL_tokens 6 (some .int) A D Y tp dp RL) {post : Int32 → cS → Prop}   (x0 : Int64) (x2 : Int32) (x3 : Int32) (x4 : Int32) (S : cS) (h : k_L_tokens_5L post dp  x0 x2 x3 x4 S) : cG p l e (cRm 1 0 0 23) s m args below meth c A D Y 6 (MQ below (cQi post D Y A) args s 0 0 A) 0 0 5 [(0, .long x0), (2, .int x2), (3, .int x3), (4, .int x4)] [] S :=
  h (fun y => cG p l e (cRm 1 0 0 23) s m args below meth c A D Y 6 (MQ below (cQi post D Y A) args s 0 0 A) 0 0 5 [(0, .long (y.1)), (2, .int (y.2.1)), (3, .int (y.2.2.1)), (4, .int (y.2.2.2.1))] [] (y.2.2.2.2)) (fun y hy => tb_L_tokens_5 C   (fun b0 b1 b2 b3 S z => z) (y.1) (y.2.1) (y.2.2.1) (y.2.2.2.1) (y.2.2.2.2) hy)
end S_L_tokens
set_option maxHeartbeats 1000000 in
set_option maxRecDepth 20000 in
theorem t_L_tokens (l : Launch) (x0 : Int64) (x2 : Int32) (S : cS) (dp : Nat) {P : Int32 → cS → Prop} (h : k_L_tokens P dp x0 x2 S) : cMet (cQi P) l yL_tokens cL_tokens 6 (some .int) 1 0 0 23 [.long x0, .int x2] S dp := by
  intro D Y tp sz
  refine cg_body (by decide +kernel) (Nat.le_of_ble_eq_true rfl) ?_
  intro p e s m args below meth c C
  generalize va_A (cWd Y S) sz = A at C ⊢
  have C : cC p s m args meth c cL_tokens 6 (some .int) A D Y tp dp RL := C
  refine cg_lv (lv' := [(0, .long x0), (2, .int x2)]) rfl ?_
  unfold k_L_tokens at h
  refine cg_iconst C (x := nI 0) rfl dL_tokens_0 ?_
  refine cg_istore_n C (i := 3) (lv' := [(3, .int ((nI 0))), (0, .long x0), (2, .int x2)]) rfl (Nat.le_of_ble_eq_true rfl) rfl dL_tokens_1 ?_
  refine cg_iconst C (x := nI 0) rfl dL_tokens_2 ?_
  refine cg_istore C (lv' := [(4, .int ((nI 0))), (3, .int ((nI 0))), (0, .long x0), (2, .int x2)]) (Nat.le_of_ble_eq_true rfl) rfl dL_tokens_3 ?_
  exact cg_sub [2, 3, 1, 0] rfl (tl_L_tokens_5 C   x0 x2 (((nI 0))) (((nI 0))) S h)
section S_L_isFound
variable {p : Program} {l : Launch} {e : Env} {s : State} {m : MethodId} {args : Array Value} {below : List Frame} {meth : Method} {c : Code} {A : Nat → Prop} {D : va_G} {Y : cY} {tp dp : Nat}
set_option maxRecDepth 20000 in
theorem tb_L_isFound_143 {mc ms : Nat} (C : cC p s m args meth c cL_isFound 13 (some .boolean) A D Y tp dp RL) {post : Int32 → cS → Prop} {R92 : Nat → Nat → Nat → Int32 → Int32 → Nat → Nat → cS → Prop} (hR92 : ∀ (x0 : Nat) (x6 : Nat) (x7 : Nat) (x11 : Int32) (x12 : Int32) (cd dd : Nat) (S : cS), R92 x0 x6 x7 x11 x12 cd dd S → cG p l e (cRm 9 mc ms 220) s m args below meth c A D Y 13 (MQ below (cQi post D Y A) args s mc ms A) cd dd 92 [(0, .ref x0), (6, .ref x6), (7, .ref x7), (11, .int x11), (12, .int x12)] [] S) (x0 : Nat) (x6 : Nat) (x7 : Nat) (x12 : Int32) (t0 : Int32) (cd dd : Nat) (S : cS) (h : k_L_isFound_143 post dp mc ms R92 x0 x6 x7 x12 t0 cd dd S) : cG p l e (cRm 9 mc ms 220) s m args below meth c A D Y 13 (MQ below (cQi post D Y A) args s mc ms A) cd dd 143 [(0, .ref x0), (6, .ref x6), (7, .ref x7), (12, .int x12)] [.int t0] S := by
  unfold k_L_isFound_143 at h
  refine cg_istore C (lv' := [(11, .int t0), (0, .ref x0), (6, .ref x6), (7, .ref x7), (12, .int x12)]) (Nat.le_of_ble_eq_true rfl) rfl dL_isFound_143 ?_
  obtain ⟨x12_8, e_x12_8⟩ : ∃ z : Int32, z = x12 + nI 1 := ⟨_, rfl⟩
  have h := h x12_8 e_x12_8
  refine cg_iinc C (lv' := [(12, .int x12_8), (11, .int t0), (0, .ref x0), (6, .ref x6), (7, .ref x7)]) 4 rfl (by rw [e_x12_8]; rfl) (Nat.le_of_ble_eq_true rfl) rfl dL_isFound_145 ?_
  refine cg_goto C 92 (by decide) dL_isFound_148 ?_
  exact cg_sub [2, 3, 4, 1, 0] rfl (hR92 x0 x6 x7 t0 x12_8 cd dd S h)
set_option maxRecDepth 20000 in
theorem tb_L_isFound_142 {mc ms : Nat} (C : cC p s m args meth c cL_isFound 13 (some .boolean) A D Y tp dp RL) {post : Int32 → cS → Prop} {R92 : Nat → Nat → Nat → Int32 → Int32 → Nat → Nat → cS → Prop} (hR92 : ∀ (x0 : Nat) (x6 : Nat) (x7 : Nat) (x11 : Int32) (x12 : Int32) (cd dd : Nat) (S : cS), R92 x0 x6 x7 x11 x12 cd dd S → cG p l e (cRm 9 mc ms 220) s m args below meth c A D Y 13 (MQ below (cQi post D Y A) args s mc ms A) cd dd 92 [(0, .ref x0), (6, .ref x6), (7, .ref x7), (11, .int x11), (12, .int x12)] [] S) (x0 : Nat) (x6 : Nat) (x7 : Nat) (x12 : Int32) (cd dd : Nat) (S : cS) (h : k_L_isFound_142 post dp mc ms R92 x0 x6 x7 x12 cd dd S) : cG p l e (cRm 9 mc ms 220) s m args below meth c A D Y 13 (MQ below (cQi post D Y A) args s mc ms A) cd dd 142 [(0, .ref x0), (6, .ref x6), (7, .ref x7), (12, .int x12)] [] S := by
  unfold k_L_isFound_142 at h
  refine cg_iconst C (x := nI 0) rfl dL_isFound_142 ?_
  exact cg_sub [0, 1, 2, 3] rfl (tb_L_isFound_143 C  hR92 x0 x6 x7 x12 ((nI 0)) cd dd S h)
set_option maxRecDepth 20000 in
theorem tb_L_isFound_92 {mc ms : Nat} (C : cC p s m args meth c cL_isFound 13 (some .boolean) A D Y tp dp RL) {post : Int32 → cS → Prop} {R92 : Nat → Nat → Nat → Int32 → Int32 → Nat → Nat → cS → Prop} (hR92 : ∀ (x0 : Nat) (x6 : Nat) (x7 : Nat) (x11 : Int32) (x12 : Int32) (cd dd : Nat) (S : cS), R92 x0 x6 x7 x11 x12 cd dd S → cG p l e (cRm 9 mc ms 220) s m args below meth c A D Y 13 (MQ below (cQi post D Y A) args s mc ms A) cd dd 92 [(0, .ref x0), (6, .ref x6), (7, .ref x7), (11, .int x11), (12, .int x12)] [] S) (x0 : Nat) (x6 : Nat) (x7 : Nat) (x11 : Int32) (x12 : Int32) (cd dd : Nat) (S : cS) (h : k_L_isFound_92 post dp mc ms R92 x0 x6 x7 x11 x12 cd dd S) : cG p l e (cRm 9 mc ms 220) s m args below meth c A D Y 13 (MQ below (cQi post D Y A) args s mc ms A) cd dd 92 [(0, .ref x0), (6, .ref x6), (7, .ref x7), (11, .int x11), (12, .int x12)] [] S := by
  unfold k_L_isFound_92 at h
  refine cg_iload C 4 rfl dL_isFound_92 ?_
  refine cg_aload C 2 rfl dL_isFound_94 ?_
  refine cg_bipush C (x := nI 14) rfl dL_isFound_96 ?_
  obtain ⟨hc_98, h⟩ := h
  refine cg_ialoadR C hc_98 dL_isFound_98 ?_
  refine cg_icmp_ge C 151 (by decide) dL_isFound_99 (fun c_ => ?_) (fun c_ => ?_)
  · have h := h.1 c_
    refine cg_iload C 3 rfl dL_isFound_151 ?_
    obtain ⟨hb_153, h⟩ := h
    obtain ⟨hz_153, h⟩ := h
    exact cg_zret C (isZ_nar hz_153) h dL_isFound_153 hb_153.1 hb_153.2
  · have h := h.2 c_
    refine cg_iload C 3 rfl dL_isFound_102 ?_
    refine cg_if_eq C 151 (by decide) dL_isFound_104 (fun c_ => ?_) (fun c_ => ?_)
    · have h := h.1 c_
      refine cg_iload C 3 rfl dL_isFound_151 ?_
      obtain ⟨hb_153, h⟩ := h
      obtain ⟨hz_153, h⟩ := h
      exact cg_zret C (isZ_nar hz_153) h dL_isFound_153 hb_153.1 hb_153.2
    · have h := h.2 c_
      refine cg_aload_n C (i := 0) rfl 0 rfl dL_isFound_107 ?_
      refine cg_iload C 4 rfl dL_isFound_108 ?_
      obtain ⟨hc_110, h⟩ := h
      obtain ⟨hb_110, h⟩ := h
      refine cg_calli C (t_X11_hitAt l x0 x12 S dp h) cc_L_170 hc_110.1 hc_110.2 (by decide) rfl rfl ⟨by decide, by decide⟩ hb_110 rfl (Nat.le_of_ble_eq_true rfl) dL_isFound_110 (fun r_7 S_7 h => ?_)
      simp only [Nat.add_zero]
      refine cg_aload C 1 rfl dL_isFound_113 ?_
      refine cg_iload C 4 rfl dL_isFound_115 ?_
      obtain ⟨hc_117, h⟩ := h
      refine cg_ialoadR C hc_117 dL_isFound_117 ?_
      refine cg_icmp_ne C 142 (by decide) dL_isFound_118 (fun c_ => ?_) (fun c_ => ?_)
      · have h := h.1 c_
        exact cg_sub [0, 1, 2, 4] rfl (tb_L_isFound_142 C  hR92 x0 x6 x7 x12 cd dd S_7 h)
      · have h := h.2 c_
        refine cg_aload_n C (i := 0) rfl 0 rfl dL_isFound_121 ?_
        refine cg_iload C 4 rfl dL_isFound_122 ?_
        obtain ⟨hc_124, h⟩ := h
        obtain ⟨hb_124, h⟩ := h
        refine cg_calli C (t_X11_rankAt l x0 x12 S_7 dp h) cc_L_173 hc_124.1 hc_124.2 (by decide) rfl rfl ⟨by decide, by decide⟩ hb_124 rfl (Nat.le_of_ble_eq_true rfl) dL_isFound_124 (fun r_9 S_9 h => ?_)
        simp only [Nat.add_zero]
        refine cg_aload C 1 rfl dL_isFound_127 ?_
        refine cg_bipush C (x := nI 20) rfl dL_isFound_129 ?_
        refine cg_iload C 4 rfl dL_isFound_131 ?_
        refine cg_iadd C dL_isFound_133 ?_
        obtain ⟨hc_134, h⟩ := h
        refine cg_ialoadR C hc_134 dL_isFound_134 ?_
        refine cg_icmp_ne C 142 (by decide) dL_isFound_135 (fun c_ => ?_) (fun c_ => ?_)
        · have h := h.1 c_
          exact cg_sub [0, 1, 2, 4] rfl (tb_L_isFound_142 C  hR92 x0 x6 x7 x12 cd dd S_9 h)
        · have h := h.2 c_
          refine cg_iconst C (x := nI 1) rfl dL_isFound_138 ?_
          refine cg_goto C 143 (by decide) dL_isFound_139 ?_
          exact cg_sub [0, 1, 2, 4] rfl (tb_L_isFound_143 C  hR92 x0 x6 x7 x12 ((nI 1)) cd dd S_9 h)
set_option maxRecDepth 20000 in
theorem tl_L_isFound_92 {mc ms : Nat} (C : cC p s m args meth c cL_isFound 13 (some .boolean) A D Y tp dp RL) {post : Int32 → cS → Prop}   (x0 : Nat) (x6 : Nat) (x7 : Nat) (x11 : Int32) (x12 : Int32) (cd dd : Nat) (S : cS) (h : k_L_isFound_92L post dp mc ms  x0 x6 x7 x11 x12 cd dd S) : cG p l e (cRm 9 mc ms 220) s m args below meth c A D Y 13 (MQ below (cQi post D Y A) args s mc ms A) cd dd 92 [(0, .ref x0), (6, .ref x6), (7, .ref x7), (11, .int x11), (12, .int x12)] [] S :=
  h (fun y => cG p l e (cRm 9 mc ms 220) s m args below meth c A D Y 13 (MQ below (cQi post D Y A) args s mc ms A) (y.2.2.2.2.2.1) (y.2.2.2.2.2.2.1) 92 [(0, .ref (y.1)), (6, .ref (y.2.1)), (7, .ref (y.2.2.1)), (11, .int (y.2.2.2.1)), (12, .int (y.2.2.2.2.1))] [] (y.2.2.2.2.2.2.2)) (fun y hy => tb_L_isFound_92 C   (fun b0 b1 b2 b3 b4 b5 b6 S z => z) (y.1) (y.2.1) (y.2.2.1) (y.2.2.2.1) (y.2.2.2.2.1) (y.2.2.2.2.2.1) (y.2.2.2.2.2.2.1) (y.2.2.2.2.2.2.2) hy)
set_option maxRecDepth 20000 in
theorem tb_L_isFound_87 {mc ms : Nat} (C : cC p s m args meth c cL_isFound 13 (some .boolean) A D Y tp dp RL) {post : Int32 → cS → Prop}   (x0 : Nat) (x6 : Nat) (x7 : Nat) (t0 : Int32) (cd dd : Nat) (S : cS) (h : k_L_isFound_87 post dp mc ms  x0 x6 x7 t0 cd dd S) : cG p l e (cRm 9 mc ms 220) s m args below meth c A D Y 13 (MQ below (cQi post D Y A) args s mc ms A) cd dd 87 [(0, .ref x0), (6, .ref x6), (7, .ref x7)] [.int t0] S := by
  unfold k_L_isFound_87 at h
  refine cg_istore C (lv' := [(11, .int t0), (0, .ref x0), (6, .ref x6), (7, .ref x7)]) (Nat.le_of_ble_eq_true rfl) rfl dL_isFound_87 ?_
  refine cg_iconst C (x := nI 0) rfl dL_isFound_89 ?_
  refine cg_istore C (lv' := [(12, .int ((nI 0))), (11, .int t0), (0, .ref x0), (6, .ref x6), (7, .ref x7)]) (Nat.le_of_ble_eq_true rfl) rfl dL_isFound_90 ?_
  exact cg_sub [2, 3, 4, 1, 0] rfl (tl_L_isFound_92 C   x0 x6 x7 t0 (((nI 0))) cd dd S h)
set_option maxRecDepth 20000 in
theorem tb_L_isFound_86 {mc ms : Nat} (C : cC p s m args meth c cL_isFound 13 (some .boolean) A D Y tp dp RL) {post : Int32 → cS → Prop}   (x0 : Nat) (x6 : Nat) (x7 : Nat) (cd dd : Nat) (S : cS) (h : k_L_isFound_86 post dp mc ms  x0 x6 x7 cd dd S) : cG p l e (cRm 9 mc ms 220) s m args below meth c A D Y 13 (MQ below (cQi post D Y A) args s mc ms A) cd dd 86 [(0, .ref x0), (6, .ref x6), (7, .ref x7)] [] S := by
  unfold k_L_isFound_86 at h
  refine cg_iconst C (x := nI 0) rfl dL_isFound_86 ?_
  exact cg_sub [0, 1, 2] rfl (tb_L_isFound_87 C   x0 x6 x7 ((nI 0)) cd dd S h)
end S_L_isFound
set_option maxHeartbeats 1000000 in
set_option maxRecDepth 20000 in
theorem t_L_isFound (l : Launch) (mc ms : Nat) (x0 : Nat) (x1 : Nat) (x2 : Nat) (x3 : Nat) (x4 : Nat) (x5 : Nat) (x6 : Nat) (x7 : Nat) (x8 : Int32) (S : cS) (dp : Nat) {P : Int32 → cS → Prop} (h : k_L_isFound P dp mc ms x0 x1 x2 x3 x4 x5 x6 x7 x8 S) : cMet (cQi P) l yL_isFound cL_isFound 13 (some .boolean) 9 mc ms 220 [.ref x0, .ref x1, .ref x2, .ref x3, .ref x4, .ref x5, .ref x6, .ref x7, .int x8] S dp := by
  intro D Y tp sz
  refine cg_body (by decide +kernel) (Nat.le_of_ble_eq_true rfl) ?_
  intro p e s m args below meth c C
  generalize va_A (cWd Y S) sz = A at C ⊢
  have C : cC p s m args meth c cL_isFound 13 (some .boolean) A D Y tp dp RL := C
  refine cg_lv (lv' := [(0, .ref x0), (1, .ref x1), (2, .ref x2), (3, .ref x3), (4, .ref x4), (5, .ref x5), (6, .ref x6), (7, .ref x7), (8, .int x8)]) rfl ?_
  unfold k_L_isFound at h
  refine cg_iload C 8 rfl dL_isFound_0 ?_
  refine cg_bipush C (x := nI 9) rfl dL_isFound_2 ?_
  refine cg_irem C (by decide) dL_isFound_4 ?_
  refine cg_nmI (fun x9_1 e_x9_1 => ?_)
  have h := h x9_1 e_x9_1
  refine cg_istore C (lv' := [(9, .int x9_1), (0, .ref x0), (1, .ref x1), (2, .ref x2), (3, .ref x3), (4, .ref x4), (5, .ref x5), (6, .ref x6), (7, .ref x7), (8, .int x8)]) (Nat.le_of_ble_eq_true rfl) rfl dL_isFound_5 ?_
  refine cg_iconst C (x := nI 1) rfl dL_isFound_7 ?_
  refine cg_iload C 9 rfl dL_isFound_8 ?_
  refine cg_bipush C (x := nI 9) rfl dL_isFound_10 ?_
  refine cg_idiv C (by decide) dL_isFound_12 ?_
  refine cg_iconst C (x := nI 4) rfl dL_isFound_13 ?_
  refine cg_irem C (by decide) dL_isFound_14 ?_
  refine cg_iadd C dL_isFound_15 ?_
  refine cg_nmI (fun x10_2 e_x10_2 => ?_)
  have h := h x10_2 e_x10_2
  refine cg_istore C (lv' := [(10, .int x10_2), (9, .int x9_1), (0, .ref x0), (1, .ref x1), (2, .ref x2), (3, .ref x3), (4, .ref x4), (5, .ref x5), (6, .ref x6), (7, .ref x7), (8, .int x8)]) (Nat.le_of_ble_eq_true rfl) rfl dL_isFound_16 ?_
  refine cg_aload_n C (i := 1) rfl 3 rfl dL_isFound_18 ?_
  refine cg_aload_n C (i := 2) rfl 4 rfl dL_isFound_19 ?_
  refine cg_aload_n C (i := 3) rfl 5 rfl dL_isFound_20 ?_
  refine cg_aload C 6 rfl dL_isFound_21 ?_
  refine cg_aload C 7 rfl dL_isFound_23 ?_
  refine cg_aload C 8 rfl dL_isFound_25 ?_
  refine cg_aload C 9 rfl dL_isFound_27 ?_
  refine cg_iload C 1 rfl dL_isFound_29 ?_
  refine cg_iload C 0 rfl dL_isFound_31 ?_
  obtain ⟨mc3, ms4, hm_1, hm_2, h⟩ := h
  refine cg_callsv C (t_L_find l mc3 ms4 x1 x2 x3 x4 x5 x6 x7 x9_1 x10_2 S dp h) cc_L_157 rfl ⟨by decide, by decide⟩ ⟨hm_1, hm_2⟩ rfl (Nat.le_of_ble_eq_true rfl) dL_isFound_33 (fun S_5 h => ?_)
  refine cg_aload_n C (i := 0) rfl 2 rfl dL_isFound_36 ?_
  refine cg_aload C 6 rfl dL_isFound_37 ?_
  refine cg_iconst C (x := nI 0) rfl dL_isFound_39 ?_
  obtain ⟨hc_40, h⟩ := h
  refine cg_ialoadR C hc_40 dL_isFound_40 ?_
  refine cg_iconst C (x := nI 1) rfl dL_isFound_41 ?_
  refine cg_isub C dL_isFound_42 ?_
  refine cg_iload C 1 rfl dL_isFound_43 ?_
  refine cg_iload C 0 rfl dL_isFound_45 ?_
  obtain ⟨hc_47, h⟩ := h
  obtain ⟨hb_47, h⟩ := h
  refine cg_calli C (t_X11_find l x0 ((((cI S_5 x4 ((nI 0)).toNatClampNeg)) - ((nI 1)))) x9_1 x10_2 S_5 dp h) cc_L_161 hc_47.1 hc_47.2 (by decide) rfl rfl ⟨by decide, by decide⟩ hb_47 rfl (Nat.le_of_ble_eq_true rfl) dL_isFound_47 (fun r_6 S_6 h => ?_)
  simp only [Nat.add_zero]
  refine cg_aload C 9 rfl dL_isFound_50 ?_
  refine cg_bipush C (x := nI 14) rfl dL_isFound_52 ?_
  obtain ⟨hc_54, h⟩ := h
  refine cg_ialoadR C hc_54 dL_isFound_54 ?_
  refine cg_icmp_ne C 86 (by decide) dL_isFound_55 (fun c_ => ?_) (fun c_ => ?_)
  · have h := h.1 c_
    exact cg_sub [2, 8, 9] rfl (tb_L_isFound_86 C   x0 x6 x7 (0 + mc3) (0 + ms4) S_6 h)
  · have h := h.2 c_
    refine cg_aload_n C (i := 0) rfl 2 rfl dL_isFound_58 ?_
    obtain ⟨hc_59, h⟩ := h
    obtain ⟨hb_59, h⟩ := h
    refine cg_calli C (t_X11_skipped l x0 S_6 dp h) cc_L_164 hc_59.1 hc_59.2 (by decide) rfl rfl ⟨by decide, by decide⟩ hb_59 rfl (Nat.le_of_ble_eq_true rfl) dL_isFound_59 (fun r_10 S_10 h => ?_)
    simp only [Nat.add_zero]
    refine cg_aload C 9 rfl dL_isFound_62 ?_
    refine cg_bipush C (x := nI 15) rfl dL_isFound_64 ?_
    obtain ⟨hc_66, h⟩ := h
    refine cg_ialoadR C hc_66 dL_isFound_66 ?_
    refine cg_icmp_ne C 86 (by decide) dL_isFound_67 (fun c_ => ?_) (fun c_ => ?_)
    · have h := h.1 c_
      exact cg_sub [2, 8, 9] rfl (tb_L_isFound_86 C   x0 x6 x7 (0 + mc3) (0 + ms4) S_10 h)
    · have h := h.2 c_
      refine cg_aload_n C (i := 0) rfl 2 rfl dL_isFound_70 ?_
      obtain ⟨hc_71, h⟩ := h
      obtain ⟨hb_71, h⟩ := h
      refine cg_calli C (t_X11_cached l x0 S_10 dp h) cc_L_167 hc_71.1 hc_71.2 (by decide) rfl rfl ⟨by decide, by decide⟩ hb_71 rfl (Nat.le_of_ble_eq_true rfl) dL_isFound_71 (fun r_11 S_11 h => ?_)
      simp only [Nat.add_zero]
      refine cg_aload C 9 rfl dL_isFound_74 ?_
      refine cg_bipush C (x := nI 16) rfl dL_isFound_76 ?_
      obtain ⟨hc_78, h⟩ := h
      refine cg_ialoadR C hc_78 dL_isFound_78 ?_
      refine cg_icmp_ne C 86 (by decide) dL_isFound_79 (fun c_ => ?_) (fun c_ => ?_)
      · have h := h.1 c_
        exact cg_sub [2, 8, 9] rfl (tb_L_isFound_86 C   x0 x6 x7 (0 + mc3) (0 + ms4) S_11 h)
      · have h := h.2 c_
        refine cg_iconst C (x := nI 1) rfl dL_isFound_82 ?_
        refine cg_goto C 87 (by decide) dL_isFound_83 ?_
        exact cg_sub [2, 8, 9] rfl (tb_L_isFound_87 C   x0 x6 x7 ((nI 1)) (0 + mc3) (0 + ms4) S_11 h)
section S_L_isPlain
variable {p : Program} {l : Launch} {e : Env} {s : State} {m : MethodId} {args : Array Value} {below : List Frame} {meth : Method} {c : Code} {A : Nat → Prop} {D : va_G} {Y : cY} {tp dp : Nat}
set_option maxRecDepth 20000 in
theorem tb_L_isPlain_444 {mc ms : Nat} (C : cC p s m args meth c cL_isPlain 24 (some .boolean) A D Y tp dp RL) {post : Int32 → cS → Prop}   (x0 : Nat) (x4 : Nat) (x7 : Int32) (x8 : Int32) (x13 : Int32) (cd dd : Nat) (S : cS) (h : k_L_isPlain_444 post dp mc ms  x0 x4 x7 x8 x13 cd dd S) : cG p l e (cRm 10 mc ms 242) s m args below meth c A D Y 24 (MQ below (cQi post D Y A) args s mc ms A) cd dd 444 [(0, .ref x0), (4, .ref x4), (7, .int x7), (8, .int x8), (13, .int x13)] [] S := by
  unfold k_L_isPlain_444 at h
  refine cg_aload_n C (i := 0) rfl 0 rfl dL_isPlain_444 ?_
  refine cg_aload C 1 rfl dL_isPlain_445 ?_
  refine cg_iconst C (x := nI 0) rfl dL_isPlain_447 ?_
  obtain ⟨hc_448, h⟩ := h
  refine cg_ialoadR C hc_448 dL_isPlain_448 ?_
  refine cg_iconst C (x := nI 1) rfl dL_isPlain_449 ?_
  refine cg_isub C dL_isPlain_450 ?_
  refine cg_iload C 2 rfl dL_isPlain_451 ?_
  refine cg_iload C 3 rfl dL_isPlain_453 ?_
  refine cg_iconst C (x := nI 0) rfl dL_isPlain_455 ?_
  obtain ⟨hc_456, h⟩ := h
  obtain ⟨hb_456, h⟩ := h
  refine cg_calli C (t_X11_passages l x0 ((((cI S x4 ((nI 0)).toNatClampNeg)) - ((nI 1)))) x7 x8 ((nI 0)) S dp h) cc_L_195 hc_456.1 hc_456.2 (by decide) rfl rfl ⟨by decide, by decide⟩ hb_456 rfl (Nat.le_of_ble_eq_true rfl) dL_isPlain_456 (fun r_12 S_12 h => ?_)
  simp only [Nat.add_zero]
  refine cg_if_gt C 486 (by decide) dL_isPlain_459 (fun c_ => ?_) (fun c_ => ?_)
  · have h := h.1 c_
    refine cg_iconst C (x := nI 1) rfl dL_isPlain_486 ?_
    refine cg_goto C 491 (by decide) dL_isPlain_487 ?_
    obtain ⟨hb_491, h⟩ := h
    refine cg_cast (.int (bI true)) rfl ?_
    exact cg_zret C (bI_nar _) h dL_isPlain_491 hb_491.1 hb_491.2
  · have h := h.2 c_
    refine cg_iload C 4 rfl dL_isPlain_462 ?_
    refine cg_if_lt C 486 (by decide) dL_isPlain_464 (fun c_ => ?_) (fun c_ => ?_)
    · have h := h.1 c_
      refine cg_iconst C (x := nI 1) rfl dL_isPlain_486 ?_
      refine cg_goto C 491 (by decide) dL_isPlain_487 ?_
      obtain ⟨hb_491, h⟩ := h
      refine cg_cast (.int (bI true)) rfl ?_
      exact cg_zret C (bI_nar _) h dL_isPlain_491 hb_491.1 hb_491.2
    · have h := h.2 c_
      refine cg_iload C 2 rfl dL_isPlain_467 ?_
      refine cg_iconst C (x := nI 1) rfl dL_isPlain_469 ?_
      refine cg_icmp_eq C 486 (by decide) dL_isPlain_470 (fun c_ => ?_) (fun c_ => ?_)
      · have h := h.1 c_
        refine cg_iconst C (x := nI 1) rfl dL_isPlain_486 ?_
        refine cg_goto C 491 (by decide) dL_isPlain_487 ?_
        obtain ⟨hb_491, h⟩ := h
        refine cg_cast (.int (bI true)) rfl ?_
        exact cg_zret C (bI_nar _) h dL_isPlain_491 hb_491.1 hb_491.2
      · have h := h.2 c_
        refine cg_iload C 2 rfl dL_isPlain_473 ?_
        refine cg_iconst C (x := nI 5) rfl dL_isPlain_475 ?_
        refine cg_icmp_eq C 486 (by decide) dL_isPlain_476 (fun c_ => ?_) (fun c_ => ?_)
        · have h := h.1 c_
          refine cg_iconst C (x := nI 1) rfl dL_isPlain_486 ?_
          refine cg_goto C 491 (by decide) dL_isPlain_487 ?_
          obtain ⟨hb_491, h⟩ := h
          refine cg_cast (.int (bI true)) rfl ?_
          exact cg_zret C (bI_nar _) h dL_isPlain_491 hb_491.1 hb_491.2
        · have h := h.2 c_
          refine cg_iload C 2 rfl dL_isPlain_479 ?_
          refine cg_bipush C (x := nI 7) rfl dL_isPlain_481 ?_
          refine cg_icmp_ne C 490 (by decide) dL_isPlain_483 (fun c_ => ?_) (fun c_ => ?_)
          · have h := h.1 c_
            refine cg_iconst C (x := nI 0) rfl dL_isPlain_490 ?_
            obtain ⟨hb_491, h⟩ := h
            refine cg_cast (.int (bI false)) rfl ?_
            exact cg_zret C (bI_nar _) h dL_isPlain_491 hb_491.1 hb_491.2
          · have h := h.2 c_
            refine cg_iconst C (x := nI 1) rfl dL_isPlain_486 ?_
            refine cg_goto C 491 (by decide) dL_isPlain_487 ?_
            obtain ⟨hb_491, h⟩ := h
            refine cg_cast (.int (bI true)) rfl ?_
            exact cg_zret C (bI_nar _) h dL_isPlain_491 hb_491.1 hb_491.2
set_option maxRecDepth 20000 in
theorem tb_L_isPlain_413 {mc ms : Nat} (C : cC p s m args meth c cL_isPlain 24 (some .boolean) A D Y tp dp RL) {post : Int32 → cS → Prop}   (x0 : Nat) (x4 : Nat) (x7 : Int32) (x8 : Int32) (x11 : Int32) (x13 : Int32) (x15 : Int32) (t0 : Int32) (cd dd : Nat) (S : cS) (h : k_L_isPlain_413 post dp mc ms  x0 x4 x7 x8 x11 x13 x15 t0 cd dd S) : cG p l e (cRm 10 mc ms 242) s m args below meth c A D Y 24 (MQ below (cQi post D Y A) args s mc ms A) cd dd 413 [(0, .ref x0), (4, .ref x4), (7, .int x7), (8, .int x8), (11, .int x11), (13, .int x13), (15, .int x15)] [.int t0] S := by
  unfold k_L_isPlain_413 at h
  refine cg_istore C (lv' := [(16, .int t0), (0, .ref x0), (4, .ref x4), (7, .int x7), (8, .int x8), (11, .int x11), (13, .int x13), (15, .int x15)]) (Nat.le_of_ble_eq_true rfl) rfl dL_isPlain_413 ?_
  refine cg_iload C 0 rfl dL_isPlain_415 ?_
  refine cg_if_eq C 490 (by decide) dL_isPlain_417 (fun c_ => ?_) (fun c_ => ?_)
  · have h := h.1 c_
    refine cg_iconst C (x := nI 0) rfl dL_isPlain_490 ?_
    obtain ⟨hb_491, h⟩ := h
    refine cg_cast (.int (bI false)) rfl ?_
    exact cg_zret C (bI_nar _) h dL_isPlain_491 hb_491.1 hb_491.2
  · have h := h.2 c_
    refine cg_iload C 5 rfl dL_isPlain_420 ?_
    refine cg_if_eq C 444 (by decide) dL_isPlain_422 (fun c_ => ?_) (fun c_ => ?_)
    · have h := h.1 c_
      exact cg_sub [1, 2, 3, 4, 6] rfl (tb_L_isPlain_444 C   x0 x4 x7 x8 x13 cd dd S h)
    · have h := h.2 c_
      refine cg_aload_n C (i := 0) rfl 1 rfl dL_isPlain_425 ?_
      refine cg_aload C 2 rfl dL_isPlain_426 ?_
      refine cg_iconst C (x := nI 0) rfl dL_isPlain_428 ?_
      obtain ⟨hc_429, h⟩ := h
      refine cg_ialoadR C hc_429 dL_isPlain_429 ?_
      refine cg_iconst C (x := nI 1) rfl dL_isPlain_430 ?_
      refine cg_isub C dL_isPlain_431 ?_
      refine cg_iload C 3 rfl dL_isPlain_432 ?_
      refine cg_iconst C (x := nI 0) rfl dL_isPlain_434 ?_
      refine cg_iconst C (x := nI 0) rfl dL_isPlain_435 ?_
      obtain ⟨hc_436, h⟩ := h
      obtain ⟨mc13, ms14, hm_1, hm_2, h⟩ := h
      refine cg_calli C (t_X11_sortedAt l mc13 ms14 x0 ((((cI S x4 ((nI 0)).toNatClampNeg)) - ((nI 1)))) x7 ((nI 0)) ((nI 0)) S dp h) cc_L_191 hc_436.1 hc_436.2 (by decide) rfl rfl ⟨by decide, by decide⟩ ⟨hm_1, hm_2⟩ rfl (Nat.le_of_ble_eq_true rfl) dL_isPlain_436 (fun r_15 S_15 h => ?_)
      refine cg_iload C 7 rfl dL_isPlain_439 ?_
      refine cg_icmp_ne C 490 (by decide) dL_isPlain_441 (fun c_ => ?_) (fun c_ => ?_)
      · have h := h.1 c_
        refine cg_iconst C (x := nI 0) rfl dL_isPlain_490 ?_
        obtain ⟨hb_491, h⟩ := h
        refine cg_cast (.int (bI false)) rfl ?_
        exact cg_zret C (bI_nar _) h dL_isPlain_491 hb_491.1 hb_491.2
      · have h := h.2 c_
        exact cg_sub [1, 2, 3, 4, 6] rfl (tb_L_isPlain_444 C   x0 x4 x7 x8 x13 (cd + mc13) (dd + ms14) S_15 h)
set_option maxRecDepth 20000 in
theorem tb_L_isPlain_412 {mc ms : Nat} (C : cC p s m args meth c cL_isPlain 24 (some .boolean) A D Y tp dp RL) {post : Int32 → cS → Prop}   (x0 : Nat) (x4 : Nat) (x7 : Int32) (x8 : Int32) (x11 : Int32) (x13 : Int32) (x15 : Int32) (cd dd : Nat) (S : cS) (h : k_L_isPlain_412 post dp mc ms  x0 x4 x7 x8 x11 x13 x15 cd dd S) : cG p l e (cRm 10 mc ms 242) s m args below meth c A D Y 24 (MQ below (cQi post D Y A) args s mc ms A) cd dd 412 [(0, .ref x0), (4, .ref x4), (7, .int x7), (8, .int x8), (11, .int x11), (13, .int x13), (15, .int x15)] [] S := by
  unfold k_L_isPlain_412 at h
  refine cg_iconst C (x := nI 0) rfl dL_isPlain_412 ?_
  exact cg_sub [0, 1, 2, 3, 4, 5, 6] rfl (tb_L_isPlain_413 C   x0 x4 x7 x8 x11 x13 x15 ((nI 0)) cd dd S h)
set_option maxRecDepth 20000 in
theorem tb_L_isPlain_370 {mc ms : Nat} (C : cC p s m args meth c cL_isPlain 24 (some .boolean) A D Y tp dp RL) {post : Int32 → cS → Prop}   (x0 : Nat) (x4 : Nat) (x7 : Int32) (x8 : Int32) (x9 : Int32) (x11 : Int32) (x12 : Int32) (x13 : Int32) (x15 : Int32) (cd dd : Nat) (S : cS) (h : k_L_isPlain_370 post dp mc ms  x0 x4 x7 x8 x9 x11 x12 x13 x15 cd dd S) : cG p l e (cRm 10 mc ms 242) s m args below meth c A D Y 24 (MQ below (cQi post D Y A) args s mc ms A) cd dd 370 [(0, .ref x0), (4, .ref x4), (7, .int x7), (8, .int x8), (9, .int x9), (11, .int x11), (12, .int x12), (13, .int x13), (15, .int x15)] [] S := by
  unfold k_L_isPlain_370 at h
  refine cg_aload_n C (i := 0) rfl 0 rfl dL_isPlain_370 ?_
  refine cg_aload C 1 rfl dL_isPlain_371 ?_
  refine cg_iconst C (x := nI 0) rfl dL_isPlain_373 ?_
  obtain ⟨hc_374, h⟩ := h
  refine cg_ialoadR C hc_374 dL_isPlain_374 ?_
  refine cg_iconst C (x := nI 1) rfl dL_isPlain_375 ?_
  refine cg_isub C dL_isPlain_376 ?_
  refine cg_iload C 2 rfl dL_isPlain_377 ?_
  refine cg_iload C 4 rfl dL_isPlain_379 ?_
  obtain ⟨hc_381, h⟩ := h
  obtain ⟨mc19, ms20, hm_1, hm_2, h⟩ := h
  refine cg_calli C (t_X11_facet l mc19 ms20 x0 ((((cI S x4 ((nI 0)).toNatClampNeg)) - ((nI 1)))) x7 x9 S dp h) cc_L_185 hc_381.1 hc_381.2 (by decide) rfl rfl ⟨by decide, by decide⟩ ⟨hm_1, hm_2⟩ rfl (Nat.le_of_ble_eq_true rfl) dL_isPlain_381 (fun r_21 S_21 h => ?_)
  refine cg_iload C 6 rfl dL_isPlain_384 ?_
  refine cg_icmp_ne C 412 (by decide) dL_isPlain_386 (fun c_ => ?_) (fun c_ => ?_)
  · have h := h.1 c_
    exact cg_sub [0, 1, 2, 3, 5, 7, 8] rfl (tb_L_isPlain_412 C   x0 x4 x7 x8 x11 x13 x15 (cd + mc19) (dd + ms20) S_21 h)
  · have h := h.2 c_
    refine cg_aload_n C (i := 0) rfl 0 rfl dL_isPlain_389 ?_
    refine cg_aload C 1 rfl dL_isPlain_390 ?_
    refine cg_iconst C (x := nI 0) rfl dL_isPlain_392 ?_
    obtain ⟨hc_393, h⟩ := h
    refine cg_ialoadR C hc_393 dL_isPlain_393 ?_
    refine cg_iconst C (x := nI 1) rfl dL_isPlain_394 ?_
    refine cg_isub C dL_isPlain_395 ?_
    refine cg_iload C 2 rfl dL_isPlain_396 ?_
    refine cg_iload C 3 rfl dL_isPlain_398 ?_
    obtain ⟨hc_400, h⟩ := h
    obtain ⟨hb_400, h⟩ := h
    refine cg_calli C (t_X11_rankByScan l x0 ((((cI S_21 x4 ((nI 0)).toNatClampNeg)) - ((nI 1)))) x7 x8 S_21 dp h) cc_L_188 hc_400.1 hc_400.2 (by decide) rfl rfl ⟨by decide, by decide⟩ hb_400 rfl (Nat.le_of_ble_eq_true rfl) dL_isPlain_400 (fun r_22 S_22 h => ?_)
    simp only [Nat.add_zero]
    refine cg_iload C 7 rfl dL_isPlain_403 ?_
    refine cg_icmp_ne C 412 (by decide) dL_isPlain_405 (fun c_ => ?_) (fun c_ => ?_)
    · have h := h.1 c_
      exact cg_sub [0, 1, 2, 3, 5, 7, 8] rfl (tb_L_isPlain_412 C   x0 x4 x7 x8 x11 x13 x15 (cd + mc19) (dd + ms20) S_22 h)
    · have h := h.2 c_
      refine cg_iconst C (x := nI 1) rfl dL_isPlain_408 ?_
      refine cg_goto C 413 (by decide) dL_isPlain_409 ?_
      exact cg_sub [0, 1, 2, 3, 5, 7, 8] rfl (tb_L_isPlain_413 C   x0 x4 x7 x8 x11 x13 x15 ((nI 1)) (cd + mc19) (dd + ms20) S_22 h)
set_option maxRecDepth 20000 in
theorem tb_L_isPlain_300 {mc ms : Nat} (C : cC p s m args meth c cL_isPlain 24 (some .boolean) A D Y tp dp RL) {post : Int32 → cS → Prop} {R63 : Nat → Nat → Nat → Nat → Nat → Int32 → Nat → Int32 → Int32 → Int32 → Int32 → Int32 → Int32 → Int32 → Int32 → Int32 → Int32 → Nat → Nat → cS → Prop} {R84 : Nat → Nat → Nat → Nat → Nat → Int32 → Nat → Int32 → Int32 → Int32 → Int32 → Int32 → Int32 → Int32 → Int32 → Int32 → Int32 → Int32 → Int32 → Nat → Nat → cS → Prop} (hR63 : ∀ (x0 : Nat) (x1 : Nat) (x2 : Nat) (x3 : Nat) (x4 : Nat) (x5 : Int32) (x6 : Nat) (x7 : Int32) (x8 : Int32) (x9 : Int32) (x10 : Int32) (x11 : Int32) (x12 : Int32) (x13 : Int32) (x14 : Int32) (x15 : Int32) (x16 : Int32) (cd dd : Nat) (S : cS), R63 x0 x1 x2 x3 x4 x5 x6 x7 x8 x9 x10 x11 x12 x13 x14 x15 x16 cd dd S → cG p l e (cRm 10 mc ms 242) s m args below meth c A D Y 24 (MQ below (cQi post D Y A) args s mc ms A) cd dd 63 [(0, .ref x0), (1, .ref x1), (2, .ref x2), (3, .ref x3), (4, .ref x4), (5, .int x5), (6, .ref x6), (7, .int x7), (8, .int x8), (9, .int x9), (10, .int x10), (11, .int x11), (12, .int x12), (13, .int x13), (14, .int x14), (15, .int x15), (16, .int x16)] [] S) (hR84 : ∀ (x0 : Nat) (x1 : Nat) (x2 : Nat) (x3 : Nat) (x4 : Nat) (x5 : Int32) (x6 : Nat) (x7 : Int32) (x8 : Int32) (x9 : Int32) (x10 : Int32) (x11 : Int32) (x12 : Int32) (x13 : Int32) (x14 : Int32) (x15 : Int32) (x16 : Int32) (x17 : Int32) (x18 : Int32) (cd dd : Nat) (S : cS), R84 x0 x1 x2 x3 x4 x5 x6 x7 x8 x9 x10 x11 x12 x13 x14 x15 x16 x17 x18 cd dd S → cG p l e (cRm 10 mc ms 242) s m args below meth c A D Y 24 (MQ below (cQi post D Y A) args s mc ms A) cd dd 84 [(0, .ref x0), (1, .ref x1), (2, .ref x2), (3, .ref x3), (4, .ref x4), (5, .int x5), (6, .ref x6), (7, .int x7), (8, .int x8), (9, .int x9), (10, .int x10), (11, .int x11), (12, .int x12), (13, .int x13), (14, .int x14), (15, .int x15), (16, .int x16), (17, .int x17), (18, .int x18)] [] S) (x0 : Nat) (x1 : Nat) (x2 : Nat) (x3 : Nat) (x4 : Nat) (x5 : Int32) (x6 : Nat) (x7 : Int32) (x8 : Int32) (x9 : Int32) (x10 : Int32) (x11 : Int32) (x12 : Int32) (x13 : Int32) (x15 : Int32) (x16 : Int32) (x17 : Int32) (x18 : Int32) (t0 : Int32) (cd dd : Nat) (S : cS) (h : k_L_isPlain_300 post dp mc ms R63 R84 x0 x1 x2 x3 x4 x5 x6 x7 x8 x9 x10 x11 x12 x13 x15 x16 x17 x18 t0 cd dd S) : cG p l e (cRm 10 mc ms 242) s m args below meth c A D Y 24 (MQ below (cQi post D Y A) args s mc ms A) cd dd 300 [(0, .ref x0), (1, .ref x1), (2, .ref x2), (3, .ref x3), (4, .ref x4), (5, .int x5), (6, .ref x6), (7, .int x7), (8, .int x8), (9, .int x9), (10, .int x10), (11, .int x11), (12, .int x12), (13, .int x13), (15, .int x15), (16, .int x16), (17, .int x17), (18, .int x18)] [.int t0] S := by
  unfold k_L_isPlain_300 at h
  refine cg_istore C (lv' := [(14, .int t0), (0, .ref x0), (1, .ref x1), (2, .ref x2), (3, .ref x3), (4, .ref x4), (5, .int x5), (6, .ref x6), (7, .int x7), (8, .int x8), (9, .int x9), (10, .int x10), (11, .int x11), (12, .int x12), (13, .int x13), (15, .int x15), (16, .int x16), (17, .int x17), (18, .int x18)]) (Nat.le_of_ble_eq_true rfl) rfl dL_isPlain_300 ?_
  obtain ⟨x18_32, e_x18_32⟩ : ∃ z : Int32, z = x18 + nI 1 := ⟨_, rfl⟩
  have h := h x18_32 e_x18_32
  refine cg_iinc C (lv' := [(18, .int x18_32), (14, .int t0), (0, .ref x0), (1, .ref x1), (2, .ref x2), (3, .ref x3), (4, .ref x4), (5, .int x5), (6, .ref x6), (7, .int x7), (8, .int x8), (9, .int x9), (10, .int x10), (11, .int x11), (12, .int x12), (13, .int x13), (15, .int x15), (16, .int x16), (17, .int x17)]) 18 rfl (by rw [e_x18_32]; rfl) (Nat.le_of_ble_eq_true rfl) rfl dL_isPlain_302 ?_
  refine cg_goto C 84 (by decide) dL_isPlain_305 ?_
  exact cg_sub [2, 3, 4, 5, 6, 7, 8, 9, 10, 11, 12, 13, 14, 15, 1, 16, 17, 18, 0] rfl (hR84 x0 x1 x2 x3 x4 x5 x6 x7 x8 x9 x10 x11 x12 x13 t0 x15 x16 x17 x18_32 cd dd S h)
set_option maxRecDepth 20000 in
theorem tb_L_isPlain_298 {mc ms : Nat} (C : cC p s m args meth c cL_isPlain 24 (some .boolean) A D Y tp dp RL) {post : Int32 → cS → Prop} {R63 : Nat → Nat → Nat → Nat → Nat → Int32 → Nat → Int32 → Int32 → Int32 → Int32 → Int32 → Int32 → Int32 → Int32 → Int32 → Int32 → Nat → Nat → cS → Prop} {R84 : Nat → Nat → Nat → Nat → Nat → Int32 → Nat → Int32 → Int32 → Int32 → Int32 → Int32 → Int32 → Int32 → Int32 → Int32 → Int32 → Int32 → Int32 → Nat → Nat → cS → Prop} (hR63 : ∀ (x0 : Nat) (x1 : Nat) (x2 : Nat) (x3 : Nat) (x4 : Nat) (x5 : Int32) (x6 : Nat) (x7 : Int32) (x8 : Int32) (x9 : Int32) (x10 : Int32) (x11 : Int32) (x12 : Int32) (x13 : Int32) (x14 : Int32) (x15 : Int32) (x16 : Int32) (cd dd : Nat) (S : cS), R63 x0 x1 x2 x3 x4 x5 x6 x7 x8 x9 x10 x11 x12 x13 x14 x15 x16 cd dd S → cG p l e (cRm 10 mc ms 242) s m args below meth c A D Y 24 (MQ below (cQi post D Y A) args s mc ms A) cd dd 63 [(0, .ref x0), (1, .ref x1), (2, .ref x2), (3, .ref x3), (4, .ref x4), (5, .int x5), (6, .ref x6), (7, .int x7), (8, .int x8), (9, .int x9), (10, .int x10), (11, .int x11), (12, .int x12), (13, .int x13), (14, .int x14), (15, .int x15), (16, .int x16)] [] S) (hR84 : ∀ (x0 : Nat) (x1 : Nat) (x2 : Nat) (x3 : Nat) (x4 : Nat) (x5 : Int32) (x6 : Nat) (x7 : Int32) (x8 : Int32) (x9 : Int32) (x10 : Int32) (x11 : Int32) (x12 : Int32) (x13 : Int32) (x14 : Int32) (x15 : Int32) (x16 : Int32) (x17 : Int32) (x18 : Int32) (cd dd : Nat) (S : cS), R84 x0 x1 x2 x3 x4 x5 x6 x7 x8 x9 x10 x11 x12 x13 x14 x15 x16 x17 x18 cd dd S → cG p l e (cRm 10 mc ms 242) s m args below meth c A D Y 24 (MQ below (cQi post D Y A) args s mc ms A) cd dd 84 [(0, .ref x0), (1, .ref x1), (2, .ref x2), (3, .ref x3), (4, .ref x4), (5, .int x5), (6, .ref x6), (7, .int x7), (8, .int x8), (9, .int x9), (10, .int x10), (11, .int x11), (12, .int x12), (13, .int x13), (14, .int x14), (15, .int x15), (16, .int x16), (17, .int x17), (18, .int x18)] [] S) (x0 : Nat) (x1 : Nat) (x2 : Nat) (x3 : Nat) (x4 : Nat) (x5 : Int32) (x6 : Nat) (x7 : Int32) (x8 : Int32) (x9 : Int32) (x10 : Int32) (x11 : Int32) (x12 : Int32) (x13 : Int32) (x14 : Int32) (x15 : Int32) (x16 : Int32) (x17 : Int32) (x18 : Int32) (cd dd : Nat) (S : cS) (h : k_L_isPlain_298 post dp mc ms R63 R84 x0 x1 x2 x3 x4 x5 x6 x7 x8 x9 x10 x11 x12 x13 x14 x15 x16 x17 x18 cd dd S) : cG p l e (cRm 10 mc ms 242) s m args below meth c A D Y 24 (MQ below (cQi post D Y A) args s mc ms A) cd dd 298 [(0, .ref x0), (1, .ref x1), (2, .ref x2), (3, .ref x3), (4, .ref x4), (5, .int x5), (6, .ref x6), (7, .int x7), (8, .int x8), (9, .int x9), (10, .int x10), (11, .int x11), (12, .int x12), (13, .int x13), (14, .int x14), (15, .int x15), (16, .int x16), (17, .int x17), (18, .int x18)] [] S := by
  unfold k_L_isPlain_298 at h
  refine cg_iload C 14 rfl dL_isPlain_298 ?_
  exact cg_sub [0, 1, 2, 3, 4, 5, 6, 7, 8, 9, 10, 11, 12, 13, 15, 16, 17, 18] rfl (tb_L_isPlain_300 C  hR63 hR84 x0 x1 x2 x3 x4 x5 x6 x7 x8 x9 x10 x11 x12 x13 x15 x16 x17 x18 x14 cd dd S h)
set_option maxRecDepth 20000 in
theorem tb_L_isPlain_274 {mc ms : Nat} (C : cC p s m args meth c cL_isPlain 24 (some .boolean) A D Y tp dp RL) {post : Int32 → cS → Prop} {R63 : Nat → Nat → Nat → Nat → Nat → Int32 → Nat → Int32 → Int32 → Int32 → Int32 → Int32 → Int32 → Int32 → Int32 → Int32 → Int32 → Nat → Nat → cS → Prop} {R84 : Nat → Nat → Nat → Nat → Nat → Int32 → Nat → Int32 → Int32 → Int32 → Int32 → Int32 → Int32 → Int32 → Int32 → Int32 → Int32 → Int32 → Int32 → Nat → Nat → cS → Prop} (hR63 : ∀ (x0 : Nat) (x1 : Nat) (x2 : Nat) (x3 : Nat) (x4 : Nat) (x5 : Int32) (x6 : Nat) (x7 : Int32) (x8 : Int32) (x9 : Int32) (x10 : Int32) (x11 : Int32) (x12 : Int32) (x13 : Int32) (x14 : Int32) (x15 : Int32) (x16 : Int32) (cd dd : Nat) (S : cS), R63 x0 x1 x2 x3 x4 x5 x6 x7 x8 x9 x10 x11 x12 x13 x14 x15 x16 cd dd S → cG p l e (cRm 10 mc ms 242) s m args below meth c A D Y 24 (MQ below (cQi post D Y A) args s mc ms A) cd dd 63 [(0, .ref x0), (1, .ref x1), (2, .ref x2), (3, .ref x3), (4, .ref x4), (5, .int x5), (6, .ref x6), (7, .int x7), (8, .int x8), (9, .int x9), (10, .int x10), (11, .int x11), (12, .int x12), (13, .int x13), (14, .int x14), (15, .int x15), (16, .int x16)] [] S) (hR84 : ∀ (x0 : Nat) (x1 : Nat) (x2 : Nat) (x3 : Nat) (x4 : Nat) (x5 : Int32) (x6 : Nat) (x7 : Int32) (x8 : Int32) (x9 : Int32) (x10 : Int32) (x11 : Int32) (x12 : Int32) (x13 : Int32) (x14 : Int32) (x15 : Int32) (x16 : Int32) (x17 : Int32) (x18 : Int32) (cd dd : Nat) (S : cS), R84 x0 x1 x2 x3 x4 x5 x6 x7 x8 x9 x10 x11 x12 x13 x14 x15 x16 x17 x18 cd dd S → cG p l e (cRm 10 mc ms 242) s m args below meth c A D Y 24 (MQ below (cQi post D Y A) args s mc ms A) cd dd 84 [(0, .ref x0), (1, .ref x1), (2, .ref x2), (3, .ref x3), (4, .ref x4), (5, .int x5), (6, .ref x6), (7, .int x7), (8, .int x8), (9, .int x9), (10, .int x10), (11, .int x11), (12, .int x12), (13, .int x13), (14, .int x14), (15, .int x15), (16, .int x16), (17, .int x17), (18, .int x18)] [] S) (x0 : Nat) (x1 : Nat) (x2 : Nat) (x3 : Nat) (x4 : Nat) (x5 : Int32) (x6 : Nat) (x7 : Int32) (x8 : Int32) (x9 : Int32) (x10 : Int32) (x11 : Int32) (x12 : Int32) (x13 : Int32) (x14 : Int32) (x16 : Int32) (x17 : Int32) (x18 : Int32) (x22 : Int32) (x23 : Int32) (t0 : Int32) (cd dd : Nat) (S : cS) (h : k_L_isPlain_274 post dp mc ms R63 R84 x0 x1 x2 x3 x4 x5 x6 x7 x8 x9 x10 x11 x12 x13 x14 x16 x17 x18 x22 x23 t0 cd dd S) : cG p l e (cRm 10 mc ms 242) s m args below meth c A D Y 24 (MQ below (cQi post D Y A) args s mc ms A) cd dd 274 [(0, .ref x0), (1, .ref x1), (2, .ref x2), (3, .ref x3), (4, .ref x4), (5, .int x5), (6, .ref x6), (7, .int x7), (8, .int x8), (9, .int x9), (10, .int x10), (11, .int x11), (12, .int x12), (13, .int x13), (14, .int x14), (16, .int x16), (17, .int x17), (18, .int x18), (22, .int x22), (23, .int x23)] [.int t0] S := by
  unfold k_L_isPlain_274 at h
  refine cg_istore C (lv' := [(15, .int t0), (0, .ref x0), (1, .ref x1), (2, .ref x2), (3, .ref x3), (4, .ref x4), (5, .int x5), (6, .ref x6), (7, .int x7), (8, .int x8), (9, .int x9), (10, .int x10), (11, .int x11), (12, .int x12), (13, .int x13), (14, .int x14), (16, .int x16), (17, .int x17), (18, .int x18), (22, .int x22), (23, .int x23)]) (Nat.le_of_ble_eq_true rfl) rfl dL_isPlain_274 ?_
  refine cg_iload C 19 rfl dL_isPlain_276 ?_
  refine cg_if_le C 298 (by decide) dL_isPlain_278 (fun c_ => ?_) (fun c_ => ?_)
  · have h := h.1 c_
    exact cg_sub [1, 2, 3, 4, 5, 6, 7, 8, 9, 10, 11, 12, 13, 14, 15, 0, 16, 17, 18] rfl (tb_L_isPlain_298 C  hR63 hR84 x0 x1 x2 x3 x4 x5 x6 x7 x8 x9 x10 x11 x12 x13 x14 t0 x16 x17 x18 cd dd S h)
  · have h := h.2 c_
    refine cg_iload C 15 rfl dL_isPlain_281 ?_
    refine cg_if_lt C 293 (by decide) dL_isPlain_283 (fun c_ => ?_) (fun c_ => ?_)
    · have h := h.1 c_
      refine cg_iload C 20 rfl dL_isPlain_293 ?_
      refine cg_goto C 300 (by decide) dL_isPlain_295 ?_
      exact cg_sub [1, 2, 3, 4, 5, 6, 7, 8, 9, 10, 11, 12, 13, 14, 0, 16, 17, 18] rfl (tb_L_isPlain_300 C  hR63 hR84 x0 x1 x2 x3 x4 x5 x6 x7 x8 x9 x10 x11 x12 x13 t0 x16 x17 x18 x23 cd dd S h)
    · have h := h.2 c_
      refine cg_iload C 20 rfl dL_isPlain_286 ?_
      refine cg_iload C 15 rfl dL_isPlain_288 ?_
      refine cg_icmp_ge C 298 (by decide) dL_isPlain_290 (fun c_ => ?_) (fun c_ => ?_)
      · have h := h.1 c_
        exact cg_sub [1, 2, 3, 4, 5, 6, 7, 8, 9, 10, 11, 12, 13, 14, 15, 0, 16, 17, 18] rfl (tb_L_isPlain_298 C  hR63 hR84 x0 x1 x2 x3 x4 x5 x6 x7 x8 x9 x10 x11 x12 x13 x14 t0 x16 x17 x18 cd dd S h)
      · have h := h.2 c_
        refine cg_iload C 20 rfl dL_isPlain_293 ?_
        refine cg_goto C 300 (by decide) dL_isPlain_295 ?_
        exact cg_sub [1, 2, 3, 4, 5, 6, 7, 8, 9, 10, 11, 12, 13, 14, 0, 16, 17, 18] rfl (tb_L_isPlain_300 C  hR63 hR84 x0 x1 x2 x3 x4 x5 x6 x7 x8 x9 x10 x11 x12 x13 t0 x16 x17 x18 x23 cd dd S h)
set_option maxRecDepth 20000 in
theorem tb_L_isPlain_272 {mc ms : Nat} (C : cC p s m args meth c cL_isPlain 24 (some .boolean) A D Y tp dp RL) {post : Int32 → cS → Prop} {R63 : Nat → Nat → Nat → Nat → Nat → Int32 → Nat → Int32 → Int32 → Int32 → Int32 → Int32 → Int32 → Int32 → Int32 → Int32 → Int32 → Nat → Nat → cS → Prop} {R84 : Nat → Nat → Nat → Nat → Nat → Int32 → Nat → Int32 → Int32 → Int32 → Int32 → Int32 → Int32 → Int32 → Int32 → Int32 → Int32 → Int32 → Int32 → Nat → Nat → cS → Prop} (hR63 : ∀ (x0 : Nat) (x1 : Nat) (x2 : Nat) (x3 : Nat) (x4 : Nat) (x5 : Int32) (x6 : Nat) (x7 : Int32) (x8 : Int32) (x9 : Int32) (x10 : Int32) (x11 : Int32) (x12 : Int32) (x13 : Int32) (x14 : Int32) (x15 : Int32) (x16 : Int32) (cd dd : Nat) (S : cS), R63 x0 x1 x2 x3 x4 x5 x6 x7 x8 x9 x10 x11 x12 x13 x14 x15 x16 cd dd S → cG p l e (cRm 10 mc ms 242) s m args below meth c A D Y 24 (MQ below (cQi post D Y A) args s mc ms A) cd dd 63 [(0, .ref x0), (1, .ref x1), (2, .ref x2), (3, .ref x3), (4, .ref x4), (5, .int x5), (6, .ref x6), (7, .int x7), (8, .int x8), (9, .int x9), (10, .int x10), (11, .int x11), (12, .int x12), (13, .int x13), (14, .int x14), (15, .int x15), (16, .int x16)] [] S) (hR84 : ∀ (x0 : Nat) (x1 : Nat) (x2 : Nat) (x3 : Nat) (x4 : Nat) (x5 : Int32) (x6 : Nat) (x7 : Int32) (x8 : Int32) (x9 : Int32) (x10 : Int32) (x11 : Int32) (x12 : Int32) (x13 : Int32) (x14 : Int32) (x15 : Int32) (x16 : Int32) (x17 : Int32) (x18 : Int32) (cd dd : Nat) (S : cS), R84 x0 x1 x2 x3 x4 x5 x6 x7 x8 x9 x10 x11 x12 x13 x14 x15 x16 x17 x18 cd dd S → cG p l e (cRm 10 mc ms 242) s m args below meth c A D Y 24 (MQ below (cQi post D Y A) args s mc ms A) cd dd 84 [(0, .ref x0), (1, .ref x1), (2, .ref x2), (3, .ref x3), (4, .ref x4), (5, .int x5), (6, .ref x6), (7, .int x7), (8, .int x8), (9, .int x9), (10, .int x10), (11, .int x11), (12, .int x12), (13, .int x13), (14, .int x14), (15, .int x15), (16, .int x16), (17, .int x17), (18, .int x18)] [] S) (x0 : Nat) (x1 : Nat) (x2 : Nat) (x3 : Nat) (x4 : Nat) (x5 : Int32) (x6 : Nat) (x7 : Int32) (x8 : Int32) (x9 : Int32) (x10 : Int32) (x11 : Int32) (x12 : Int32) (x13 : Int32) (x14 : Int32) (x15 : Int32) (x16 : Int32) (x17 : Int32) (x18 : Int32) (x22 : Int32) (x23 : Int32) (cd dd : Nat) (S : cS) (h : k_L_isPlain_272 post dp mc ms R63 R84 x0 x1 x2 x3 x4 x5 x6 x7 x8 x9 x10 x11 x12 x13 x14 x15 x16 x17 x18 x22 x23 cd dd S) : cG p l e (cRm 10 mc ms 242) s m args below meth c A D Y 24 (MQ below (cQi post D Y A) args s mc ms A) cd dd 272 [(0, .ref x0), (1, .ref x1), (2, .ref x2), (3, .ref x3), (4, .ref x4), (5, .int x5), (6, .ref x6), (7, .int x7), (8, .int x8), (9, .int x9), (10, .int x10), (11, .int x11), (12, .int x12), (13, .int x13), (14, .int x14), (15, .int x15), (16, .int x16), (17, .int x17), (18, .int x18), (22, .int x22), (23, .int x23)] [] S := by
  unfold k_L_isPlain_272 at h
  refine cg_iload C 15 rfl dL_isPlain_272 ?_
  exact cg_sub [0, 1, 2, 3, 4, 5, 6, 7, 8, 9, 10, 11, 12, 13, 14, 16, 17, 18, 19, 20] rfl (tb_L_isPlain_274 C  hR63 hR84 x0 x1 x2 x3 x4 x5 x6 x7 x8 x9 x10 x11 x12 x13 x14 x16 x17 x18 x22 x23 x15 cd dd S h)
set_option maxRecDepth 20000 in
theorem tb_L_isPlain_262 {mc ms : Nat} (C : cC p s m args meth c cL_isPlain 24 (some .boolean) A D Y tp dp RL) {post : Int32 → cS → Prop} {R63 : Nat → Nat → Nat → Nat → Nat → Int32 → Nat → Int32 → Int32 → Int32 → Int32 → Int32 → Int32 → Int32 → Int32 → Int32 → Int32 → Nat → Nat → cS → Prop} {R84 : Nat → Nat → Nat → Nat → Nat → Int32 → Nat → Int32 → Int32 → Int32 → Int32 → Int32 → Int32 → Int32 → Int32 → Int32 → Int32 → Int32 → Int32 → Nat → Nat → cS → Prop} (hR63 : ∀ (x0 : Nat) (x1 : Nat) (x2 : Nat) (x3 : Nat) (x4 : Nat) (x5 : Int32) (x6 : Nat) (x7 : Int32) (x8 : Int32) (x9 : Int32) (x10 : Int32) (x11 : Int32) (x12 : Int32) (x13 : Int32) (x14 : Int32) (x15 : Int32) (x16 : Int32) (cd dd : Nat) (S : cS), R63 x0 x1 x2 x3 x4 x5 x6 x7 x8 x9 x10 x11 x12 x13 x14 x15 x16 cd dd S → cG p l e (cRm 10 mc ms 242) s m args below meth c A D Y 24 (MQ below (cQi post D Y A) args s mc ms A) cd dd 63 [(0, .ref x0), (1, .ref x1), (2, .ref x2), (3, .ref x3), (4, .ref x4), (5, .int x5), (6, .ref x6), (7, .int x7), (8, .int x8), (9, .int x9), (10, .int x10), (11, .int x11), (12, .int x12), (13, .int x13), (14, .int x14), (15, .int x15), (16, .int x16)] [] S) (hR84 : ∀ (x0 : Nat) (x1 : Nat) (x2 : Nat) (x3 : Nat) (x4 : Nat) (x5 : Int32) (x6 : Nat) (x7 : Int32) (x8 : Int32) (x9 : Int32) (x10 : Int32) (x11 : Int32) (x12 : Int32) (x13 : Int32) (x14 : Int32) (x15 : Int32) (x16 : Int32) (x17 : Int32) (x18 : Int32) (cd dd : Nat) (S : cS), R84 x0 x1 x2 x3 x4 x5 x6 x7 x8 x9 x10 x11 x12 x13 x14 x15 x16 x17 x18 cd dd S → cG p l e (cRm 10 mc ms 242) s m args below meth c A D Y 24 (MQ below (cQi post D Y A) args s mc ms A) cd dd 84 [(0, .ref x0), (1, .ref x1), (2, .ref x2), (3, .ref x3), (4, .ref x4), (5, .int x5), (6, .ref x6), (7, .int x7), (8, .int x8), (9, .int x9), (10, .int x10), (11, .int x11), (12, .int x12), (13, .int x13), (14, .int x14), (15, .int x15), (16, .int x16), (17, .int x17), (18, .int x18)] [] S) (x0 : Nat) (x1 : Nat) (x2 : Nat) (x3 : Nat) (x4 : Nat) (x5 : Int32) (x6 : Nat) (x7 : Int32) (x8 : Int32) (x9 : Int32) (x10 : Int32) (x11 : Int32) (x12 : Int32) (x13 : Int32) (x14 : Int32) (x16 : Int32) (x17 : Int32) (x18 : Int32) (x19 : Int64) (x22 : Int32) (x23 : Int32) (cd dd : Nat) (S : cS) (h : k_L_isPlain_262 post dp mc ms R63 R84 x0 x1 x2 x3 x4 x5 x6 x7 x8 x9 x10 x11 x12 x13 x14 x16 x17 x18 x19 x22 x23 cd dd S) : cG p l e (cRm 10 mc ms 242) s m args below meth c A D Y 24 (MQ below (cQi post D Y A) args s mc ms A) cd dd 262 [(0, .ref x0), (1, .ref x1), (2, .ref x2), (3, .ref x3), (4, .ref x4), (5, .int x5), (6, .ref x6), (7, .int x7), (8, .int x8), (9, .int x9), (10, .int x10), (11, .int x11), (12, .int x12), (13, .int x13), (14, .int x14), (16, .int x16), (17, .int x17), (18, .int x18), (19, .long x19), (22, .int x22), (23, .int x23)] [] S := by
  unfold k_L_isPlain_262 at h
  refine cg_lload C 18 rfl dL_isPlain_262 ?_
  refine cg_ldc2 C (x := 15) ck_L_9 dL_isPlain_264 ?_
  refine cg_land C dL_isPlain_267 ?_
  refine cg_l2i C dL_isPlain_268 ?_
  refine cg_goto C 274 (by decide) dL_isPlain_269 ?_
  exact cg_sub [0, 1, 2, 3, 4, 5, 6, 7, 8, 9, 10, 11, 12, 13, 14, 15, 16, 17, 19, 20] rfl (tb_L_isPlain_274 C  hR63 hR84 x0 x1 x2 x3 x4 x5 x6 x7 x8 x9 x10 x11 x12 x13 x14 x16 x17 x18 x22 x23 (((x19 &&& 15).toInt32)) cd dd S h)
set_option maxRecDepth 20000 in
theorem tb_L_isPlain_243 {mc ms : Nat} (C : cC p s m args meth c cL_isPlain 24 (some .boolean) A D Y tp dp RL) {post : Int32 → cS → Prop} {R63 : Nat → Nat → Nat → Nat → Nat → Int32 → Nat → Int32 → Int32 → Int32 → Int32 → Int32 → Int32 → Int32 → Int32 → Int32 → Int32 → Nat → Nat → cS → Prop} {R84 : Nat → Nat → Nat → Nat → Nat → Int32 → Nat → Int32 → Int32 → Int32 → Int32 → Int32 → Int32 → Int32 → Int32 → Int32 → Int32 → Int32 → Int32 → Nat → Nat → cS → Prop} (hR63 : ∀ (x0 : Nat) (x1 : Nat) (x2 : Nat) (x3 : Nat) (x4 : Nat) (x5 : Int32) (x6 : Nat) (x7 : Int32) (x8 : Int32) (x9 : Int32) (x10 : Int32) (x11 : Int32) (x12 : Int32) (x13 : Int32) (x14 : Int32) (x15 : Int32) (x16 : Int32) (cd dd : Nat) (S : cS), R63 x0 x1 x2 x3 x4 x5 x6 x7 x8 x9 x10 x11 x12 x13 x14 x15 x16 cd dd S → cG p l e (cRm 10 mc ms 242) s m args below meth c A D Y 24 (MQ below (cQi post D Y A) args s mc ms A) cd dd 63 [(0, .ref x0), (1, .ref x1), (2, .ref x2), (3, .ref x3), (4, .ref x4), (5, .int x5), (6, .ref x6), (7, .int x7), (8, .int x8), (9, .int x9), (10, .int x10), (11, .int x11), (12, .int x12), (13, .int x13), (14, .int x14), (15, .int x15), (16, .int x16)] [] S) (hR84 : ∀ (x0 : Nat) (x1 : Nat) (x2 : Nat) (x3 : Nat) (x4 : Nat) (x5 : Int32) (x6 : Nat) (x7 : Int32) (x8 : Int32) (x9 : Int32) (x10 : Int32) (x11 : Int32) (x12 : Int32) (x13 : Int32) (x14 : Int32) (x15 : Int32) (x16 : Int32) (x17 : Int32) (x18 : Int32) (cd dd : Nat) (S : cS), R84 x0 x1 x2 x3 x4 x5 x6 x7 x8 x9 x10 x11 x12 x13 x14 x15 x16 x17 x18 cd dd S → cG p l e (cRm 10 mc ms 242) s m args below meth c A D Y 24 (MQ below (cQi post D Y A) args s mc ms A) cd dd 84 [(0, .ref x0), (1, .ref x1), (2, .ref x2), (3, .ref x3), (4, .ref x4), (5, .int x5), (6, .ref x6), (7, .int x7), (8, .int x8), (9, .int x9), (10, .int x10), (11, .int x11), (12, .int x12), (13, .int x13), (14, .int x14), (15, .int x15), (16, .int x16), (17, .int x17), (18, .int x18)] [] S) (x0 : Nat) (x1 : Nat) (x2 : Nat) (x3 : Nat) (x4 : Nat) (x5 : Int32) (x6 : Nat) (x7 : Int32) (x8 : Int32) (x9 : Int32) (x10 : Int32) (x11 : Int32) (x12 : Int32) (x14 : Int32) (x15 : Int32) (x16 : Int32) (x17 : Int32) (x18 : Int32) (x19 : Int64) (x22 : Int32) (x23 : Int32) (t0 : Int32) (cd dd : Nat) (S : cS) (h : k_L_isPlain_243 post dp mc ms R63 R84 x0 x1 x2 x3 x4 x5 x6 x7 x8 x9 x10 x11 x12 x14 x15 x16 x17 x18 x19 x22 x23 t0 cd dd S) : cG p l e (cRm 10 mc ms 242) s m args below meth c A D Y 24 (MQ below (cQi post D Y A) args s mc ms A) cd dd 243 [(0, .ref x0), (1, .ref x1), (2, .ref x2), (3, .ref x3), (4, .ref x4), (5, .int x5), (6, .ref x6), (7, .int x7), (8, .int x8), (9, .int x9), (10, .int x10), (11, .int x11), (12, .int x12), (14, .int x14), (15, .int x15), (16, .int x16), (17, .int x17), (18, .int x18), (19, .long x19), (22, .int x22), (23, .int x23)] [.int t0] S := by
  unfold k_L_isPlain_243 at h
  refine cg_istore C (lv' := [(13, .int t0), (0, .ref x0), (1, .ref x1), (2, .ref x2), (3, .ref x3), (4, .ref x4), (5, .int x5), (6, .ref x6), (7, .int x7), (8, .int x8), (9, .int x9), (10, .int x10), (11, .int x11), (12, .int x12), (14, .int x14), (15, .int x15), (16, .int x16), (17, .int x17), (18, .int x18), (19, .long x19), (22, .int x22), (23, .int x23)]) (Nat.le_of_ble_eq_true rfl) rfl dL_isPlain_243 ?_
  refine cg_iload C 20 rfl dL_isPlain_245 ?_
  refine cg_if_le C 272 (by decide) dL_isPlain_247 (fun c_ => ?_) (fun c_ => ?_)
  · have h := h.1 c_
    exact cg_sub [1, 2, 3, 4, 5, 6, 7, 8, 9, 10, 11, 12, 13, 0, 14, 15, 16, 17, 18, 20, 21] rfl (tb_L_isPlain_272 C  hR63 hR84 x0 x1 x2 x3 x4 x5 x6 x7 x8 x9 x10 x11 x12 t0 x14 x15 x16 x17 x18 x22 x23 cd dd S h)
  · have h := h.2 c_
    refine cg_iload C 15 rfl dL_isPlain_250 ?_
    refine cg_if_lt C 262 (by decide) dL_isPlain_252 (fun c_ => ?_) (fun c_ => ?_)
    · have h := h.1 c_
      exact cg_sub [1, 2, 3, 4, 5, 6, 7, 8, 9, 10, 11, 12, 13, 0, 14, 16, 17, 18, 19, 20, 21] rfl (tb_L_isPlain_262 C  hR63 hR84 x0 x1 x2 x3 x4 x5 x6 x7 x8 x9 x10 x11 x12 t0 x14 x16 x17 x18 x19 x22 x23 cd dd S h)
    · have h := h.2 c_
      refine cg_iload C 21 rfl dL_isPlain_255 ?_
      refine cg_iload C 14 rfl dL_isPlain_257 ?_
      refine cg_icmp_ge C 272 (by decide) dL_isPlain_259 (fun c_ => ?_) (fun c_ => ?_)
      · have h := h.1 c_
        exact cg_sub [1, 2, 3, 4, 5, 6, 7, 8, 9, 10, 11, 12, 13, 0, 14, 15, 16, 17, 18, 20, 21] rfl (tb_L_isPlain_272 C  hR63 hR84 x0 x1 x2 x3 x4 x5 x6 x7 x8 x9 x10 x11 x12 t0 x14 x15 x16 x17 x18 x22 x23 cd dd S h)
      · have h := h.2 c_
        exact cg_sub [1, 2, 3, 4, 5, 6, 7, 8, 9, 10, 11, 12, 13, 0, 14, 16, 17, 18, 19, 20, 21] rfl (tb_L_isPlain_262 C  hR63 hR84 x0 x1 x2 x3 x4 x5 x6 x7 x8 x9 x10 x11 x12 t0 x14 x16 x17 x18 x19 x22 x23 cd dd S h)
set_option maxRecDepth 20000 in
theorem tb_L_isPlain_241 {mc ms : Nat} (C : cC p s m args meth c cL_isPlain 24 (some .boolean) A D Y tp dp RL) {post : Int32 → cS → Prop} {R63 : Nat → Nat → Nat → Nat → Nat → Int32 → Nat → Int32 → Int32 → Int32 → Int32 → Int32 → Int32 → Int32 → Int32 → Int32 → Int32 → Nat → Nat → cS → Prop} {R84 : Nat → Nat → Nat → Nat → Nat → Int32 → Nat → Int32 → Int32 → Int32 → Int32 → Int32 → Int32 → Int32 → Int32 → Int32 → Int32 → Int32 → Int32 → Nat → Nat → cS → Prop} (hR63 : ∀ (x0 : Nat) (x1 : Nat) (x2 : Nat) (x3 : Nat) (x4 : Nat) (x5 : Int32) (x6 : Nat) (x7 : Int32) (x8 : Int32) (x9 : Int32) (x10 : Int32) (x11 : Int32) (x12 : Int32) (x13 : Int32) (x14 : Int32) (x15 : Int32) (x16 : Int32) (cd dd : Nat) (S : cS), R63 x0 x1 x2 x3 x4 x5 x6 x7 x8 x9 x10 x11 x12 x13 x14 x15 x16 cd dd S → cG p l e (cRm 10 mc ms 242) s m args below meth c A D Y 24 (MQ below (cQi post D Y A) args s mc ms A) cd dd 63 [(0, .ref x0), (1, .ref x1), (2, .ref x2), (3, .ref x3), (4, .ref x4), (5, .int x5), (6, .ref x6), (7, .int x7), (8, .int x8), (9, .int x9), (10, .int x10), (11, .int x11), (12, .int x12), (13, .int x13), (14, .int x14), (15, .int x15), (16, .int x16)] [] S) (hR84 : ∀ (x0 : Nat) (x1 : Nat) (x2 : Nat) (x3 : Nat) (x4 : Nat) (x5 : Int32) (x6 : Nat) (x7 : Int32) (x8 : Int32) (x9 : Int32) (x10 : Int32) (x11 : Int32) (x12 : Int32) (x13 : Int32) (x14 : Int32) (x15 : Int32) (x16 : Int32) (x17 : Int32) (x18 : Int32) (cd dd : Nat) (S : cS), R84 x0 x1 x2 x3 x4 x5 x6 x7 x8 x9 x10 x11 x12 x13 x14 x15 x16 x17 x18 cd dd S → cG p l e (cRm 10 mc ms 242) s m args below meth c A D Y 24 (MQ below (cQi post D Y A) args s mc ms A) cd dd 84 [(0, .ref x0), (1, .ref x1), (2, .ref x2), (3, .ref x3), (4, .ref x4), (5, .int x5), (6, .ref x6), (7, .int x7), (8, .int x8), (9, .int x9), (10, .int x10), (11, .int x11), (12, .int x12), (13, .int x13), (14, .int x14), (15, .int x15), (16, .int x16), (17, .int x17), (18, .int x18)] [] S) (x0 : Nat) (x1 : Nat) (x2 : Nat) (x3 : Nat) (x4 : Nat) (x5 : Int32) (x6 : Nat) (x7 : Int32) (x8 : Int32) (x9 : Int32) (x10 : Int32) (x11 : Int32) (x12 : Int32) (x13 : Int32) (x14 : Int32) (x15 : Int32) (x16 : Int32) (x17 : Int32) (x18 : Int32) (x19 : Int64) (x22 : Int32) (x23 : Int32) (cd dd : Nat) (S : cS) (h : k_L_isPlain_241 post dp mc ms R63 R84 x0 x1 x2 x3 x4 x5 x6 x7 x8 x9 x10 x11 x12 x13 x14 x15 x16 x17 x18 x19 x22 x23 cd dd S) : cG p l e (cRm 10 mc ms 242) s m args below meth c A D Y 24 (MQ below (cQi post D Y A) args s mc ms A) cd dd 241 [(0, .ref x0), (1, .ref x1), (2, .ref x2), (3, .ref x3), (4, .ref x4), (5, .int x5), (6, .ref x6), (7, .int x7), (8, .int x8), (9, .int x9), (10, .int x10), (11, .int x11), (12, .int x12), (13, .int x13), (14, .int x14), (15, .int x15), (16, .int x16), (17, .int x17), (18, .int x18), (19, .long x19), (22, .int x22), (23, .int x23)] [] S := by
  unfold k_L_isPlain_241 at h
  refine cg_iload C 13 rfl dL_isPlain_241 ?_
  exact cg_sub [0, 1, 2, 3, 4, 5, 6, 7, 8, 9, 10, 11, 12, 14, 15, 16, 17, 18, 19, 20, 21] rfl (tb_L_isPlain_243 C  hR63 hR84 x0 x1 x2 x3 x4 x5 x6 x7 x8 x9 x10 x11 x12 x14 x15 x16 x17 x18 x19 x22 x23 x13 cd dd S h)
set_option maxRecDepth 20000 in
theorem tb_L_isPlain_215 {mc ms : Nat} (C : cC p s m args meth c cL_isPlain 24 (some .boolean) A D Y tp dp RL) {post : Int32 → cS → Prop} {R63 : Nat → Nat → Nat → Nat → Nat → Int32 → Nat → Int32 → Int32 → Int32 → Int32 → Int32 → Int32 → Int32 → Int32 → Int32 → Int32 → Nat → Nat → cS → Prop} {R84 : Nat → Nat → Nat → Nat → Nat → Int32 → Nat → Int32 → Int32 → Int32 → Int32 → Int32 → Int32 → Int32 → Int32 → Int32 → Int32 → Int32 → Int32 → Nat → Nat → cS → Prop} (hR63 : ∀ (x0 : Nat) (x1 : Nat) (x2 : Nat) (x3 : Nat) (x4 : Nat) (x5 : Int32) (x6 : Nat) (x7 : Int32) (x8 : Int32) (x9 : Int32) (x10 : Int32) (x11 : Int32) (x12 : Int32) (x13 : Int32) (x14 : Int32) (x15 : Int32) (x16 : Int32) (cd dd : Nat) (S : cS), R63 x0 x1 x2 x3 x4 x5 x6 x7 x8 x9 x10 x11 x12 x13 x14 x15 x16 cd dd S → cG p l e (cRm 10 mc ms 242) s m args below meth c A D Y 24 (MQ below (cQi post D Y A) args s mc ms A) cd dd 63 [(0, .ref x0), (1, .ref x1), (2, .ref x2), (3, .ref x3), (4, .ref x4), (5, .int x5), (6, .ref x6), (7, .int x7), (8, .int x8), (9, .int x9), (10, .int x10), (11, .int x11), (12, .int x12), (13, .int x13), (14, .int x14), (15, .int x15), (16, .int x16)] [] S) (hR84 : ∀ (x0 : Nat) (x1 : Nat) (x2 : Nat) (x3 : Nat) (x4 : Nat) (x5 : Int32) (x6 : Nat) (x7 : Int32) (x8 : Int32) (x9 : Int32) (x10 : Int32) (x11 : Int32) (x12 : Int32) (x13 : Int32) (x14 : Int32) (x15 : Int32) (x16 : Int32) (x17 : Int32) (x18 : Int32) (cd dd : Nat) (S : cS), R84 x0 x1 x2 x3 x4 x5 x6 x7 x8 x9 x10 x11 x12 x13 x14 x15 x16 x17 x18 cd dd S → cG p l e (cRm 10 mc ms 242) s m args below meth c A D Y 24 (MQ below (cQi post D Y A) args s mc ms A) cd dd 84 [(0, .ref x0), (1, .ref x1), (2, .ref x2), (3, .ref x3), (4, .ref x4), (5, .int x5), (6, .ref x6), (7, .int x7), (8, .int x8), (9, .int x9), (10, .int x10), (11, .int x11), (12, .int x12), (13, .int x13), (14, .int x14), (15, .int x15), (16, .int x16), (17, .int x17), (18, .int x18)] [] S) (x0 : Nat) (x1 : Nat) (x2 : Nat) (x3 : Nat) (x4 : Nat) (x5 : Int32) (x6 : Nat) (x7 : Int32) (x8 : Int32) (x9 : Int32) (x10 : Int32) (x11 : Int32) (x13 : Int32) (x14 : Int32) (x15 : Int32) (x16 : Int32) (x17 : Int32) (x18 : Int32) (x19 : Int64) (x22 : Int32) (x23 : Int32) (t0 : Int32) (t1 : Int32) (cd dd : Nat) (S : cS) (h : k_L_isPlain_215 post dp mc ms R63 R84 x0 x1 x2 x3 x4 x5 x6 x7 x8 x9 x10 x11 x13 x14 x15 x16 x17 x18 x19 x22 x23 t0 t1 cd dd S) : cG p l e (cRm 10 mc ms 242) s m args below meth c A D Y 24 (MQ below (cQi post D Y A) args s mc ms A) cd dd 215 [(0, .ref x0), (1, .ref x1), (2, .ref x2), (3, .ref x3), (4, .ref x4), (5, .int x5), (6, .ref x6), (7, .int x7), (8, .int x8), (9, .int x9), (10, .int x10), (11, .int x11), (13, .int x13), (14, .int x14), (15, .int x15), (16, .int x16), (17, .int x17), (18, .int x18), (19, .long x19), (22, .int x22), (23, .int x23)] [.int t0, .int t1] S := by
  unfold k_L_isPlain_215 at h
  refine cg_iadd C dL_isPlain_215 ?_
  refine cg_nmI (fun x12_31 e_x12_31 => ?_)
  have h := h x12_31 e_x12_31
  refine cg_istore C (lv' := [(12, .int x12_31), (0, .ref x0), (1, .ref x1), (2, .ref x2), (3, .ref x3), (4, .ref x4), (5, .int x5), (6, .ref x6), (7, .int x7), (8, .int x8), (9, .int x9), (10, .int x10), (11, .int x11), (13, .int x13), (14, .int x14), (15, .int x15), (16, .int x16), (17, .int x17), (18, .int x18), (19, .long x19), (22, .int x22), (23, .int x23)]) (Nat.le_of_ble_eq_true rfl) rfl dL_isPlain_216 ?_
  refine cg_iload C 20 rfl dL_isPlain_218 ?_
  refine cg_if_le C 241 (by decide) dL_isPlain_220 (fun c_ => ?_) (fun c_ => ?_)
  · have h := h.1 c_
    exact cg_sub [1, 2, 3, 4, 5, 6, 7, 8, 9, 10, 11, 12, 0, 13, 14, 15, 16, 17, 18, 19, 20, 21] rfl (tb_L_isPlain_241 C  hR63 hR84 x0 x1 x2 x3 x4 x5 x6 x7 x8 x9 x10 x11 x12_31 x13 x14 x15 x16 x17 x18 x19 x22 x23 cd dd S h)
  · have h := h.2 c_
    refine cg_lload C 19 rfl dL_isPlain_223 ?_
    refine cg_ldc2 C (x := 15) ck_L_9 dL_isPlain_225 ?_
    refine cg_land C dL_isPlain_228 ?_
    refine cg_iload C 9 rfl dL_isPlain_229 ?_
    refine cg_i2l C dL_isPlain_231 ?_
    refine cg_lcmp C dL_isPlain_232 ?_
    refine cg_if_neL C 241 (by decide) dL_isPlain_233 (fun c_ => ?_) (fun c_ => ?_)
    · have h := h.1 c_
      exact cg_sub [1, 2, 3, 4, 5, 6, 7, 8, 9, 10, 11, 12, 0, 13, 14, 15, 16, 17, 18, 19, 20, 21] rfl (tb_L_isPlain_241 C  hR63 hR84 x0 x1 x2 x3 x4 x5 x6 x7 x8 x9 x10 x11 x12_31 x13 x14 x15 x16 x17 x18 x19 x22 x23 cd dd S h)
    · have h := h.2 c_
      refine cg_iload C 20 rfl dL_isPlain_236 ?_
      refine cg_goto C 243 (by decide) dL_isPlain_238 ?_
      exact cg_sub [1, 2, 3, 4, 5, 6, 7, 8, 9, 10, 11, 12, 0, 14, 15, 16, 17, 18, 19, 20, 21] rfl (tb_L_isPlain_243 C  hR63 hR84 x0 x1 x2 x3 x4 x5 x6 x7 x8 x9 x10 x11 x12_31 x14 x15 x16 x17 x18 x19 x22 x23 x22 cd dd S h)
set_option maxRecDepth 20000 in
theorem tb_L_isPlain_214 {mc ms : Nat} (C : cC p s m args meth c cL_isPlain 24 (some .boolean) A D Y tp dp RL) {post : Int32 → cS → Prop} {R63 : Nat → Nat → Nat → Nat → Nat → Int32 → Nat → Int32 → Int32 → Int32 → Int32 → Int32 → Int32 → Int32 → Int32 → Int32 → Int32 → Nat → Nat → cS → Prop} {R84 : Nat → Nat → Nat → Nat → Nat → Int32 → Nat → Int32 → Int32 → Int32 → Int32 → Int32 → Int32 → Int32 → Int32 → Int32 → Int32 → Int32 → Int32 → Nat → Nat → cS → Prop} (hR63 : ∀ (x0 : Nat) (x1 : Nat) (x2 : Nat) (x3 : Nat) (x4 : Nat) (x5 : Int32) (x6 : Nat) (x7 : Int32) (x8 : Int32) (x9 : Int32) (x10 : Int32) (x11 : Int32) (x12 : Int32) (x13 : Int32) (x14 : Int32) (x15 : Int32) (x16 : Int32) (cd dd : Nat) (S : cS), R63 x0 x1 x2 x3 x4 x5 x6 x7 x8 x9 x10 x11 x12 x13 x14 x15 x16 cd dd S → cG p l e (cRm 10 mc ms 242) s m args below meth c A D Y 24 (MQ below (cQi post D Y A) args s mc ms A) cd dd 63 [(0, .ref x0), (1, .ref x1), (2, .ref x2), (3, .ref x3), (4, .ref x4), (5, .int x5), (6, .ref x6), (7, .int x7), (8, .int x8), (9, .int x9), (10, .int x10), (11, .int x11), (12, .int x12), (13, .int x13), (14, .int x14), (15, .int x15), (16, .int x16)] [] S) (hR84 : ∀ (x0 : Nat) (x1 : Nat) (x2 : Nat) (x3 : Nat) (x4 : Nat) (x5 : Int32) (x6 : Nat) (x7 : Int32) (x8 : Int32) (x9 : Int32) (x10 : Int32) (x11 : Int32) (x12 : Int32) (x13 : Int32) (x14 : Int32) (x15 : Int32) (x16 : Int32) (x17 : Int32) (x18 : Int32) (cd dd : Nat) (S : cS), R84 x0 x1 x2 x3 x4 x5 x6 x7 x8 x9 x10 x11 x12 x13 x14 x15 x16 x17 x18 cd dd S → cG p l e (cRm 10 mc ms 242) s m args below meth c A D Y 24 (MQ below (cQi post D Y A) args s mc ms A) cd dd 84 [(0, .ref x0), (1, .ref x1), (2, .ref x2), (3, .ref x3), (4, .ref x4), (5, .int x5), (6, .ref x6), (7, .int x7), (8, .int x8), (9, .int x9), (10, .int x10), (11, .int x11), (12, .int x12), (13, .int x13), (14, .int x14), (15, .int x15), (16, .int x16), (17, .int x17), (18, .int x18)] [] S) (x0 : Nat) (x1 : Nat) (x2 : Nat) (x3 : Nat) (x4 : Nat) (x5 : Int32) (x6 : Nat) (x7 : Int32) (x8 : Int32) (x9 : Int32) (x10 : Int32) (x11 : Int32) (x13 : Int32) (x14 : Int32) (x15 : Int32) (x16 : Int32) (x17 : Int32) (x18 : Int32) (x19 : Int64) (x22 : Int32) (x23 : Int32) (t0 : Int32) (cd dd : Nat) (S : cS) (h : k_L_isPlain_214 post dp mc ms R63 R84 x0 x1 x2 x3 x4 x5 x6 x7 x8 x9 x10 x11 x13 x14 x15 x16 x17 x18 x19 x22 x23 t0 cd dd S) : cG p l e (cRm 10 mc ms 242) s m args below meth c A D Y 24 (MQ below (cQi post D Y A) args s mc ms A) cd dd 214 [(0, .ref x0), (1, .ref x1), (2, .ref x2), (3, .ref x3), (4, .ref x4), (5, .int x5), (6, .ref x6), (7, .int x7), (8, .int x8), (9, .int x9), (10, .int x10), (11, .int x11), (13, .int x13), (14, .int x14), (15, .int x15), (16, .int x16), (17, .int x17), (18, .int x18), (19, .long x19), (22, .int x22), (23, .int x23)] [.int t0] S := by
  unfold k_L_isPlain_214 at h
  refine cg_iconst C (x := nI 0) rfl dL_isPlain_214 ?_
  exact cg_sub [0, 1, 2, 3, 4, 5, 6, 7, 8, 9, 10, 11, 12, 13, 14, 15, 16, 17, 18, 19, 20] rfl (tb_L_isPlain_215 C  hR63 hR84 x0 x1 x2 x3 x4 x5 x6 x7 x8 x9 x10 x11 x13 x14 x15 x16 x17 x18 x19 x22 x23 ((nI 0)) t0 cd dd S h)
set_option maxRecDepth 20000 in
theorem tb_L_isPlain_184 {mc ms : Nat} (C : cC p s m args meth c cL_isPlain 24 (some .boolean) A D Y tp dp RL) {post : Int32 → cS → Prop} {R63 : Nat → Nat → Nat → Nat → Nat → Int32 → Nat → Int32 → Int32 → Int32 → Int32 → Int32 → Int32 → Int32 → Int32 → Int32 → Int32 → Nat → Nat → cS → Prop} {R84 : Nat → Nat → Nat → Nat → Nat → Int32 → Nat → Int32 → Int32 → Int32 → Int32 → Int32 → Int32 → Int32 → Int32 → Int32 → Int32 → Int32 → Int32 → Nat → Nat → cS → Prop} (hR63 : ∀ (x0 : Nat) (x1 : Nat) (x2 : Nat) (x3 : Nat) (x4 : Nat) (x5 : Int32) (x6 : Nat) (x7 : Int32) (x8 : Int32) (x9 : Int32) (x10 : Int32) (x11 : Int32) (x12 : Int32) (x13 : Int32) (x14 : Int32) (x15 : Int32) (x16 : Int32) (cd dd : Nat) (S : cS), R63 x0 x1 x2 x3 x4 x5 x6 x7 x8 x9 x10 x11 x12 x13 x14 x15 x16 cd dd S → cG p l e (cRm 10 mc ms 242) s m args below meth c A D Y 24 (MQ below (cQi post D Y A) args s mc ms A) cd dd 63 [(0, .ref x0), (1, .ref x1), (2, .ref x2), (3, .ref x3), (4, .ref x4), (5, .int x5), (6, .ref x6), (7, .int x7), (8, .int x8), (9, .int x9), (10, .int x10), (11, .int x11), (12, .int x12), (13, .int x13), (14, .int x14), (15, .int x15), (16, .int x16)] [] S) (hR84 : ∀ (x0 : Nat) (x1 : Nat) (x2 : Nat) (x3 : Nat) (x4 : Nat) (x5 : Int32) (x6 : Nat) (x7 : Int32) (x8 : Int32) (x9 : Int32) (x10 : Int32) (x11 : Int32) (x12 : Int32) (x13 : Int32) (x14 : Int32) (x15 : Int32) (x16 : Int32) (x17 : Int32) (x18 : Int32) (cd dd : Nat) (S : cS), R84 x0 x1 x2 x3 x4 x5 x6 x7 x8 x9 x10 x11 x12 x13 x14 x15 x16 x17 x18 cd dd S → cG p l e (cRm 10 mc ms 242) s m args below meth c A D Y 24 (MQ below (cQi post D Y A) args s mc ms A) cd dd 84 [(0, .ref x0), (1, .ref x1), (2, .ref x2), (3, .ref x3), (4, .ref x4), (5, .int x5), (6, .ref x6), (7, .int x7), (8, .int x8), (9, .int x9), (10, .int x10), (11, .int x11), (12, .int x12), (13, .int x13), (14, .int x14), (15, .int x15), (16, .int x16), (17, .int x17), (18, .int x18)] [] S) (x0 : Nat) (x1 : Nat) (x2 : Nat) (x3 : Nat) (x4 : Nat) (x5 : Int32) (x6 : Nat) (x7 : Int32) (x8 : Int32) (x9 : Int32) (x10 : Int32) (x12 : Int32) (x13 : Int32) (x14 : Int32) (x15 : Int32) (x16 : Int32) (x17 : Int32) (x18 : Int32) (x19 : Int64) (x22 : Int32) (x23 : Int32) (t0 : Int32) (t1 : Int32) (cd dd : Nat) (S : cS) (h : k_L_isPlain_184 post dp mc ms R63 R84 x0 x1 x2 x3 x4 x5 x6 x7 x8 x9 x10 x12 x13 x14 x15 x16 x17 x18 x19 x22 x23 t0 t1 cd dd S) : cG p l e (cRm 10 mc ms 242) s m args below meth c A D Y 24 (MQ below (cQi post D Y A) args s mc ms A) cd dd 184 [(0, .ref x0), (1, .ref x1), (2, .ref x2), (3, .ref x3), (4, .ref x4), (5, .int x5), (6, .ref x6), (7, .int x7), (8, .int x8), (9, .int x9), (10, .int x10), (12, .int x12), (13, .int x13), (14, .int x14), (15, .int x15), (16, .int x16), (17, .int x17), (18, .int x18), (19, .long x19), (22, .int x22), (23, .int x23)] [.int t0, .int t1] S := by
  unfold k_L_isPlain_184 at h
  refine cg_iadd C dL_isPlain_184 ?_
  refine cg_nmI (fun x11_30 e_x11_30 => ?_)
  have h := h x11_30 e_x11_30
  refine cg_istore C (lv' := [(11, .int x11_30), (0, .ref x0), (1, .ref x1), (2, .ref x2), (3, .ref x3), (4, .ref x4), (5, .int x5), (6, .ref x6), (7, .int x7), (8, .int x8), (9, .int x9), (10, .int x10), (12, .int x12), (13, .int x13), (14, .int x14), (15, .int x15), (16, .int x16), (17, .int x17), (18, .int x18), (19, .long x19), (22, .int x22), (23, .int x23)]) (Nat.le_of_ble_eq_true rfl) rfl dL_isPlain_185 ?_
  refine cg_iload C 12 rfl dL_isPlain_187 ?_
  refine cg_iload C 20 rfl dL_isPlain_189 ?_
  refine cg_if_le C 214 (by decide) dL_isPlain_191 (fun c_ => ?_) (fun c_ => ?_)
  · have h := h.1 c_
    exact cg_sub [1, 2, 3, 4, 5, 6, 7, 8, 9, 10, 11, 0, 13, 14, 15, 16, 17, 18, 19, 20, 21] rfl (tb_L_isPlain_214 C  hR63 hR84 x0 x1 x2 x3 x4 x5 x6 x7 x8 x9 x10 x11_30 x13 x14 x15 x16 x17 x18 x19 x22 x23 x12 cd dd S h)
  · have h := h.2 c_
    refine cg_lload C 19 rfl dL_isPlain_194 ?_
    refine cg_bipush C (x := nI 44) rfl dL_isPlain_196 ?_
    refine cg_lushr C dL_isPlain_198 ?_
    refine cg_ldc2 C (x := 15) ck_L_9 dL_isPlain_199 ?_
    refine cg_land C dL_isPlain_202 ?_
    refine cg_iload C 10 rfl dL_isPlain_203 ?_
    refine cg_i2l C dL_isPlain_205 ?_
    refine cg_lcmp C dL_isPlain_206 ?_
    refine cg_if_neL C 214 (by decide) dL_isPlain_207 (fun c_ => ?_) (fun c_ => ?_)
    · have h := h.1 c_
      exact cg_sub [1, 2, 3, 4, 5, 6, 7, 8, 9, 10, 11, 0, 13, 14, 15, 16, 17, 18, 19, 20, 21] rfl (tb_L_isPlain_214 C  hR63 hR84 x0 x1 x2 x3 x4 x5 x6 x7 x8 x9 x10 x11_30 x13 x14 x15 x16 x17 x18 x19 x22 x23 x12 cd dd S h)
    · have h := h.2 c_
      refine cg_iconst C (x := nI 1) rfl dL_isPlain_210 ?_
      refine cg_goto C 215 (by decide) dL_isPlain_211 ?_
      exact cg_sub [1, 2, 3, 4, 5, 6, 7, 8, 9, 10, 11, 0, 13, 14, 15, 16, 17, 18, 19, 20, 21] rfl (tb_L_isPlain_215 C  hR63 hR84 x0 x1 x2 x3 x4 x5 x6 x7 x8 x9 x10 x11_30 x13 x14 x15 x16 x17 x18 x19 x22 x23 ((nI 1)) x12 cd dd S h)
set_option maxRecDepth 20000 in
theorem tb_L_isPlain_169 {mc ms : Nat} (C : cC p s m args meth c cL_isPlain 24 (some .boolean) A D Y tp dp RL) {post : Int32 → cS → Prop} {R63 : Nat → Nat → Nat → Nat → Nat → Int32 → Nat → Int32 → Int32 → Int32 → Int32 → Int32 → Int32 → Int32 → Int32 → Int32 → Int32 → Nat → Nat → cS → Prop} {R84 : Nat → Nat → Nat → Nat → Nat → Int32 → Nat → Int32 → Int32 → Int32 → Int32 → Int32 → Int32 → Int32 → Int32 → Int32 → Int32 → Int32 → Int32 → Nat → Nat → cS → Prop} (hR63 : ∀ (x0 : Nat) (x1 : Nat) (x2 : Nat) (x3 : Nat) (x4 : Nat) (x5 : Int32) (x6 : Nat) (x7 : Int32) (x8 : Int32) (x9 : Int32) (x10 : Int32) (x11 : Int32) (x12 : Int32) (x13 : Int32) (x14 : Int32) (x15 : Int32) (x16 : Int32) (cd dd : Nat) (S : cS), R63 x0 x1 x2 x3 x4 x5 x6 x7 x8 x9 x10 x11 x12 x13 x14 x15 x16 cd dd S → cG p l e (cRm 10 mc ms 242) s m args below meth c A D Y 24 (MQ below (cQi post D Y A) args s mc ms A) cd dd 63 [(0, .ref x0), (1, .ref x1), (2, .ref x2), (3, .ref x3), (4, .ref x4), (5, .int x5), (6, .ref x6), (7, .int x7), (8, .int x8), (9, .int x9), (10, .int x10), (11, .int x11), (12, .int x12), (13, .int x13), (14, .int x14), (15, .int x15), (16, .int x16)] [] S) (hR84 : ∀ (x0 : Nat) (x1 : Nat) (x2 : Nat) (x3 : Nat) (x4 : Nat) (x5 : Int32) (x6 : Nat) (x7 : Int32) (x8 : Int32) (x9 : Int32) (x10 : Int32) (x11 : Int32) (x12 : Int32) (x13 : Int32) (x14 : Int32) (x15 : Int32) (x16 : Int32) (x17 : Int32) (x18 : Int32) (cd dd : Nat) (S : cS), R84 x0 x1 x2 x3 x4 x5 x6 x7 x8 x9 x10 x11 x12 x13 x14 x15 x16 x17 x18 cd dd S → cG p l e (cRm 10 mc ms 242) s m args below meth c A D Y 24 (MQ below (cQi post D Y A) args s mc ms A) cd dd 84 [(0, .ref x0), (1, .ref x1), (2, .ref x2), (3, .ref x3), (4, .ref x4), (5, .int x5), (6, .ref x6), (7, .int x7), (8, .int x8), (9, .int x9), (10, .int x10), (11, .int x11), (12, .int x12), (13, .int x13), (14, .int x14), (15, .int x15), (16, .int x16), (17, .int x17), (18, .int x18)] [] S) (x0 : Nat) (x1 : Nat) (x2 : Nat) (x3 : Nat) (x4 : Nat) (x5 : Int32) (x6 : Nat) (x7 : Int32) (x8 : Int32) (x9 : Int32) (x11 : Int32) (x12 : Int32) (x13 : Int32) (x14 : Int32) (x15 : Int32) (x16 : Int32) (x17 : Int32) (x18 : Int32) (x19 : Int64) (x22 : Int32) (x23 : Int32) (t0 : Int32) (t1 : Int32) (cd dd : Nat) (S : cS) (h : k_L_isPlain_169 post dp mc ms R63 R84 x0 x1 x2 x3 x4 x5 x6 x7 x8 x9 x11 x12 x13 x14 x15 x16 x17 x18 x19 x22 x23 t0 t1 cd dd S) : cG p l e (cRm 10 mc ms 242) s m args below meth c A D Y 24 (MQ below (cQi post D Y A) args s mc ms A) cd dd 169 [(0, .ref x0), (1, .ref x1), (2, .ref x2), (3, .ref x3), (4, .ref x4), (5, .int x5), (6, .ref x6), (7, .int x7), (8, .int x8), (9, .int x9), (11, .int x11), (12, .int x12), (13, .int x13), (14, .int x14), (15, .int x15), (16, .int x16), (17, .int x17), (18, .int x18), (19, .long x19), (22, .int x22), (23, .int x23)] [.int t0, .int t1] S := by
  unfold k_L_isPlain_169 at h
  refine cg_iadd C dL_isPlain_169 ?_
  refine cg_nmI (fun x10_29 e_x10_29 => ?_)
  have h := h x10_29 e_x10_29
  refine cg_istore C (lv' := [(10, .int x10_29), (0, .ref x0), (1, .ref x1), (2, .ref x2), (3, .ref x3), (4, .ref x4), (5, .int x5), (6, .ref x6), (7, .int x7), (8, .int x8), (9, .int x9), (11, .int x11), (12, .int x12), (13, .int x13), (14, .int x14), (15, .int x15), (16, .int x16), (17, .int x17), (18, .int x18), (19, .long x19), (22, .int x22), (23, .int x23)]) (Nat.le_of_ble_eq_true rfl) rfl dL_isPlain_170 ?_
  refine cg_iload C 11 rfl dL_isPlain_172 ?_
  refine cg_iload C 20 rfl dL_isPlain_174 ?_
  refine cg_if_le C 183 (by decide) dL_isPlain_176 (fun c_ => ?_) (fun c_ => ?_)
  · have h := h.1 c_
    refine cg_iconst C (x := nI 0) rfl dL_isPlain_183 ?_
    exact cg_sub [1, 2, 3, 4, 5, 6, 7, 8, 9, 10, 0, 12, 13, 14, 15, 16, 17, 18, 19, 20, 21] rfl (tb_L_isPlain_184 C  hR63 hR84 x0 x1 x2 x3 x4 x5 x6 x7 x8 x9 x10_29 x12 x13 x14 x15 x16 x17 x18 x19 x22 x23 ((nI 0)) x11 cd dd S h)
  · have h := h.2 c_
    refine cg_iconst C (x := nI 1) rfl dL_isPlain_179 ?_
    refine cg_goto C 184 (by decide) dL_isPlain_180 ?_
    exact cg_sub [1, 2, 3, 4, 5, 6, 7, 8, 9, 10, 0, 12, 13, 14, 15, 16, 17, 18, 19, 20, 21] rfl (tb_L_isPlain_184 C  hR63 hR84 x0 x1 x2 x3 x4 x5 x6 x7 x8 x9 x10_29 x12 x13 x14 x15 x16 x17 x18 x19 x22 x23 ((nI 1)) x11 cd dd S h)
set_option maxRecDepth 20000 in
theorem tb_L_isPlain_147 {mc ms : Nat} (C : cC p s m args meth c cL_isPlain 24 (some .boolean) A D Y tp dp RL) {post : Int32 → cS → Prop} {R63 : Nat → Nat → Nat → Nat → Nat → Int32 → Nat → Int32 → Int32 → Int32 → Int32 → Int32 → Int32 → Int32 → Int32 → Int32 → Int32 → Nat → Nat → cS → Prop} {R84 : Nat → Nat → Nat → Nat → Nat → Int32 → Nat → Int32 → Int32 → Int32 → Int32 → Int32 → Int32 → Int32 → Int32 → Int32 → Int32 → Int32 → Int32 → Nat → Nat → cS → Prop} (hR63 : ∀ (x0 : Nat) (x1 : Nat) (x2 : Nat) (x3 : Nat) (x4 : Nat) (x5 : Int32) (x6 : Nat) (x7 : Int32) (x8 : Int32) (x9 : Int32) (x10 : Int32) (x11 : Int32) (x12 : Int32) (x13 : Int32) (x14 : Int32) (x15 : Int32) (x16 : Int32) (cd dd : Nat) (S : cS), R63 x0 x1 x2 x3 x4 x5 x6 x7 x8 x9 x10 x11 x12 x13 x14 x15 x16 cd dd S → cG p l e (cRm 10 mc ms 242) s m args below meth c A D Y 24 (MQ below (cQi post D Y A) args s mc ms A) cd dd 63 [(0, .ref x0), (1, .ref x1), (2, .ref x2), (3, .ref x3), (4, .ref x4), (5, .int x5), (6, .ref x6), (7, .int x7), (8, .int x8), (9, .int x9), (10, .int x10), (11, .int x11), (12, .int x12), (13, .int x13), (14, .int x14), (15, .int x15), (16, .int x16)] [] S) (hR84 : ∀ (x0 : Nat) (x1 : Nat) (x2 : Nat) (x3 : Nat) (x4 : Nat) (x5 : Int32) (x6 : Nat) (x7 : Int32) (x8 : Int32) (x9 : Int32) (x10 : Int32) (x11 : Int32) (x12 : Int32) (x13 : Int32) (x14 : Int32) (x15 : Int32) (x16 : Int32) (x17 : Int32) (x18 : Int32) (cd dd : Nat) (S : cS), R84 x0 x1 x2 x3 x4 x5 x6 x7 x8 x9 x10 x11 x12 x13 x14 x15 x16 x17 x18 cd dd S → cG p l e (cRm 10 mc ms 242) s m args below meth c A D Y 24 (MQ below (cQi post D Y A) args s mc ms A) cd dd 84 [(0, .ref x0), (1, .ref x1), (2, .ref x2), (3, .ref x3), (4, .ref x4), (5, .int x5), (6, .ref x6), (7, .int x7), (8, .int x8), (9, .int x9), (10, .int x10), (11, .int x11), (12, .int x12), (13, .int x13), (14, .int x14), (15, .int x15), (16, .int x16), (17, .int x17), (18, .int x18)] [] S) (x0 : Nat) (x1 : Nat) (x2 : Nat) (x3 : Nat) (x4 : Nat) (x5 : Int32) (x6 : Nat) (x7 : Int32) (x8 : Int32) (x9 : Int32) (x10 : Int32) (x11 : Int32) (x12 : Int32) (x13 : Int32) (x14 : Int32) (x15 : Int32) (x16 : Int32) (x17 : Int32) (x18 : Int32) (x19 : Int64) (x21 : Int32) (t0 : Int32) (cd dd : Nat) (S : cS) (h : k_L_isPlain_147 post dp mc ms R63 R84 x0 x1 x2 x3 x4 x5 x6 x7 x8 x9 x10 x11 x12 x13 x14 x15 x16 x17 x18 x19 x21 t0 cd dd S) : cG p l e (cRm 10 mc ms 242) s m args below meth c A D Y 24 (MQ below (cQi post D Y A) args s mc ms A) cd dd 147 [(0, .ref x0), (1, .ref x1), (2, .ref x2), (3, .ref x3), (4, .ref x4), (5, .int x5), (6, .ref x6), (7, .int x7), (8, .int x8), (9, .int x9), (10, .int x10), (11, .int x11), (12, .int x12), (13, .int x13), (14, .int x14), (15, .int x15), (16, .int x16), (17, .int x17), (18, .int x18), (19, .long x19), (21, .int x21)] [.int t0] S := by
  unfold k_L_isPlain_147 at h
  refine cg_istore C (lv' := [(22, .int t0), (0, .ref x0), (1, .ref x1), (2, .ref x2), (3, .ref x3), (4, .ref x4), (5, .int x5), (6, .ref x6), (7, .int x7), (8, .int x8), (9, .int x9), (10, .int x10), (11, .int x11), (12, .int x12), (13, .int x13), (14, .int x14), (15, .int x15), (16, .int x16), (17, .int x17), (18, .int x18), (19, .long x19), (21, .int x21)]) (Nat.le_of_ble_eq_true rfl) rfl dL_isPlain_147 ?_
  refine cg_lload C 20 rfl dL_isPlain_149 ?_
  refine cg_bipush C (x := nI 48) rfl dL_isPlain_151 ?_
  refine cg_lushr C dL_isPlain_153 ?_
  refine cg_l2i C dL_isPlain_154 ?_
  refine cg_nmI (fun x23_28 e_x23_28 => ?_)
  have h := h x23_28 e_x23_28
  refine cg_istore C (lv' := [(23, .int x23_28), (22, .int t0), (0, .ref x0), (1, .ref x1), (2, .ref x2), (3, .ref x3), (4, .ref x4), (5, .int x5), (6, .ref x6), (7, .int x7), (8, .int x8), (9, .int x9), (10, .int x10), (11, .int x11), (12, .int x12), (13, .int x13), (14, .int x14), (15, .int x15), (16, .int x16), (17, .int x17), (18, .int x18), (19, .long x19), (21, .int x21)]) (Nat.le_of_ble_eq_true rfl) rfl dL_isPlain_155 ?_
  refine cg_iload C 12 rfl dL_isPlain_157 ?_
  refine cg_iload C 22 rfl dL_isPlain_159 ?_
  refine cg_if_eq C 168 (by decide) dL_isPlain_161 (fun c_ => ?_) (fun c_ => ?_)
  · have h := h.1 c_
    refine cg_iconst C (x := nI 0) rfl dL_isPlain_168 ?_
    exact cg_sub [2, 3, 4, 5, 6, 7, 8, 9, 10, 11, 13, 14, 15, 16, 17, 18, 19, 20, 21, 1, 0] rfl (tb_L_isPlain_169 C  hR63 hR84 x0 x1 x2 x3 x4 x5 x6 x7 x8 x9 x11 x12 x13 x14 x15 x16 x17 x18 x19 t0 x23_28 ((nI 0)) x10 cd dd S h)
  · have h := h.2 c_
    refine cg_iconst C (x := nI 1) rfl dL_isPlain_164 ?_
    refine cg_goto C 169 (by decide) dL_isPlain_165 ?_
    exact cg_sub [2, 3, 4, 5, 6, 7, 8, 9, 10, 11, 13, 14, 15, 16, 17, 18, 19, 20, 21, 1, 0] rfl (tb_L_isPlain_169 C  hR63 hR84 x0 x1 x2 x3 x4 x5 x6 x7 x8 x9 x11 x12 x13 x14 x15 x16 x17 x18 x19 t0 x23_28 ((nI 1)) x10 cd dd S h)
set_option maxRecDepth 20000 in
theorem tb_L_isPlain_127 {mc ms : Nat} (C : cC p s m args meth c cL_isPlain 24 (some .boolean) A D Y tp dp RL) {post : Int32 → cS → Prop} {R63 : Nat → Nat → Nat → Nat → Nat → Int32 → Nat → Int32 → Int32 → Int32 → Int32 → Int32 → Int32 → Int32 → Int32 → Int32 → Int32 → Nat → Nat → cS → Prop} {R84 : Nat → Nat → Nat → Nat → Nat → Int32 → Nat → Int32 → Int32 → Int32 → Int32 → Int32 → Int32 → Int32 → Int32 → Int32 → Int32 → Int32 → Int32 → Nat → Nat → cS → Prop} (hR63 : ∀ (x0 : Nat) (x1 : Nat) (x2 : Nat) (x3 : Nat) (x4 : Nat) (x5 : Int32) (x6 : Nat) (x7 : Int32) (x8 : Int32) (x9 : Int32) (x10 : Int32) (x11 : Int32) (x12 : Int32) (x13 : Int32) (x14 : Int32) (x15 : Int32) (x16 : Int32) (cd dd : Nat) (S : cS), R63 x0 x1 x2 x3 x4 x5 x6 x7 x8 x9 x10 x11 x12 x13 x14 x15 x16 cd dd S → cG p l e (cRm 10 mc ms 242) s m args below meth c A D Y 24 (MQ below (cQi post D Y A) args s mc ms A) cd dd 63 [(0, .ref x0), (1, .ref x1), (2, .ref x2), (3, .ref x3), (4, .ref x4), (5, .int x5), (6, .ref x6), (7, .int x7), (8, .int x8), (9, .int x9), (10, .int x10), (11, .int x11), (12, .int x12), (13, .int x13), (14, .int x14), (15, .int x15), (16, .int x16)] [] S) (hR84 : ∀ (x0 : Nat) (x1 : Nat) (x2 : Nat) (x3 : Nat) (x4 : Nat) (x5 : Int32) (x6 : Nat) (x7 : Int32) (x8 : Int32) (x9 : Int32) (x10 : Int32) (x11 : Int32) (x12 : Int32) (x13 : Int32) (x14 : Int32) (x15 : Int32) (x16 : Int32) (x17 : Int32) (x18 : Int32) (cd dd : Nat) (S : cS), R84 x0 x1 x2 x3 x4 x5 x6 x7 x8 x9 x10 x11 x12 x13 x14 x15 x16 x17 x18 cd dd S → cG p l e (cRm 10 mc ms 242) s m args below meth c A D Y 24 (MQ below (cQi post D Y A) args s mc ms A) cd dd 84 [(0, .ref x0), (1, .ref x1), (2, .ref x2), (3, .ref x3), (4, .ref x4), (5, .int x5), (6, .ref x6), (7, .int x7), (8, .int x8), (9, .int x9), (10, .int x10), (11, .int x11), (12, .int x12), (13, .int x13), (14, .int x14), (15, .int x15), (16, .int x16), (17, .int x17), (18, .int x18)] [] S) (x0 : Nat) (x1 : Nat) (x2 : Nat) (x3 : Nat) (x4 : Nat) (x5 : Int32) (x6 : Nat) (x7 : Int32) (x8 : Int32) (x9 : Int32) (x10 : Int32) (x11 : Int32) (x12 : Int32) (x13 : Int32) (x14 : Int32) (x15 : Int32) (x16 : Int32) (x17 : Int32) (x18 : Int32) (x19 : Int64) (t0 : Int32) (cd dd : Nat) (S : cS) (h : k_L_isPlain_127 post dp mc ms R63 R84 x0 x1 x2 x3 x4 x5 x6 x7 x8 x9 x10 x11 x12 x13 x14 x15 x16 x17 x18 x19 t0 cd dd S) : cG p l e (cRm 10 mc ms 242) s m args below meth c A D Y 24 (MQ below (cQi post D Y A) args s mc ms A) cd dd 127 [(0, .ref x0), (1, .ref x1), (2, .ref x2), (3, .ref x3), (4, .ref x4), (5, .int x5), (6, .ref x6), (7, .int x7), (8, .int x8), (9, .int x9), (10, .int x10), (11, .int x11), (12, .int x12), (13, .int x13), (14, .int x14), (15, .int x15), (16, .int x16), (17, .int x17), (18, .int x18), (19, .long x19)] [.int t0] S := by
  unfold k_L_isPlain_127 at h
  refine cg_istore C (lv' := [(21, .int t0), (0, .ref x0), (1, .ref x1), (2, .ref x2), (3, .ref x3), (4, .ref x4), (5, .int x5), (6, .ref x6), (7, .int x7), (8, .int x8), (9, .int x9), (10, .int x10), (11, .int x11), (12, .int x12), (13, .int x13), (14, .int x14), (15, .int x15), (16, .int x16), (17, .int x17), (18, .int x18), (19, .long x19)]) (Nat.le_of_ble_eq_true rfl) rfl dL_isPlain_127 ?_
  refine cg_iload C 0 rfl dL_isPlain_129 ?_
  refine cg_if_eq C 146 (by decide) dL_isPlain_131 (fun c_ => ?_) (fun c_ => ?_)
  · have h := h.1 c_
    refine cg_iconst C (x := nI 0) rfl dL_isPlain_146 ?_
    exact cg_sub [1, 2, 3, 4, 5, 6, 7, 8, 9, 10, 11, 12, 13, 14, 15, 16, 17, 18, 19, 20, 0] rfl (tb_L_isPlain_147 C  hR63 hR84 x0 x1 x2 x3 x4 x5 x6 x7 x8 x9 x10 x11 x12 x13 x14 x15 x16 x17 x18 x19 t0 ((nI 0)) cd dd S h)
  · have h := h.2 c_
    refine cg_lload C 20 rfl dL_isPlain_134 ?_
    refine cg_iload C 8 rfl dL_isPlain_136 ?_
    refine cg_aload C 7 rfl dL_isPlain_138 ?_
    obtain ⟨hb_140, h⟩ := h
    refine cg_callsi C (t_L_rank l x19 x7 x6 S dp h) cc_L_54 rfl ⟨by decide, by decide⟩ hb_140 rfl (Nat.le_of_ble_eq_true rfl) dL_isPlain_140 (fun r_33 S_33 h => ?_)
    simp only [Nat.add_zero]
    refine cg_goto C 147 (by decide) dL_isPlain_143 ?_
    exact cg_sub [1, 2, 3, 4, 5, 6, 7, 8, 9, 10, 11, 12, 13, 14, 15, 16, 17, 18, 19, 20, 0] rfl (tb_L_isPlain_147 C  hR63 hR84 x0 x1 x2 x3 x4 x5 x6 x7 x8 x9 x10 x11 x12 x13 x14 x15 x16 x17 x18 x19 t0 r_33 cd dd S_33 h)
set_option maxRecDepth 20000 in
theorem tb_L_isPlain_84 {mc ms : Nat} (C : cC p s m args meth c cL_isPlain 24 (some .boolean) A D Y tp dp RL) {post : Int32 → cS → Prop} {R63 : Nat → Nat → Nat → Nat → Nat → Int32 → Nat → Int32 → Int32 → Int32 → Int32 → Int32 → Int32 → Int32 → Int32 → Int32 → Int32 → Nat → Nat → cS → Prop} {R84 : Nat → Nat → Nat → Nat → Nat → Int32 → Nat → Int32 → Int32 → Int32 → Int32 → Int32 → Int32 → Int32 → Int32 → Int32 → Int32 → Int32 → Int32 → Nat → Nat → cS → Prop} (hR63 : ∀ (x0 : Nat) (x1 : Nat) (x2 : Nat) (x3 : Nat) (x4 : Nat) (x5 : Int32) (x6 : Nat) (x7 : Int32) (x8 : Int32) (x9 : Int32) (x10 : Int32) (x11 : Int32) (x12 : Int32) (x13 : Int32) (x14 : Int32) (x15 : Int32) (x16 : Int32) (cd dd : Nat) (S : cS), R63 x0 x1 x2 x3 x4 x5 x6 x7 x8 x9 x10 x11 x12 x13 x14 x15 x16 cd dd S → cG p l e (cRm 10 mc ms 242) s m args below meth c A D Y 24 (MQ below (cQi post D Y A) args s mc ms A) cd dd 63 [(0, .ref x0), (1, .ref x1), (2, .ref x2), (3, .ref x3), (4, .ref x4), (5, .int x5), (6, .ref x6), (7, .int x7), (8, .int x8), (9, .int x9), (10, .int x10), (11, .int x11), (12, .int x12), (13, .int x13), (14, .int x14), (15, .int x15), (16, .int x16)] [] S) (hR84 : ∀ (x0 : Nat) (x1 : Nat) (x2 : Nat) (x3 : Nat) (x4 : Nat) (x5 : Int32) (x6 : Nat) (x7 : Int32) (x8 : Int32) (x9 : Int32) (x10 : Int32) (x11 : Int32) (x12 : Int32) (x13 : Int32) (x14 : Int32) (x15 : Int32) (x16 : Int32) (x17 : Int32) (x18 : Int32) (cd dd : Nat) (S : cS), R84 x0 x1 x2 x3 x4 x5 x6 x7 x8 x9 x10 x11 x12 x13 x14 x15 x16 x17 x18 cd dd S → cG p l e (cRm 10 mc ms 242) s m args below meth c A D Y 24 (MQ below (cQi post D Y A) args s mc ms A) cd dd 84 [(0, .ref x0), (1, .ref x1), (2, .ref x2), (3, .ref x3), (4, .ref x4), (5, .int x5), (6, .ref x6), (7, .int x7), (8, .int x8), (9, .int x9), (10, .int x10), (11, .int x11), (12, .int x12), (13, .int x13), (14, .int x14), (15, .int x15), (16, .int x16), (17, .int x17), (18, .int x18)] [] S) (x0 : Nat) (x1 : Nat) (x2 : Nat) (x3 : Nat) (x4 : Nat) (x5 : Int32) (x6 : Nat) (x7 : Int32) (x8 : Int32) (x9 : Int32) (x10 : Int32) (x11 : Int32) (x12 : Int32) (x13 : Int32) (x14 : Int32) (x15 : Int32) (x16 : Int32) (x17 : Int32) (x18 : Int32) (cd dd : Nat) (S : cS) (h : k_L_isPlain_84 post dp mc ms R63 R84 x0 x1 x2 x3 x4 x5 x6 x7 x8 x9 x10 x11 x12 x13 x14 x15 x16 x17 x18 cd dd S) : cG p l e (cRm 10 mc ms 242) s m args below meth c A D Y 24 (MQ below (cQi post D Y A) args s mc ms A) cd dd 84 [(0, .ref x0), (1, .ref x1), (2, .ref x2), (3, .ref x3), (4, .ref x4), (5, .int x5), (6, .ref x6), (7, .int x7), (8, .int x8), (9, .int x9), (10, .int x10), (11, .int x11), (12, .int x12), (13, .int x13), (14, .int x14), (15, .int x15), (16, .int x16), (17, .int x17), (18, .int x18)] [] S := by
  unfold k_L_isPlain_84 at h
  refine cg_iload C 18 rfl dL_isPlain_84 ?_
  refine cg_aload_n C (i := 3) rfl 3 rfl dL_isPlain_86 ?_
  refine cg_iload C 17 rfl dL_isPlain_87 ?_
  obtain ⟨hc_89, h⟩ := h
  refine cg_ialoadR C hc_89 dL_isPlain_89 ?_
  refine cg_icmp_ge C 308 (by decide) dL_isPlain_90 (fun c_ => ?_) (fun c_ => ?_)
  · have h := h.1 c_
    obtain ⟨x16_25, e_x16_25⟩ : ∃ z : Int32, z = x16 + nI 1 := ⟨_, rfl⟩
    have h := h x16_25 e_x16_25
    refine cg_iinc C (lv' := [(16, .int x16_25), (0, .ref x0), (1, .ref x1), (2, .ref x2), (3, .ref x3), (4, .ref x4), (5, .int x5), (6, .ref x6), (7, .int x7), (8, .int x8), (9, .int x9), (10, .int x10), (11, .int x11), (12, .int x12), (13, .int x13), (14, .int x14), (15, .int x15), (17, .int x17), (18, .int x18)]) 16 rfl (by rw [e_x16_25]; rfl) (Nat.le_of_ble_eq_true rfl) rfl dL_isPlain_308 ?_
    refine cg_goto C 63 (by decide) dL_isPlain_311 ?_
    exact cg_sub [1, 2, 3, 4, 5, 6, 7, 8, 9, 10, 11, 12, 13, 14, 15, 16, 0] rfl (hR63 x0 x1 x2 x3 x4 x5 x6 x7 x8 x9 x10 x11 x12 x13 x14 x15 x16_25 cd dd S h)
  · have h := h.2 c_
    refine cg_aload_n C (i := 1) rfl 1 rfl dL_isPlain_93 ?_
    refine cg_aload_n C (i := 2) rfl 2 rfl dL_isPlain_94 ?_
    refine cg_iload C 17 rfl dL_isPlain_95 ?_
    refine cg_iload C 18 rfl dL_isPlain_97 ?_
    obtain ⟨hb_99, h⟩ := h
    refine cg_callsi C (t_L_record l x2 x17 x18 S dp h) cc_L_26 rfl ⟨by decide, by decide⟩ hb_99 rfl (Nat.le_of_ble_eq_true rfl) dL_isPlain_99 (fun r_26 S_26 h => ?_)
    simp only [Nat.add_zero]
    obtain ⟨hc_102, h⟩ := h
    refine cg_laloadR C hc_102 dL_isPlain_102 ?_
    refine cg_nmL (fun x19_27 e_x19_27 => ?_)
    have h := h x19_27 e_x19_27
    refine cg_lstore C (lv' := [(19, .long x19_27), (0, .ref x0), (1, .ref x1), (2, .ref x2), (3, .ref x3), (4, .ref x4), (5, .int x5), (6, .ref x6), (7, .int x7), (8, .int x8), (9, .int x9), (10, .int x10), (11, .int x11), (12, .int x12), (13, .int x13), (14, .int x14), (15, .int x15), (16, .int x16), (17, .int x17), (18, .int x18)]) (Nat.le_of_ble_eq_true rfl) rfl dL_isPlain_103 ?_
    refine cg_aload C 5 rfl dL_isPlain_105 ?_
    refine cg_bipush C (x := nI 32) rfl dL_isPlain_107 ?_
    refine cg_iload C 18 rfl dL_isPlain_109 ?_
    refine cg_iadd C dL_isPlain_111 ?_
    obtain ⟨hc_112, h⟩ := h
    refine cg_ialoadR C hc_112 dL_isPlain_112 ?_
    refine cg_iload C 19 rfl dL_isPlain_113 ?_
    refine cg_ishr C dL_isPlain_115 ?_
    refine cg_iconst C (x := nI 1) rfl dL_isPlain_116 ?_
    refine cg_iand C dL_isPlain_117 ?_
    refine cg_iconst C (x := nI 1) rfl dL_isPlain_118 ?_
    refine cg_icmp_ne C 126 (by decide) dL_isPlain_119 (fun c_ => ?_) (fun c_ => ?_)
    · have h := h.1 c_
      refine cg_iconst C (x := nI 0) rfl dL_isPlain_126 ?_
      exact cg_sub [1, 2, 3, 4, 5, 6, 7, 8, 9, 10, 11, 12, 13, 14, 15, 16, 17, 18, 19, 0] rfl (tb_L_isPlain_127 C  hR63 hR84 x0 x1 x2 x3 x4 x5 x6 x7 x8 x9 x10 x11 x12 x13 x14 x15 x16 x17 x18 x19_27 ((nI 0)) cd dd S_26 h)
    · have h := h.2 c_
      refine cg_iconst C (x := nI 1) rfl dL_isPlain_122 ?_
      refine cg_goto C 127 (by decide) dL_isPlain_123 ?_
      exact cg_sub [1, 2, 3, 4, 5, 6, 7, 8, 9, 10, 11, 12, 13, 14, 15, 16, 17, 18, 19, 0] rfl (tb_L_isPlain_127 C  hR63 hR84 x0 x1 x2 x3 x4 x5 x6 x7 x8 x9 x10 x11 x12 x13 x14 x15 x16 x17 x18 x19_27 ((nI 1)) cd dd S_26 h)
set_option maxRecDepth 20000 in
theorem tl_L_isPlain_84 {mc ms : Nat} (C : cC p s m args meth c cL_isPlain 24 (some .boolean) A D Y tp dp RL) {post : Int32 → cS → Prop} {R63 : Nat → Nat → Nat → Nat → Nat → Int32 → Nat → Int32 → Int32 → Int32 → Int32 → Int32 → Int32 → Int32 → Int32 → Int32 → Int32 → Nat → Nat → cS → Prop} (hR63 : ∀ (x0 : Nat) (x1 : Nat) (x2 : Nat) (x3 : Nat) (x4 : Nat) (x5 : Int32) (x6 : Nat) (x7 : Int32) (x8 : Int32) (x9 : Int32) (x10 : Int32) (x11 : Int32) (x12 : Int32) (x13 : Int32) (x14 : Int32) (x15 : Int32) (x16 : Int32) (cd dd : Nat) (S : cS), R63 x0 x1 x2 x3 x4 x5 x6 x7 x8 x9 x10 x11 x12 x13 x14 x15 x16 cd dd S → cG p l e (cRm 10 mc ms 242) s m args below meth c A D Y 24 (MQ below (cQi post D Y A) args s mc ms A) cd dd 63 [(0, .ref x0), (1, .ref x1), (2, .ref x2), (3, .ref x3), (4, .ref x4), (5, .int x5), (6, .ref x6), (7, .int x7), (8, .int x8), (9, .int x9), (10, .int x10), (11, .int x11), (12, .int x12), (13, .int x13), (14, .int x14), (15, .int x15), (16, .int x16)] [] S) (x0 : Nat) (x1 : Nat) (x2 : Nat) (x3 : Nat) (x4 : Nat) (x5 : Int32) (x6 : Nat) (x7 : Int32) (x8 : Int32) (x9 : Int32) (x10 : Int32) (x11 : Int32) (x12 : Int32) (x13 : Int32) (x14 : Int32) (x15 : Int32) (x16 : Int32) (x17 : Int32) (x18 : Int32) (cd dd : Nat) (S : cS) (h : k_L_isPlain_84L post dp mc ms R63 x0 x1 x2 x3 x4 x5 x6 x7 x8 x9 x10 x11 x12 x13 x14 x15 x16 x17 x18 cd dd S) : cG p l e (cRm 10 mc ms 242) s m args below meth c A D Y 24 (MQ below (cQi post D Y A) args s mc ms A) cd dd 84 [(0, .ref x0), (1, .ref x1), (2, .ref x2), (3, .ref x3), (4, .ref x4), (5, .int x5), (6, .ref x6), (7, .int x7), (8, .int x8), (9, .int x9), (10, .int x10), (11, .int x11), (12, .int x12), (13, .int x13), (14, .int x14), (15, .int x15), (16, .int x16), (17, .int x17), (18, .int x18)] [] S :=
  h (fun y => cG p l e (cRm 10 mc ms 242) s m args below meth c A D Y 24 (MQ below (cQi post D Y A) args s mc ms A) (y.2.2.2.2.2.2.2.2.2.2.2.2.2.2.2.2.2.2.2.1) (y.2.2.2.2.2.2.2.2.2.2.2.2.2.2.2.2.2.2.2.2.1) 84 [(0, .ref (y.1)), (1, .ref (y.2.1)), (2, .ref (y.2.2.1)), (3, .ref (y.2.2.2.1)), (4, .ref (y.2.2.2.2.1)), (5, .int (y.2.2.2.2.2.1)), (6, .ref (y.2.2.2.2.2.2.1)), (7, .int (y.2.2.2.2.2.2.2.1)), (8, .int (y.2.2.2.2.2.2.2.2.1)), (9, .int (y.2.2.2.2.2.2.2.2.2.1)), (10, .int (y.2.2.2.2.2.2.2.2.2.2.1)), (11, .int (y.2.2.2.2.2.2.2.2.2.2.2.1)), (12, .int (y.2.2.2.2.2.2.2.2.2.2.2.2.1)), (13, .int (y.2.2.2.2.2.2.2.2.2.2.2.2.2.1)), (14, .int (y.2.2.2.2.2.2.2.2.2.2.2.2.2.2.1)), (15, .int (y.2.2.2.2.2.2.2.2.2.2.2.2.2.2.2.1)), (16, .int (y.2.2.2.2.2.2.2.2.2.2.2.2.2.2.2.2.1)), (17, .int (y.2.2.2.2.2.2.2.2.2.2.2.2.2.2.2.2.2.1)), (18, .int (y.2.2.2.2.2.2.2.2.2.2.2.2.2.2.2.2.2.2.1))] [] (y.2.2.2.2.2.2.2.2.2.2.2.2.2.2.2.2.2.2.2.2.2)) (fun y hy => tb_L_isPlain_84 C  hR63 (fun b0 b1 b2 b3 b4 b5 b6 b7 b8 b9 b10 b11 b12 b13 b14 b15 b16 b17 b18 b19 b20 S z => z) (y.1) (y.2.1) (y.2.2.1) (y.2.2.2.1) (y.2.2.2.2.1) (y.2.2.2.2.2.1) (y.2.2.2.2.2.2.1) (y.2.2.2.2.2.2.2.1) (y.2.2.2.2.2.2.2.2.1) (y.2.2.2.2.2.2.2.2.2.1) (y.2.2.2.2.2.2.2.2.2.2.1) (y.2.2.2.2.2.2.2.2.2.2.2.1) (y.2.2.2.2.2.2.2.2.2.2.2.2.1) (y.2.2.2.2.2.2.2.2.2.2.2.2.2.1) (y.2.2.2.2.2.2.2.2.2.2.2.2.2.2.1) (y.2.2.2.2.2.2.2.2.2.2.2.2.2.2.2.1) (y.2.2.2.2.2.2.2.2.2.2.2.2.2.2.2.2.1) (y.2.2.2.2.2.2.2.2.2.2.2.2.2.2.2.2.2.1) (y.2.2.2.2.2.2.2.2.2.2.2.2.2.2.2.2.2.2.1) (y.2.2.2.2.2.2.2.2.2.2.2.2.2.2.2.2.2.2.2.1) (y.2.2.2.2.2.2.2.2.2.2.2.2.2.2.2.2.2.2.2.2.1) (y.2.2.2.2.2.2.2.2.2.2.2.2.2.2.2.2.2.2.2.2.2) hy)
set_option maxRecDepth 20000 in
theorem tb_L_isPlain_63 {mc ms : Nat} (C : cC p s m args meth c cL_isPlain 24 (some .boolean) A D Y tp dp RL) {post : Int32 → cS → Prop} {R63 : Nat → Nat → Nat → Nat → Nat → Int32 → Nat → Int32 → Int32 → Int32 → Int32 → Int32 → Int32 → Int32 → Int32 → Int32 → Int32 → Nat → Nat → cS → Prop} (hR63 : ∀ (x0 : Nat) (x1 : Nat) (x2 : Nat) (x3 : Nat) (x4 : Nat) (x5 : Int32) (x6 : Nat) (x7 : Int32) (x8 : Int32) (x9 : Int32) (x10 : Int32) (x11 : Int32) (x12 : Int32) (x13 : Int32) (x14 : Int32) (x15 : Int32) (x16 : Int32) (cd dd : Nat) (S : cS), R63 x0 x1 x2 x3 x4 x5 x6 x7 x8 x9 x10 x11 x12 x13 x14 x15 x16 cd dd S → cG p l e (cRm 10 mc ms 242) s m args below meth c A D Y 24 (MQ below (cQi post D Y A) args s mc ms A) cd dd 63 [(0, .ref x0), (1, .ref x1), (2, .ref x2), (3, .ref x3), (4, .ref x4), (5, .int x5), (6, .ref x6), (7, .int x7), (8, .int x8), (9, .int x9), (10, .int x10), (11, .int x11), (12, .int x12), (13, .int x13), (14, .int x14), (15, .int x15), (16, .int x16)] [] S) (x0 : Nat) (x1 : Nat) (x2 : Nat) (x3 : Nat) (x4 : Nat) (x5 : Int32) (x6 : Nat) (x7 : Int32) (x8 : Int32) (x9 : Int32) (x10 : Int32) (x11 : Int32) (x12 : Int32) (x13 : Int32) (x14 : Int32) (x15 : Int32) (x16 : Int32) (cd dd : Nat) (S : cS) (h : k_L_isPlain_63 post dp mc ms R63 x0 x1 x2 x3 x4 x5 x6 x7 x8 x9 x10 x11 x12 x13 x14 x15 x16 cd dd S) : cG p l e (cRm 10 mc ms 242) s m args below meth c A D Y 24 (MQ below (cQi post D Y A) args s mc ms A) cd dd 63 [(0, .ref x0), (1, .ref x1), (2, .ref x2), (3, .ref x3), (4, .ref x4), (5, .int x5), (6, .ref x6), (7, .int x7), (8, .int x8), (9, .int x9), (10, .int x10), (11, .int x11), (12, .int x12), (13, .int x13), (14, .int x14), (15, .int x15), (16, .int x16)] [] S := by
  unfold k_L_isPlain_63 at h
  refine cg_iload C 16 rfl dL_isPlain_63 ?_
  refine cg_aload C 4 rfl dL_isPlain_65 ?_
  refine cg_iconst C (x := nI 1) rfl dL_isPlain_67 ?_
  obtain ⟨hc_68, h⟩ := h
  refine cg_ialoadR C hc_68 dL_isPlain_68 ?_
  refine cg_icmp_ge C 314 (by decide) dL_isPlain_69 (fun c_ => ?_) (fun c_ => ?_)
  · have h := h.1 c_
    refine cg_aload_n C (i := 0) rfl 0 rfl dL_isPlain_314 ?_
    refine cg_aload C 4 rfl dL_isPlain_315 ?_
    refine cg_iconst C (x := nI 0) rfl dL_isPlain_317 ?_
    obtain ⟨hc_318, h⟩ := h
    refine cg_ialoadR C hc_318 dL_isPlain_318 ?_
    refine cg_iconst C (x := nI 1) rfl dL_isPlain_319 ?_
    refine cg_isub C dL_isPlain_320 ?_
    obtain ⟨hc_321, h⟩ := h
    obtain ⟨hb_321, h⟩ := h
    refine cg_calli C (t_X11_documents l x0 ((((cI S x4 ((nI 0)).toNatClampNeg)) - ((nI 1)))) S dp h) cc_L_176 hc_321.1 hc_321.2 (by decide) rfl rfl ⟨by decide, by decide⟩ hb_321 rfl (Nat.le_of_ble_eq_true rfl) dL_isPlain_321 (fun r_11 S_11 h => ?_)
    simp only [Nat.add_zero]
    refine cg_iload C 10 rfl dL_isPlain_324 ?_
    refine cg_icmp_ne C 412 (by decide) dL_isPlain_326 (fun c_ => ?_) (fun c_ => ?_)
    · have h := h.1 c_
      exact cg_sub [0, 4, 7, 8, 11, 13, 15] rfl (tb_L_isPlain_412 C   x0 x4 x7 x8 x11 x13 x15 cd dd S_11 h)
    · have h := h.2 c_
      refine cg_aload_n C (i := 0) rfl 0 rfl dL_isPlain_329 ?_
      refine cg_aload C 4 rfl dL_isPlain_330 ?_
      refine cg_iconst C (x := nI 0) rfl dL_isPlain_332 ?_
      obtain ⟨hc_333, h⟩ := h
      refine cg_ialoadR C hc_333 dL_isPlain_333 ?_
      refine cg_iconst C (x := nI 1) rfl dL_isPlain_334 ?_
      refine cg_isub C dL_isPlain_335 ?_
      refine cg_iload C 7 rfl dL_isPlain_336 ?_
      obtain ⟨hc_338, h⟩ := h
      obtain ⟨mc16, ms17, hm_1, hm_2, h⟩ := h
      refine cg_calli C (t_X11_matches l mc16 ms17 x0 ((((cI S_11 x4 ((nI 0)).toNatClampNeg)) - ((nI 1)))) x7 S_11 dp h) cc_L_179 hc_338.1 hc_338.2 (by decide) rfl rfl ⟨by decide, by decide⟩ ⟨hm_1, hm_2⟩ rfl (Nat.le_of_ble_eq_true rfl) dL_isPlain_338 (fun r_18 S_18 h => ?_)
      refine cg_iload C 11 rfl dL_isPlain_341 ?_
      refine cg_icmp_ne C 412 (by decide) dL_isPlain_343 (fun c_ => ?_) (fun c_ => ?_)
      · have h := h.1 c_
        exact cg_sub [0, 4, 7, 8, 11, 13, 15] rfl (tb_L_isPlain_412 C   x0 x4 x7 x8 x11 x13 x15 (cd + mc16) (dd + ms17) S_18 h)
      · have h := h.2 c_
        refine cg_iload C 5 rfl dL_isPlain_346 ?_
        refine cg_iconst C (x := nI 4) rfl dL_isPlain_348 ?_
        refine cg_irem C (by decide) dL_isPlain_349 ?_
        refine cg_if_gt C 370 (by decide) dL_isPlain_350 (fun c_ => ?_) (fun c_ => ?_)
        · have h := h.1 c_
          exact cg_sub [0, 4, 7, 8, 9, 11, 12, 13, 15] rfl (tb_L_isPlain_370 C   x0 x4 x7 x8 x9 x11 x12 x13 x15 (cd + mc16) (dd + ms17) S_18 h)
        · have h := h.2 c_
          refine cg_aload_n C (i := 0) rfl 0 rfl dL_isPlain_353 ?_
          refine cg_aload C 4 rfl dL_isPlain_354 ?_
          refine cg_iconst C (x := nI 0) rfl dL_isPlain_356 ?_
          obtain ⟨hc_357, h⟩ := h
          refine cg_ialoadR C hc_357 dL_isPlain_357 ?_
          refine cg_iconst C (x := nI 1) rfl dL_isPlain_358 ?_
          refine cg_isub C dL_isPlain_359 ?_
          refine cg_iload C 7 rfl dL_isPlain_360 ?_
          obtain ⟨hc_362, h⟩ := h
          obtain ⟨hb_362, h⟩ := h
          refine cg_calli C (t_X11_matchesByScan l x0 ((((cI S_18 x4 ((nI 0)).toNatClampNeg)) - ((nI 1)))) x7 S_18 dp h) cc_L_182 hc_362.1 hc_362.2 (by decide) rfl rfl ⟨by decide, by decide⟩ hb_362 rfl (Nat.le_of_ble_eq_true rfl) dL_isPlain_362 (fun r_23 S_23 h => ?_)
          simp only [Nat.add_zero]
          refine cg_iload C 11 rfl dL_isPlain_365 ?_
          refine cg_icmp_ne C 412 (by decide) dL_isPlain_367 (fun c_ => ?_) (fun c_ => ?_)
          · have h := h.1 c_
            exact cg_sub [0, 4, 7, 8, 11, 13, 15] rfl (tb_L_isPlain_412 C   x0 x4 x7 x8 x11 x13 x15 (cd + mc16) (dd + ms17) S_23 h)
          · have h := h.2 c_
            exact cg_sub [0, 4, 7, 8, 9, 11, 12, 13, 15] rfl (tb_L_isPlain_370 C   x0 x4 x7 x8 x9 x11 x12 x13 x15 (cd + mc16) (dd + ms17) S_23 h)
  · have h := h.2 c_
    refine cg_aload C 4 rfl dL_isPlain_72 ?_
    refine cg_iconst C (x := nI 2) rfl dL_isPlain_74 ?_
    refine cg_iload C 16 rfl dL_isPlain_75 ?_
    refine cg_iadd C dL_isPlain_77 ?_
    obtain ⟨hc_78, h⟩ := h
    refine cg_ialoadR C hc_78 dL_isPlain_78 ?_
    refine cg_nmI (fun x17_24 e_x17_24 => ?_)
    have h := h x17_24 e_x17_24
    refine cg_istore C (lv' := [(17, .int x17_24), (0, .ref x0), (1, .ref x1), (2, .ref x2), (3, .ref x3), (4, .ref x4), (5, .int x5), (6, .ref x6), (7, .int x7), (8, .int x8), (9, .int x9), (10, .int x10), (11, .int x11), (12, .int x12), (13, .int x13), (14, .int x14), (15, .int x15), (16, .int x16)]) (Nat.le_of_ble_eq_true rfl) rfl dL_isPlain_79 ?_
    refine cg_iconst C (x := nI 0) rfl dL_isPlain_81 ?_
    refine cg_istore C (lv' := [(18, .int ((nI 0))), (17, .int x17_24), (0, .ref x0), (1, .ref x1), (2, .ref x2), (3, .ref x3), (4, .ref x4), (5, .int x5), (6, .ref x6), (7, .int x7), (8, .int x8), (9, .int x9), (10, .int x10), (11, .int x11), (12, .int x12), (13, .int x13), (14, .int x14), (15, .int x15), (16, .int x16)]) (Nat.le_of_ble_eq_true rfl) rfl dL_isPlain_82 ?_
    exact cg_sub [2, 3, 4, 5, 6, 7, 8, 9, 10, 11, 12, 13, 14, 15, 16, 17, 18, 1, 0] rfl (tl_L_isPlain_84 C  hR63 x0 x1 x2 x3 x4 x5 x6 x7 x8 x9 x10 x11 x12 x13 x14 x15 x16 x17_24 (((nI 0))) cd dd S h)
set_option maxRecDepth 20000 in
theorem tl_L_isPlain_63 {mc ms : Nat} (C : cC p s m args meth c cL_isPlain 24 (some .boolean) A D Y tp dp RL) {post : Int32 → cS → Prop}   (x0 : Nat) (x1 : Nat) (x2 : Nat) (x3 : Nat) (x4 : Nat) (x5 : Int32) (x6 : Nat) (x7 : Int32) (x8 : Int32) (x9 : Int32) (x10 : Int32) (x11 : Int32) (x12 : Int32) (x13 : Int32) (x14 : Int32) (x15 : Int32) (x16 : Int32) (cd dd : Nat) (S : cS) (h : k_L_isPlain_63L post dp mc ms  x0 x1 x2 x3 x4 x5 x6 x7 x8 x9 x10 x11 x12 x13 x14 x15 x16 cd dd S) : cG p l e (cRm 10 mc ms 242) s m args below meth c A D Y 24 (MQ below (cQi post D Y A) args s mc ms A) cd dd 63 [(0, .ref x0), (1, .ref x1), (2, .ref x2), (3, .ref x3), (4, .ref x4), (5, .int x5), (6, .ref x6), (7, .int x7), (8, .int x8), (9, .int x9), (10, .int x10), (11, .int x11), (12, .int x12), (13, .int x13), (14, .int x14), (15, .int x15), (16, .int x16)] [] S :=
  h (fun y => cG p l e (cRm 10 mc ms 242) s m args below meth c A D Y 24 (MQ below (cQi post D Y A) args s mc ms A) (y.2.2.2.2.2.2.2.2.2.2.2.2.2.2.2.2.2.1) (y.2.2.2.2.2.2.2.2.2.2.2.2.2.2.2.2.2.2.1) 63 [(0, .ref (y.1)), (1, .ref (y.2.1)), (2, .ref (y.2.2.1)), (3, .ref (y.2.2.2.1)), (4, .ref (y.2.2.2.2.1)), (5, .int (y.2.2.2.2.2.1)), (6, .ref (y.2.2.2.2.2.2.1)), (7, .int (y.2.2.2.2.2.2.2.1)), (8, .int (y.2.2.2.2.2.2.2.2.1)), (9, .int (y.2.2.2.2.2.2.2.2.2.1)), (10, .int (y.2.2.2.2.2.2.2.2.2.2.1)), (11, .int (y.2.2.2.2.2.2.2.2.2.2.2.1)), (12, .int (y.2.2.2.2.2.2.2.2.2.2.2.2.1)), (13, .int (y.2.2.2.2.2.2.2.2.2.2.2.2.2.1)), (14, .int (y.2.2.2.2.2.2.2.2.2.2.2.2.2.2.1)), (15, .int (y.2.2.2.2.2.2.2.2.2.2.2.2.2.2.2.1)), (16, .int (y.2.2.2.2.2.2.2.2.2.2.2.2.2.2.2.2.1))] [] (y.2.2.2.2.2.2.2.2.2.2.2.2.2.2.2.2.2.2.2)) (fun y hy => tb_L_isPlain_63 C   (fun b0 b1 b2 b3 b4 b5 b6 b7 b8 b9 b10 b11 b12 b13 b14 b15 b16 b17 b18 S z => z) (y.1) (y.2.1) (y.2.2.1) (y.2.2.2.1) (y.2.2.2.2.1) (y.2.2.2.2.2.1) (y.2.2.2.2.2.2.1) (y.2.2.2.2.2.2.2.1) (y.2.2.2.2.2.2.2.2.1) (y.2.2.2.2.2.2.2.2.2.1) (y.2.2.2.2.2.2.2.2.2.2.1) (y.2.2.2.2.2.2.2.2.2.2.2.1) (y.2.2.2.2.2.2.2.2.2.2.2.2.1) (y.2.2.2.2.2.2.2.2.2.2.2.2.2.1) (y.2.2.2.2.2.2.2.2.2.2.2.2.2.2.1) (y.2.2.2.2.2.2.2.2.2.2.2.2.2.2.2.1) (y.2.2.2.2.2.2.2.2.2.2.2.2.2.2.2.2.1) (y.2.2.2.2.2.2.2.2.2.2.2.2.2.2.2.2.2.1) (y.2.2.2.2.2.2.2.2.2.2.2.2.2.2.2.2.2.2.1) (y.2.2.2.2.2.2.2.2.2.2.2.2.2.2.2.2.2.2.2) hy)
end S_L_isPlain
set_option maxHeartbeats 1000000 in
set_option maxRecDepth 20000 in
theorem t_L_isPlain (l : Launch) (mc ms : Nat) (x0 : Nat) (x1 : Nat) (x2 : Nat) (x3 : Nat) (x4 : Nat) (x5 : Int32) (S : cS) (dp : Nat) {P : Int32 → cS → Prop} (h : k_L_isPlain P dp mc ms x0 x1 x2 x3 x4 x5 S) : cMet (cQi P) l yL_isPlain cL_isPlain 24 (some .boolean) 10 mc ms 242 [.ref x0, .ref x1, .ref x2, .ref x3, .ref x4, .int x5] S dp := by
  intro D Y tp sz
  refine cg_body (by decide +kernel) (Nat.le_of_ble_eq_true rfl) ?_
  intro p e s m args below meth c C
  generalize va_A (cWd Y S) sz = A at C ⊢
  have C : cC p s m args meth c cL_isPlain 24 (some .boolean) A D Y tp dp RL := C
  refine cg_lv (lv' := [(0, .ref x0), (1, .ref x1), (2, .ref x2), (3, .ref x3), (4, .ref x4), (5, .int x5)]) rfl ?_
  unfold k_L_isPlain at h
  refine cg_bipush C (x := nI 9) rfl dL_isPlain_0 ?_
  obtain ⟨n1, hn_1, hn_2, hn_3, hn_4, h⟩ := h
  refine cg_cast (.int (nI n1)) (congrArg Value.int hn_1) ?_
  refine cg_newI C n1 hn_2 ca_int hn_3 hn_4 dL_isPlain_2 (fun q2 hf_q2 => ?_)
  have h := h q2 hf_q2
  refine cg_nm (fun S3 e_S3 => ?_)
  have h := h S3 e_S3
  refine cg_astore (lv' := [(6, .ref q2), (0, .ref x0), (1, .ref x1), (2, .ref x2), (3, .ref x3), (4, .ref x4), (5, .int x5)]) C (Nat.le_of_ble_eq_true rfl) rfl dL_isPlain_4 ?_
  refine cg_iload C 6 rfl dL_isPlain_6 ?_
  refine cg_bipush C (x := nI 9) rfl dL_isPlain_8 ?_
  refine cg_irem C (by decide) dL_isPlain_10 ?_
  refine cg_nmI (fun x7_4 e_x7_4 => ?_)
  have h := h x7_4 e_x7_4
  refine cg_istore C (lv' := [(7, .int x7_4), (6, .ref q2), (0, .ref x0), (1, .ref x1), (2, .ref x2), (3, .ref x3), (4, .ref x4), (5, .int x5)]) (Nat.le_of_ble_eq_true rfl) rfl dL_isPlain_11 ?_
  refine cg_iload C 7 rfl dL_isPlain_13 ?_
  refine cg_bipush C (x := nI 9) rfl dL_isPlain_15 ?_
  refine cg_idiv C (by decide) dL_isPlain_17 ?_
  refine cg_bipush C (x := nI 10) rfl dL_isPlain_18 ?_
  refine cg_irem C (by decide) dL_isPlain_20 ?_
  refine cg_nmI (fun x8_5 e_x8_5 => ?_)
  have h := h x8_5 e_x8_5
  refine cg_istore C (lv' := [(8, .int x8_5), (7, .int x7_4), (6, .ref q2), (0, .ref x0), (1, .ref x1), (2, .ref x2), (3, .ref x3), (4, .ref x4), (5, .int x5)]) (Nat.le_of_ble_eq_true rfl) rfl dL_isPlain_21 ?_
  refine cg_iload C 8 rfl dL_isPlain_23 ?_
  refine cg_bipush C (x := nI 90) rfl dL_isPlain_25 ?_
  refine cg_idiv C (by decide) dL_isPlain_27 ?_
  refine cg_iconst C (x := nI 3) rfl dL_isPlain_28 ?_
  refine cg_irem C (by decide) dL_isPlain_29 ?_
  refine cg_nmI (fun x9_6 e_x9_6 => ?_)
  have h := h x9_6 e_x9_6
  refine cg_istore C (lv' := [(9, .int x9_6), (8, .int x8_5), (7, .int x7_4), (6, .ref q2), (0, .ref x0), (1, .ref x1), (2, .ref x2), (3, .ref x3), (4, .ref x4), (5, .int x5)]) (Nat.le_of_ble_eq_true rfl) rfl dL_isPlain_30 ?_
  refine cg_aload_n C (i := 1) rfl 5 rfl dL_isPlain_32 ?_
  refine cg_aload_n C (i := 2) rfl 6 rfl dL_isPlain_33 ?_
  refine cg_aload_n C (i := 3) rfl 7 rfl dL_isPlain_34 ?_
  refine cg_aload C 8 rfl dL_isPlain_35 ?_
  refine cg_aload C 3 rfl dL_isPlain_37 ?_
  obtain ⟨hb_39, h⟩ := h
  refine cg_callsv C (t_L_gains l x1 x2 x3 x4 q2 S3 dp h) cc_L_46 rfl ⟨by decide, by decide⟩ hb_39 rfl (Nat.le_of_ble_eq_true rfl) dL_isPlain_39 (fun S_7 h => ?_)
  simp only [Nat.add_zero]
  refine cg_iconst C (x := nI 0) rfl dL_isPlain_42 ?_
  refine cg_istore C (lv' := [(10, .int ((nI 0))), (9, .int x9_6), (8, .int x8_5), (7, .int x7_4), (6, .ref q2), (0, .ref x0), (1, .ref x1), (2, .ref x2), (3, .ref x3), (4, .ref x4), (5, .int x5)]) (Nat.le_of_ble_eq_true rfl) rfl dL_isPlain_43 ?_
  refine cg_iconst C (x := nI 0) rfl dL_isPlain_45 ?_
  refine cg_istore C (lv' := [(11, .int ((nI 0))), (10, .int ((nI 0))), (9, .int x9_6), (8, .int x8_5), (7, .int x7_4), (6, .ref q2), (0, .ref x0), (1, .ref x1), (2, .ref x2), (3, .ref x3), (4, .ref x4), (5, .int x5)]) (Nat.le_of_ble_eq_true rfl) rfl dL_isPlain_46 ?_
  refine cg_iconst C (x := nI 0) rfl dL_isPlain_48 ?_
  refine cg_istore C (lv' := [(12, .int ((nI 0))), (11, .int ((nI 0))), (10, .int ((nI 0))), (9, .int x9_6), (8, .int x8_5), (7, .int x7_4), (6, .ref q2), (0, .ref x0), (1, .ref x1), (2, .ref x2), (3, .ref x3), (4, .ref x4), (5, .int x5)]) (Nat.le_of_ble_eq_true rfl) rfl dL_isPlain_49 ?_
  refine cg_iconst C (x := (-1)) rfl dL_isPlain_51 ?_
  refine cg_nmI (fun x13_8 e_x13_8 => ?_)
  have h := h x13_8 e_x13_8
  refine cg_istore C (lv' := [(13, .int x13_8), (12, .int ((nI 0))), (11, .int ((nI 0))), (10, .int ((nI 0))), (9, .int x9_6), (8, .int x8_5), (7, .int x7_4), (6, .ref q2), (0, .ref x0), (1, .ref x1), (2, .ref x2), (3, .ref x3), (4, .ref x4), (5, .int x5)]) (Nat.le_of_ble_eq_true rfl) rfl dL_isPlain_52 ?_
  refine cg_iconst C (x := (-1)) rfl dL_isPlain_54 ?_
  refine cg_nmI (fun x14_9 e_x14_9 => ?_)
  have h := h x14_9 e_x14_9
  refine cg_istore C (lv' := [(14, .int x14_9), (13, .int x13_8), (12, .int ((nI 0))), (11, .int ((nI 0))), (10, .int ((nI 0))), (9, .int x9_6), (8, .int x8_5), (7, .int x7_4), (6, .ref q2), (0, .ref x0), (1, .ref x1), (2, .ref x2), (3, .ref x3), (4, .ref x4), (5, .int x5)]) (Nat.le_of_ble_eq_true rfl) rfl dL_isPlain_55 ?_
  refine cg_iconst C (x := (-1)) rfl dL_isPlain_57 ?_
  refine cg_nmI (fun x15_10 e_x15_10 => ?_)
  have h := h x15_10 e_x15_10
  refine cg_istore C (lv' := [(15, .int x15_10), (14, .int x14_9), (13, .int x13_8), (12, .int ((nI 0))), (11, .int ((nI 0))), (10, .int ((nI 0))), (9, .int x9_6), (8, .int x8_5), (7, .int x7_4), (6, .ref q2), (0, .ref x0), (1, .ref x1), (2, .ref x2), (3, .ref x3), (4, .ref x4), (5, .int x5)]) (Nat.le_of_ble_eq_true rfl) rfl dL_isPlain_58 ?_
  refine cg_iconst C (x := nI 0) rfl dL_isPlain_60 ?_
  refine cg_istore C (lv' := [(16, .int ((nI 0))), (15, .int x15_10), (14, .int x14_9), (13, .int x13_8), (12, .int ((nI 0))), (11, .int ((nI 0))), (10, .int ((nI 0))), (9, .int x9_6), (8, .int x8_5), (7, .int x7_4), (6, .ref q2), (0, .ref x0), (1, .ref x1), (2, .ref x2), (3, .ref x3), (4, .ref x4), (5, .int x5)]) (Nat.le_of_ble_eq_true rfl) rfl dL_isPlain_61 ?_
  exact cg_sub [11, 12, 13, 14, 15, 16, 10, 9, 8, 7, 6, 5, 4, 3, 2, 1, 0] rfl (tl_L_isPlain_63 C   x0 x1 x2 x3 x4 x5 q2 x7_4 x8_5 x9_6 (((nI 0))) (((nI 0))) (((nI 0))) x13_8 x14_9 x15_10 (((nI 0))) (0 + 1) (0 + n1) S_7 h)
section S_L_isIndex
variable {p : Program} {l : Launch} {e : Env} {s : State} {m : MethodId} {args : Array Value} {below : List Frame} {meth : Method} {c : Code} {A : Nat → Prop} {D : va_G} {Y : cY} {tp dp : Nat}
set_option maxRecDepth 20000 in
theorem tb_L_isIndex_256 {mc ms : Nat} (C : cC p s m args meth c cL_isIndex 14 (some .boolean) A D Y tp dp RL) (hlt : l.stackTraces = false) {post : Int32 → cS → Prop} {R139 : Nat → Nat → Nat → Nat → Nat → Nat → Nat → Int32 → Int32 → Nat → Nat → cS → Prop} (hR139 : ∀ (x0 : Nat) (x1 : Nat) (x2 : Nat) (x3 : Nat) (x4 : Nat) (x5 : Nat) (x10 : Nat) (x11 : Int32) (x12 : Int32) (cd dd : Nat) (S : cS), R139 x0 x1 x2 x3 x4 x5 x10 x11 x12 cd dd S → cG p l e (cRm 13 mc ms 310) s m args below meth c A D Y 14 (MQ below (cQi post D Y A) args s mc ms A) cd dd 139 [(0, .ref x0), (1, .ref x1), (2, .ref x2), (3, .ref x3), (4, .ref x4), (5, .ref x5), (10, .ref x10), (11, .int x11), (12, .int x12)] [] S) (x0 : Nat) (x1 : Nat) (x2 : Nat) (x3 : Nat) (x4 : Nat) (x5 : Nat) (x10 : Nat) (x11 : Int32) (x12 : Int32) (cd dd : Nat) (S : cS) (h : k_L_isIndex_256 post dp mc ms R139 x0 x1 x2 x3 x4 x5 x10 x11 x12 cd dd S) : cG p l e (cRm 13 mc ms 310) s m args below meth c A D Y 14 (MQ below (cQi post D Y A) args s mc ms A) cd dd 256 [(0, .ref x0), (1, .ref x1), (2, .ref x2), (3, .ref x3), (4, .ref x4), (5, .ref x5), (10, .ref x10), (11, .int x11), (12, .int x12)] [] S := by
  unfold k_L_isIndex_256 at h
  obtain ⟨x12_3, e_x12_3⟩ : ∃ z : Int32, z = x12 + nI 1 := ⟨_, rfl⟩
  have h := h x12_3 e_x12_3
  refine cg_iinc C (lv' := [(12, .int x12_3), (0, .ref x0), (1, .ref x1), (2, .ref x2), (3, .ref x3), (4, .ref x4), (5, .ref x5), (10, .ref x10), (11, .int x11)]) 8 rfl (by rw [e_x12_3]; rfl) (Nat.le_of_ble_eq_true rfl) rfl dL_isIndex_256 ?_
  refine cg_goto C 139 (by decide) dL_isIndex_259 ?_
  exact cg_sub [1, 2, 3, 4, 5, 6, 7, 8, 0] rfl (hR139 x0 x1 x2 x3 x4 x5 x10 x11 x12_3 cd dd S h)
set_option maxRecDepth 20000 in
theorem tb_L_isIndex_248 {mc ms : Nat} (C : cC p s m args meth c cL_isIndex 14 (some .boolean) A D Y tp dp RL) (hlt : l.stackTraces = false) {post : Int32 → cS → Prop} {R139 : Nat → Nat → Nat → Nat → Nat → Nat → Nat → Int32 → Int32 → Nat → Nat → cS → Prop} {R197 : Nat → Nat → Nat → Nat → Nat → Nat → Nat → Int32 → Int32 → Int32 → Nat → Nat → cS → Prop} (hR139 : ∀ (x0 : Nat) (x1 : Nat) (x2 : Nat) (x3 : Nat) (x4 : Nat) (x5 : Nat) (x10 : Nat) (x11 : Int32) (x12 : Int32) (cd dd : Nat) (S : cS), R139 x0 x1 x2 x3 x4 x5 x10 x11 x12 cd dd S → cG p l e (cRm 13 mc ms 310) s m args below meth c A D Y 14 (MQ below (cQi post D Y A) args s mc ms A) cd dd 139 [(0, .ref x0), (1, .ref x1), (2, .ref x2), (3, .ref x3), (4, .ref x4), (5, .ref x5), (10, .ref x10), (11, .int x11), (12, .int x12)] [] S) (hR197 : ∀ (x0 : Nat) (x1 : Nat) (x2 : Nat) (x3 : Nat) (x4 : Nat) (x5 : Nat) (x10 : Nat) (x11 : Int32) (x12 : Int32) (x13 : Int32) (cd dd : Nat) (S : cS), R197 x0 x1 x2 x3 x4 x5 x10 x11 x12 x13 cd dd S → cG p l e (cRm 13 mc ms 310) s m args below meth c A D Y 14 (MQ below (cQi post D Y A) args s mc ms A) cd dd 197 [(0, .ref x0), (1, .ref x1), (2, .ref x2), (3, .ref x3), (4, .ref x4), (5, .ref x5), (10, .ref x10), (11, .int x11), (12, .int x12), (13, .int x13)] [] S) (x0 : Nat) (x1 : Nat) (x2 : Nat) (x3 : Nat) (x4 : Nat) (x5 : Nat) (x10 : Nat) (x12 : Int32) (x13 : Int32) (t0 : Int32) (cd dd : Nat) (S : cS) (h : k_L_isIndex_248 post dp mc ms R139 R197 x0 x1 x2 x3 x4 x5 x10 x12 x13 t0 cd dd S) : cG p l e (cRm 13 mc ms 310) s m args below meth c A D Y 14 (MQ below (cQi post D Y A) args s mc ms A) cd dd 248 [(0, .ref x0), (1, .ref x1), (2, .ref x2), (3, .ref x3), (4, .ref x4), (5, .ref x5), (10, .ref x10), (12, .int x12), (13, .int x13)] [.int t0] S := by
  unfold k_L_isIndex_248 at h
  refine cg_istore C (lv' := [(11, .int t0), (0, .ref x0), (1, .ref x1), (2, .ref x2), (3, .ref x3), (4, .ref x4), (5, .ref x5), (10, .ref x10), (12, .int x12), (13, .int x13)]) (Nat.le_of_ble_eq_true rfl) rfl dL_isIndex_248 ?_
  obtain ⟨x13_6, e_x13_6⟩ : ∃ z : Int32, z = x13 + nI 1 := ⟨_, rfl⟩
  have h := h x13_6 e_x13_6
  refine cg_iinc C (lv' := [(13, .int x13_6), (11, .int t0), (0, .ref x0), (1, .ref x1), (2, .ref x2), (3, .ref x3), (4, .ref x4), (5, .ref x5), (10, .ref x10), (12, .int x12)]) 9 rfl (by rw [e_x13_6]; rfl) (Nat.le_of_ble_eq_true rfl) rfl dL_isIndex_250 ?_
  refine cg_goto C 197 (by decide) dL_isIndex_253 ?_
  exact cg_sub [2, 3, 4, 5, 6, 7, 8, 1, 9, 0] rfl (hR197 x0 x1 x2 x3 x4 x5 x10 t0 x12 x13_6 cd dd S h)
set_option maxRecDepth 20000 in
theorem tb_L_isIndex_197 {mc ms : Nat} (C : cC p s m args meth c cL_isIndex 14 (some .boolean) A D Y tp dp RL) (hlt : l.stackTraces = false) {post : Int32 → cS → Prop} {R139 : Nat → Nat → Nat → Nat → Nat → Nat → Nat → Int32 → Int32 → Nat → Nat → cS → Prop} {R197 : Nat → Nat → Nat → Nat → Nat → Nat → Nat → Int32 → Int32 → Int32 → Nat → Nat → cS → Prop} (hR139 : ∀ (x0 : Nat) (x1 : Nat) (x2 : Nat) (x3 : Nat) (x4 : Nat) (x5 : Nat) (x10 : Nat) (x11 : Int32) (x12 : Int32) (cd dd : Nat) (S : cS), R139 x0 x1 x2 x3 x4 x5 x10 x11 x12 cd dd S → cG p l e (cRm 13 mc ms 310) s m args below meth c A D Y 14 (MQ below (cQi post D Y A) args s mc ms A) cd dd 139 [(0, .ref x0), (1, .ref x1), (2, .ref x2), (3, .ref x3), (4, .ref x4), (5, .ref x5), (10, .ref x10), (11, .int x11), (12, .int x12)] [] S) (hR197 : ∀ (x0 : Nat) (x1 : Nat) (x2 : Nat) (x3 : Nat) (x4 : Nat) (x5 : Nat) (x10 : Nat) (x11 : Int32) (x12 : Int32) (x13 : Int32) (cd dd : Nat) (S : cS), R197 x0 x1 x2 x3 x4 x5 x10 x11 x12 x13 cd dd S → cG p l e (cRm 13 mc ms 310) s m args below meth c A D Y 14 (MQ below (cQi post D Y A) args s mc ms A) cd dd 197 [(0, .ref x0), (1, .ref x1), (2, .ref x2), (3, .ref x3), (4, .ref x4), (5, .ref x5), (10, .ref x10), (11, .int x11), (12, .int x12), (13, .int x13)] [] S) (x0 : Nat) (x1 : Nat) (x2 : Nat) (x3 : Nat) (x4 : Nat) (x5 : Nat) (x10 : Nat) (x11 : Int32) (x12 : Int32) (x13 : Int32) (cd dd : Nat) (S : cS) (h : k_L_isIndex_197 post dp mc ms R139 R197 x0 x1 x2 x3 x4 x5 x10 x11 x12 x13 cd dd S) : cG p l e (cRm 13 mc ms 310) s m args below meth c A D Y 14 (MQ below (cQi post D Y A) args s mc ms A) cd dd 197 [(0, .ref x0), (1, .ref x1), (2, .ref x2), (3, .ref x3), (4, .ref x4), (5, .ref x5), (10, .ref x10), (11, .int x11), (12, .int x12), (13, .int x13)] [] S := by
  unfold k_L_isIndex_197 at h
  refine cg_iload C 9 rfl dL_isIndex_197 ?_
  refine cg_aload_n C (i := 3) rfl 3 rfl dL_isIndex_199 ?_
  refine cg_aload C 5 rfl dL_isIndex_200 ?_
  refine cg_iload C 8 rfl dL_isIndex_202 ?_
  obtain ⟨hc_204, h⟩ := h
  refine cg_ialoadR C hc_204 dL_isIndex_204 ?_
  obtain ⟨hc_205, h⟩ := h
  refine cg_ialoadR C hc_205 dL_isIndex_205 ?_
  refine cg_icmp_ge C 256 (by decide) dL_isIndex_206 (fun c_ => ?_) (fun c_ => ?_)
  · have h := h.1 c_
    exact cg_sub [0, 1, 2, 3, 4, 5, 6, 7, 8] rfl (tb_L_isIndex_256 C hlt hR139 x0 x1 x2 x3 x4 x5 x10 x11 x12 cd dd S h)
  · have h := h.2 c_
    refine cg_iload C 7 rfl dL_isIndex_209 ?_
    refine cg_if_eq C 256 (by decide) dL_isIndex_211 (fun c_ => ?_) (fun c_ => ?_)
    · have h := h.1 c_
      exact cg_sub [0, 1, 2, 3, 4, 5, 6, 7, 8] rfl (tb_L_isIndex_256 C hlt hR139 x0 x1 x2 x3 x4 x5 x10 x11 x12 cd dd S h)
    · have h := h.2 c_
      refine cg_aload_n C (i := 0) rfl 0 rfl dL_isIndex_214 ?_
      refine cg_iload C 8 rfl dL_isIndex_215 ?_
      refine cg_iload C 9 rfl dL_isIndex_217 ?_
      obtain ⟨hc_219, h⟩ := h
      obtain ⟨hb_219, h⟩ := h
      refine cg_calli C (t_X11_keyAt l x0 x12 x13 S dp h) cc_L_224 hc_219.1 hc_219.2 (by decide) rfl rfl ⟨by decide, by decide⟩ hb_219 rfl (Nat.le_of_ble_eq_true rfl) dL_isIndex_219 (fun r_4 S_4 h => ?_)
      simp only [Nat.add_zero]
      refine cg_aload_n C (i := 1) rfl 1 rfl dL_isIndex_222 ?_
      refine cg_aload_n C (i := 2) rfl 2 rfl dL_isIndex_223 ?_
      refine cg_aload C 5 rfl dL_isIndex_224 ?_
      refine cg_iload C 8 rfl dL_isIndex_226 ?_
      obtain ⟨hc_228, h⟩ := h
      refine cg_ialoadR C hc_228 dL_isIndex_228 ?_
      refine cg_iload C 9 rfl dL_isIndex_229 ?_
      obtain ⟨hb_231, h⟩ := h
      refine cg_callsi C (t_L_record l x2 ((cI S_4 x5 (x12).toNatClampNeg)) x13 S_4 dp h) cc_L_26 rfl ⟨by decide, by decide⟩ hb_231 rfl (Nat.le_of_ble_eq_true rfl) dL_isIndex_231 (fun r_5 S_5 h => ?_)
      simp only [Nat.add_zero]
      obtain ⟨hc_234, h⟩ := h
      refine cg_laloadR C hc_234 dL_isIndex_234 ?_
      refine cg_ldc2 C (x := 15) ck_L_9 dL_isIndex_235 ?_
      refine cg_land C dL_isIndex_238 ?_
      refine cg_l2i C dL_isIndex_239 ?_
      refine cg_icmp_ne C 247 (by decide) dL_isIndex_240 (fun c_ => ?_) (fun c_ => ?_)
      · have h := h.1 c_
        refine cg_iconst C (x := nI 0) rfl dL_isIndex_247 ?_
        exact cg_sub [0, 1, 2, 3, 4, 5, 6, 8, 9] rfl (tb_L_isIndex_248 C hlt hR139 hR197 x0 x1 x2 x3 x4 x5 x10 x12 x13 ((nI 0)) cd dd S_5 h)
      · have h := h.2 c_
        refine cg_iconst C (x := nI 1) rfl dL_isIndex_243 ?_
        refine cg_goto C 248 (by decide) dL_isIndex_244 ?_
        exact cg_sub [0, 1, 2, 3, 4, 5, 6, 8, 9] rfl (tb_L_isIndex_248 C hlt hR139 hR197 x0 x1 x2 x3 x4 x5 x10 x12 x13 ((nI 1)) cd dd S_5 h)
set_option maxRecDepth 20000 in
theorem tl_L_isIndex_197 {mc ms : Nat} (C : cC p s m args meth c cL_isIndex 14 (some .boolean) A D Y tp dp RL) (hlt : l.stackTraces = false) {post : Int32 → cS → Prop} {R139 : Nat → Nat → Nat → Nat → Nat → Nat → Nat → Int32 → Int32 → Nat → Nat → cS → Prop} (hR139 : ∀ (x0 : Nat) (x1 : Nat) (x2 : Nat) (x3 : Nat) (x4 : Nat) (x5 : Nat) (x10 : Nat) (x11 : Int32) (x12 : Int32) (cd dd : Nat) (S : cS), R139 x0 x1 x2 x3 x4 x5 x10 x11 x12 cd dd S → cG p l e (cRm 13 mc ms 310) s m args below meth c A D Y 14 (MQ below (cQi post D Y A) args s mc ms A) cd dd 139 [(0, .ref x0), (1, .ref x1), (2, .ref x2), (3, .ref x3), (4, .ref x4), (5, .ref x5), (10, .ref x10), (11, .int x11), (12, .int x12)] [] S) (x0 : Nat) (x1 : Nat) (x2 : Nat) (x3 : Nat) (x4 : Nat) (x5 : Nat) (x10 : Nat) (x11 : Int32) (x12 : Int32) (x13 : Int32) (cd dd : Nat) (S : cS) (h : k_L_isIndex_197L post dp mc ms R139 x0 x1 x2 x3 x4 x5 x10 x11 x12 x13 cd dd S) : cG p l e (cRm 13 mc ms 310) s m args below meth c A D Y 14 (MQ below (cQi post D Y A) args s mc ms A) cd dd 197 [(0, .ref x0), (1, .ref x1), (2, .ref x2), (3, .ref x3), (4, .ref x4), (5, .ref x5), (10, .ref x10), (11, .int x11), (12, .int x12), (13, .int x13)] [] S :=
  h (fun y => cG p l e (cRm 13 mc ms 310) s m args below meth c A D Y 14 (MQ below (cQi post D Y A) args s mc ms A) (y.2.2.2.2.2.2.2.2.2.2.1) (y.2.2.2.2.2.2.2.2.2.2.2.1) 197 [(0, .ref (y.1)), (1, .ref (y.2.1)), (2, .ref (y.2.2.1)), (3, .ref (y.2.2.2.1)), (4, .ref (y.2.2.2.2.1)), (5, .ref (y.2.2.2.2.2.1)), (10, .ref (y.2.2.2.2.2.2.1)), (11, .int (y.2.2.2.2.2.2.2.1)), (12, .int (y.2.2.2.2.2.2.2.2.1)), (13, .int (y.2.2.2.2.2.2.2.2.2.1))] [] (y.2.2.2.2.2.2.2.2.2.2.2.2)) (fun y hy => tb_L_isIndex_197 C hlt hR139 (fun b0 b1 b2 b3 b4 b5 b6 b7 b8 b9 b10 b11 S z => z) (y.1) (y.2.1) (y.2.2.1) (y.2.2.2.1) (y.2.2.2.2.1) (y.2.2.2.2.2.1) (y.2.2.2.2.2.2.1) (y.2.2.2.2.2.2.2.1) (y.2.2.2.2.2.2.2.2.1) (y.2.2.2.2.2.2.2.2.2.1) (y.2.2.2.2.2.2.2.2.2.2.1) (y.2.2.2.2.2.2.2.2.2.2.2.1) (y.2.2.2.2.2.2.2.2.2.2.2.2) hy)
set_option maxRecDepth 20000 in
theorem tb_L_isIndex_192 {mc ms : Nat} (C : cC p s m args meth c cL_isIndex 14 (some .boolean) A D Y tp dp RL) (hlt : l.stackTraces = false) {post : Int32 → cS → Prop} {R139 : Nat → Nat → Nat → Nat → Nat → Nat → Nat → Int32 → Int32 → Nat → Nat → cS → Prop} (hR139 : ∀ (x0 : Nat) (x1 : Nat) (x2 : Nat) (x3 : Nat) (x4 : Nat) (x5 : Nat) (x10 : Nat) (x11 : Int32) (x12 : Int32) (cd dd : Nat) (S : cS), R139 x0 x1 x2 x3 x4 x5 x10 x11 x12 cd dd S → cG p l e (cRm 13 mc ms 310) s m args below meth c A D Y 14 (MQ below (cQi post D Y A) args s mc ms A) cd dd 139 [(0, .ref x0), (1, .ref x1), (2, .ref x2), (3, .ref x3), (4, .ref x4), (5, .ref x5), (10, .ref x10), (11, .int x11), (12, .int x12)] [] S) (x0 : Nat) (x1 : Nat) (x2 : Nat) (x3 : Nat) (x4 : Nat) (x5 : Nat) (x10 : Nat) (x12 : Int32) (t0 : Int32) (cd dd : Nat) (S : cS) (h : k_L_isIndex_192 post dp mc ms R139 x0 x1 x2 x3 x4 x5 x10 x12 t0 cd dd S) : cG p l e (cRm 13 mc ms 310) s m args below meth c A D Y 14 (MQ below (cQi post D Y A) args s mc ms A) cd dd 192 [(0, .ref x0), (1, .ref x1), (2, .ref x2), (3, .ref x3), (4, .ref x4), (5, .ref x5), (10, .ref x10), (12, .int x12)] [.int t0] S := by
  unfold k_L_isIndex_192 at h
  refine cg_istore C (lv' := [(11, .int t0), (0, .ref x0), (1, .ref x1), (2, .ref x2), (3, .ref x3), (4, .ref x4), (5, .ref x5), (10, .ref x10), (12, .int x12)]) (Nat.le_of_ble_eq_true rfl) rfl dL_isIndex_192 ?_
  refine cg_iconst C (x := nI 0) rfl dL_isIndex_194 ?_
  refine cg_istore C (lv' := [(13, .int ((nI 0))), (11, .int t0), (0, .ref x0), (1, .ref x1), (2, .ref x2), (3, .ref x3), (4, .ref x4), (5, .ref x5), (10, .ref x10), (12, .int x12)]) (Nat.le_of_ble_eq_true rfl) rfl dL_isIndex_195 ?_
  exact cg_sub [2, 3, 4, 5, 6, 7, 8, 1, 9, 0] rfl (tl_L_isIndex_197 C hlt hR139 x0 x1 x2 x3 x4 x5 x10 t0 x12 (((nI 0))) cd dd S h)
set_option maxRecDepth 20000 in
theorem tb_L_isIndex_191 {mc ms : Nat} (C : cC p s m args meth c cL_isIndex 14 (some .boolean) A D Y tp dp RL) (hlt : l.stackTraces = false) {post : Int32 → cS → Prop} {R139 : Nat → Nat → Nat → Nat → Nat → Nat → Nat → Int32 → Int32 → Nat → Nat → cS → Prop} (hR139 : ∀ (x0 : Nat) (x1 : Nat) (x2 : Nat) (x3 : Nat) (x4 : Nat) (x5 : Nat) (x10 : Nat) (x11 : Int32) (x12 : Int32) (cd dd : Nat) (S : cS), R139 x0 x1 x2 x3 x4 x5 x10 x11 x12 cd dd S → cG p l e (cRm 13 mc ms 310) s m args below meth c A D Y 14 (MQ below (cQi post D Y A) args s mc ms A) cd dd 139 [(0, .ref x0), (1, .ref x1), (2, .ref x2), (3, .ref x3), (4, .ref x4), (5, .ref x5), (10, .ref x10), (11, .int x11), (12, .int x12)] [] S) (x0 : Nat) (x1 : Nat) (x2 : Nat) (x3 : Nat) (x4 : Nat) (x5 : Nat) (x10 : Nat) (x12 : Int32) (cd dd : Nat) (S : cS) (h : k_L_isIndex_191 post dp mc ms R139 x0 x1 x2 x3 x4 x5 x10 x12 cd dd S) : cG p l e (cRm 13 mc ms 310) s m args below meth c A D Y 14 (MQ below (cQi post D Y A) args s mc ms A) cd dd 191 [(0, .ref x0), (1, .ref x1), (2, .ref x2), (3, .ref x3), (4, .ref x4), (5, .ref x5), (10, .ref x10), (12, .int x12)] [] S := by
  unfold k_L_isIndex_191 at h
  refine cg_iconst C (x := nI 0) rfl dL_isIndex_191 ?_
  exact cg_sub [0, 1, 2, 3, 4, 5, 6, 7] rfl (tb_L_isIndex_192 C hlt hR139 x0 x1 x2 x3 x4 x5 x10 x12 ((nI 0)) cd dd S h)
set_option maxRecDepth 20000 in
theorem tb_L_isIndex_139 {mc ms : Nat} (C : cC p s m args meth c cL_isIndex 14 (some .boolean) A D Y tp dp RL) (hlt : l.stackTraces = false) {post : Int32 → cS → Prop} {R139 : Nat → Nat → Nat → Nat → Nat → Nat → Nat → Int32 → Int32 → Nat → Nat → cS → Prop} (hR139 : ∀ (x0 : Nat) (x1 : Nat) (x2 : Nat) (x3 : Nat) (x4 : Nat) (x5 : Nat) (x10 : Nat) (x11 : Int32) (x12 : Int32) (cd dd : Nat) (S : cS), R139 x0 x1 x2 x3 x4 x5 x10 x11 x12 cd dd S → cG p l e (cRm 13 mc ms 310) s m args below meth c A D Y 14 (MQ below (cQi post D Y A) args s mc ms A) cd dd 139 [(0, .ref x0), (1, .ref x1), (2, .ref x2), (3, .ref x3), (4, .ref x4), (5, .ref x5), (10, .ref x10), (11, .int x11), (12, .int x12)] [] S) (x0 : Nat) (x1 : Nat) (x2 : Nat) (x3 : Nat) (x4 : Nat) (x5 : Nat) (x10 : Nat) (x11 : Int32) (x12 : Int32) (cd dd : Nat) (S : cS) (h : k_L_isIndex_139 post dp mc ms R139 x0 x1 x2 x3 x4 x5 x10 x11 x12 cd dd S) : cG p l e (cRm 13 mc ms 310) s m args below meth c A D Y 14 (MQ below (cQi post D Y A) args s mc ms A) cd dd 139 [(0, .ref x0), (1, .ref x1), (2, .ref x2), (3, .ref x3), (4, .ref x4), (5, .ref x5), (10, .ref x10), (11, .int x11), (12, .int x12)] [] S := by
  unfold k_L_isIndex_139 at h
  refine cg_iload C 8 rfl dL_isIndex_139 ?_
  refine cg_aload C 6 rfl dL_isIndex_141 ?_
  refine cg_iconst C (x := nI 3) rfl dL_isIndex_143 ?_
  obtain ⟨hc_144, h⟩ := h
  refine cg_ialoadR C hc_144 dL_isIndex_144 ?_
  refine cg_icmp_ge C 262 (by decide) dL_isIndex_145 (fun c_ => ?_) (fun c_ => ?_)
  · have h := h.1 c_
    refine cg_iload C 7 rfl dL_isIndex_262 ?_
    obtain ⟨hb_264, h⟩ := h
    obtain ⟨hz_264, h⟩ := h
    exact cg_zret C (isZ_nar hz_264) h dL_isIndex_264 hb_264.1 hb_264.2
  · have h := h.2 c_
    refine cg_iload C 7 rfl dL_isIndex_148 ?_
    refine cg_if_eq C 262 (by decide) dL_isIndex_150 (fun c_ => ?_) (fun c_ => ?_)
    · have h := h.1 c_
      refine cg_iload C 7 rfl dL_isIndex_262 ?_
      obtain ⟨hb_264, h⟩ := h
      obtain ⟨hz_264, h⟩ := h
      exact cg_zret C (isZ_nar hz_264) h dL_isIndex_264 hb_264.1 hb_264.2
    · have h := h.2 c_
      refine cg_aload_n C (i := 0) rfl 0 rfl dL_isIndex_153 ?_
      refine cg_iload C 8 rfl dL_isIndex_154 ?_
      obtain ⟨hc_156, h⟩ := h
      obtain ⟨hb_156, h⟩ := h
      refine cg_calli C (t_X11_segmentAt l x0 x12 S dp h) cc_L_215 hc_156.1 hc_156.2 (by decide) rfl rfl ⟨by decide, by decide⟩ hb_156 rfl (Nat.le_of_ble_eq_true rfl) dL_isIndex_156 (fun r_2 S_2 h => ?_)
      simp only [Nat.add_zero]
      refine cg_aload C 5 rfl dL_isIndex_159 ?_
      refine cg_iload C 8 rfl dL_isIndex_161 ?_
      obtain ⟨hc_163, h⟩ := h
      refine cg_ialoadR C hc_163 dL_isIndex_163 ?_
      refine cg_icmp_ne C 191 (by decide) dL_isIndex_164 (fun c_ => ?_) (fun c_ => ?_)
      · have h := h.1 c_
        exact cg_sub [0, 1, 2, 3, 4, 5, 6, 8] rfl (tb_L_isIndex_191 C hlt hR139 x0 x1 x2 x3 x4 x5 x10 x12 cd dd S_2 h)
      · have h := h.2 c_
        refine cg_aload_n C (i := 0) rfl 0 rfl dL_isIndex_167 ?_
        refine cg_iload C 8 rfl dL_isIndex_168 ?_
        obtain ⟨hc_170, h⟩ := h
        obtain ⟨hb_170, h⟩ := h
        refine cg_calli C (t_X11_live l x0 x12 S_2 dp h) cc_L_218 hc_170.1 hc_170.2 (by decide) rfl rfl ⟨by decide, by decide⟩ hb_170 rfl (Nat.le_of_ble_eq_true rfl) dL_isIndex_170 (fun r_7 S_7 h => ?_)
        simp only [Nat.add_zero]
        refine cg_aload C 4 rfl dL_isIndex_173 ?_
        refine cg_aload C 5 rfl dL_isIndex_175 ?_
        refine cg_iload C 8 rfl dL_isIndex_177 ?_
        obtain ⟨hc_179, h⟩ := h
        refine cg_ialoadR C hc_179 dL_isIndex_179 ?_
        obtain ⟨hc_180, h⟩ := h
        refine cg_ialoadR C hc_180 dL_isIndex_180 ?_
        obtain ⟨hb_181, h⟩ := h
        refine cg_callsi C (t_L_ones l ((cI S_7 x4 ((cI S_7 x5 (x12).toNatClampNeg)).toNatClampNeg)) S_7 dp h) cc_L_221 rfl ⟨by decide, by decide⟩ hb_181 rfl (Nat.le_of_ble_eq_true rfl) dL_isIndex_181 (fun r_8 S_8 h => ?_)
        simp only [Nat.add_zero]
        refine cg_icmp_ne C 191 (by decide) dL_isIndex_184 (fun c_ => ?_) (fun c_ => ?_)
        · have h := h.1 c_
          exact cg_sub [0, 1, 2, 3, 4, 5, 6, 8] rfl (tb_L_isIndex_191 C hlt hR139 x0 x1 x2 x3 x4 x5 x10 x12 cd dd S_8 h)
        · have h := h.2 c_
          refine cg_iconst C (x := nI 1) rfl dL_isIndex_187 ?_
          refine cg_goto C 192 (by decide) dL_isIndex_188 ?_
          exact cg_sub [0, 1, 2, 3, 4, 5, 6, 8] rfl (tb_L_isIndex_192 C hlt hR139 x0 x1 x2 x3 x4 x5 x10 x12 ((nI 1)) cd dd S_8 h)
set_option maxRecDepth 20000 in
theorem tl_L_isIndex_139 {mc ms : Nat} (C : cC p s m args meth c cL_isIndex 14 (some .boolean) A D Y tp dp RL) (hlt : l.stackTraces = false) {post : Int32 → cS → Prop}   (x0 : Nat) (x1 : Nat) (x2 : Nat) (x3 : Nat) (x4 : Nat) (x5 : Nat) (x10 : Nat) (x11 : Int32) (x12 : Int32) (cd dd : Nat) (S : cS) (h : k_L_isIndex_139L post dp mc ms  x0 x1 x2 x3 x4 x5 x10 x11 x12 cd dd S) : cG p l e (cRm 13 mc ms 310) s m args below meth c A D Y 14 (MQ below (cQi post D Y A) args s mc ms A) cd dd 139 [(0, .ref x0), (1, .ref x1), (2, .ref x2), (3, .ref x3), (4, .ref x4), (5, .ref x5), (10, .ref x10), (11, .int x11), (12, .int x12)] [] S :=
  h (fun y => cG p l e (cRm 13 mc ms 310) s m args below meth c A D Y 14 (MQ below (cQi post D Y A) args s mc ms A) (y.2.2.2.2.2.2.2.2.2.1) (y.2.2.2.2.2.2.2.2.2.2.1) 139 [(0, .ref (y.1)), (1, .ref (y.2.1)), (2, .ref (y.2.2.1)), (3, .ref (y.2.2.2.1)), (4, .ref (y.2.2.2.2.1)), (5, .ref (y.2.2.2.2.2.1)), (10, .ref (y.2.2.2.2.2.2.1)), (11, .int (y.2.2.2.2.2.2.2.1)), (12, .int (y.2.2.2.2.2.2.2.2.1))] [] (y.2.2.2.2.2.2.2.2.2.2.2)) (fun y hy => tb_L_isIndex_139 C hlt  (fun b0 b1 b2 b3 b4 b5 b6 b7 b8 b9 b10 S z => z) (y.1) (y.2.1) (y.2.2.1) (y.2.2.2.1) (y.2.2.2.2.1) (y.2.2.2.2.2.1) (y.2.2.2.2.2.2.1) (y.2.2.2.2.2.2.2.1) (y.2.2.2.2.2.2.2.2.1) (y.2.2.2.2.2.2.2.2.2.1) (y.2.2.2.2.2.2.2.2.2.2.1) (y.2.2.2.2.2.2.2.2.2.2.2) hy)
set_option maxRecDepth 20000 in
theorem tb_L_isIndex_134 {mc ms : Nat} (C : cC p s m args meth c cL_isIndex 14 (some .boolean) A D Y tp dp RL) (hlt : l.stackTraces = false) {post : Int32 → cS → Prop}   (x0 : Nat) (x1 : Nat) (x2 : Nat) (x3 : Nat) (x4 : Nat) (x5 : Nat) (x10 : Nat) (t0 : Int32) (cd dd : Nat) (S : cS) (h : k_L_isIndex_134 post dp mc ms  x0 x1 x2 x3 x4 x5 x10 t0 cd dd S) : cG p l e (cRm 13 mc ms 310) s m args below meth c A D Y 14 (MQ below (cQi post D Y A) args s mc ms A) cd dd 134 [(0, .ref x0), (1, .ref x1), (2, .ref x2), (3, .ref x3), (4, .ref x4), (5, .ref x5), (10, .ref x10)] [.int t0] S := by
  unfold k_L_isIndex_134 at h
  refine cg_istore C (lv' := [(11, .int t0), (0, .ref x0), (1, .ref x1), (2, .ref x2), (3, .ref x3), (4, .ref x4), (5, .ref x5), (10, .ref x10)]) (Nat.le_of_ble_eq_true rfl) rfl dL_isIndex_134 ?_
  refine cg_iconst C (x := nI 0) rfl dL_isIndex_136 ?_
  refine cg_istore C (lv' := [(12, .int ((nI 0))), (11, .int t0), (0, .ref x0), (1, .ref x1), (2, .ref x2), (3, .ref x3), (4, .ref x4), (5, .ref x5), (10, .ref x10)]) (Nat.le_of_ble_eq_true rfl) rfl dL_isIndex_137 ?_
  exact cg_sub [2, 3, 4, 5, 6, 7, 8, 1, 0] rfl (tl_L_isIndex_139 C hlt  x0 x1 x2 x3 x4 x5 x10 t0 (((nI 0))) cd dd S h)
set_option maxRecDepth 20000 in
theorem tb_L_isIndex_133 {mc ms : Nat} (C : cC p s m args meth c cL_isIndex 14 (some .boolean) A D Y tp dp RL) (hlt : l.stackTraces = false) {post : Int32 → cS → Prop}   (x0 : Nat) (x1 : Nat) (x2 : Nat) (x3 : Nat) (x4 : Nat) (x5 : Nat) (x10 : Nat) (cd dd : Nat) (S : cS) (h : k_L_isIndex_133 post dp mc ms  x0 x1 x2 x3 x4 x5 x10 cd dd S) : cG p l e (cRm 13 mc ms 310) s m args below meth c A D Y 14 (MQ below (cQi post D Y A) args s mc ms A) cd dd 133 [(0, .ref x0), (1, .ref x1), (2, .ref x2), (3, .ref x3), (4, .ref x4), (5, .ref x5), (10, .ref x10)] [] S := by
  unfold k_L_isIndex_133 at h
  refine cg_iconst C (x := nI 0) rfl dL_isIndex_133 ?_
  exact cg_sub [0, 1, 2, 3, 4, 5, 6] rfl (tb_L_isIndex_134 C hlt  x0 x1 x2 x3 x4 x5 x10 ((nI 0)) cd dd S h)
set_option maxRecDepth 20000 in
theorem tb_L_isIndex_126 {mc ms : Nat} (C : cC p s m args meth c cL_isIndex 14 (some .boolean) A D Y tp dp RL) (hlt : l.stackTraces = false) {post : Int32 → cS → Prop}   (x0 : Nat) (x1 : Nat) (x2 : Nat) (x3 : Nat) (x4 : Nat) (x5 : Nat) (x10 : Nat) (t0 : Int32) (t1 : Int32) (cd dd : Nat) (S : cS) (h : k_L_isIndex_126 post dp mc ms  x0 x1 x2 x3 x4 x5 x10 t0 t1 cd dd S) : cG p l e (cRm 13 mc ms 310) s m args below meth c A D Y 14 (MQ below (cQi post D Y A) args s mc ms A) cd dd 126 [(0, .ref x0), (1, .ref x1), (2, .ref x2), (3, .ref x3), (4, .ref x4), (5, .ref x5), (10, .ref x10)] [.int t0, .int t1] S := by
  unfold k_L_isIndex_126 at h
  refine cg_icmp_ne C 133 (by decide) dL_isIndex_126 (fun c_ => ?_) (fun c_ => ?_)
  · have h := h.1 c_
    exact cg_sub [0, 1, 2, 3, 4, 5, 6] rfl (tb_L_isIndex_133 C hlt  x0 x1 x2 x3 x4 x5 x10 cd dd S h)
  · have h := h.2 c_
    refine cg_iconst C (x := nI 1) rfl dL_isIndex_129 ?_
    refine cg_goto C 134 (by decide) dL_isIndex_130 ?_
    exact cg_sub [0, 1, 2, 3, 4, 5, 6] rfl (tb_L_isIndex_134 C hlt  x0 x1 x2 x3 x4 x5 x10 ((nI 1)) cd dd S h)
set_option maxRecDepth 20000 in
theorem tb_L_isIndex_87 {mc ms : Nat} (C : cC p s m args meth c cL_isIndex 14 (some .boolean) A D Y tp dp RL) (hlt : l.stackTraces = false) {post : Int32 → cS → Prop}   (x0 : Nat) (x1 : Nat) (x2 : Nat) (x3 : Nat) (x4 : Nat) (x5 : Nat) (x6 : Nat) (x7 : Nat) (x8 : Nat) (x9 : Nat) (x10 : Nat) (t0 : Int32) (t1 : Int32) (cd dd : Nat) (S : cS) (h : k_L_isIndex_87 post dp mc ms  x0 x1 x2 x3 x4 x5 x6 x7 x8 x9 x10 t0 t1 cd dd S) : cG p l e (cRm 13 mc ms 310) s m args below meth c A D Y 14 (MQ below (cQi post D Y A) args s mc ms A) cd dd 87 [(0, .ref x0), (1, .ref x1), (2, .ref x2), (3, .ref x3), (4, .ref x4), (5, .ref x5), (6, .ref x6), (7, .ref x7), (8, .ref x8), (9, .ref x9), (10, .ref x10)] [.int t0, .int t1] S := by
  unfold k_L_isIndex_87 at h
  refine cg_icmp_ne C 133 (by decide) dL_isIndex_87 (fun c_ => ?_) (fun c_ => ?_)
  · have h := h.1 c_
    exact cg_sub [0, 1, 2, 3, 4, 5, 10] rfl (tb_L_isIndex_133 C hlt  x0 x1 x2 x3 x4 x5 x10 cd dd S h)
  · have h := h.2 c_
    refine cg_aload_n C (i := 0) rfl 0 rfl dL_isIndex_90 ?_
    refine cg_bipush C (x := nI 7) rfl dL_isIndex_91 ?_
    obtain ⟨mc17, ms18, hm_1, hm_2, h⟩ := h
    refine cg_callsWi C (tw_L_did l hlt mc17 ms18 x0 ((nI 7)) S dp h) cc_L_205 rfl ⟨by decide, by decide⟩ ⟨hm_1, hm_2⟩ rfl (Nat.le_of_ble_eq_true rfl) dL_isIndex_93 (fun r_19 S_19 h => ?_)
    refine cg_aload C 10 rfl dL_isIndex_96 ?_
    refine cg_bipush C (x := nI 6) rfl dL_isIndex_98 ?_
    obtain ⟨hc_100, h⟩ := h
    refine cg_ialoadR C hc_100 dL_isIndex_100 ?_
    refine cg_iconst C (x := nI 1) rfl dL_isIndex_101 ?_
    refine cg_icmp_ne C 110 (by decide) dL_isIndex_102 (fun c_ => ?_) (fun c_ => ?_)
    · have h := h.1 c_
      refine cg_aload_n C (i := 3) rfl 3 rfl dL_isIndex_110 ?_
      refine cg_aload C 5 rfl dL_isIndex_111 ?_
      refine cg_aload C 6 rfl dL_isIndex_113 ?_
      refine cg_aload C 7 rfl dL_isIndex_115 ?_
      refine cg_aload C 8 rfl dL_isIndex_117 ?_
      refine cg_aload C 9 rfl dL_isIndex_119 ?_
      refine cg_aload C 10 rfl dL_isIndex_121 ?_
      obtain ⟨hb_123, h⟩ := h
      refine cg_callsi C (t_L_files l x3 x5 x6 x7 x8 x9 x10 S_19 dp h) cc_L_212 rfl ⟨by decide, by decide⟩ hb_123 rfl (Nat.le_of_ble_eq_true rfl) dL_isIndex_123 (fun r_20 S_20 h => ?_)
      simp only [Nat.add_zero]
      exact cg_sub [0, 1, 2, 3, 4, 5, 10] rfl (tb_L_isIndex_126 C hlt  x0 x1 x2 x3 x4 x5 x10 r_20 r_19 (cd + mc17) (dd + ms18) S_20 h)
    · have h := h.2 c_
      refine cg_bipush C (x := (-7)) rfl dL_isIndex_105 ?_
      refine cg_goto C 126 (by decide) dL_isIndex_107 ?_
      exact cg_sub [0, 1, 2, 3, 4, 5, 10] rfl (tb_L_isIndex_126 C hlt  x0 x1 x2 x3 x4 x5 x10 (((-7))) r_19 (cd + mc17) (dd + ms18) S_19 h)
set_option maxRecDepth 20000 in
theorem tb_L_isIndex_56 {mc ms : Nat} (C : cC p s m args meth c cL_isIndex 14 (some .boolean) A D Y tp dp RL) (hlt : l.stackTraces = false) {post : Int32 → cS → Prop}   (x0 : Nat) (x1 : Nat) (x2 : Nat) (x3 : Nat) (x4 : Nat) (x5 : Nat) (x6 : Nat) (x7 : Nat) (x8 : Nat) (x9 : Nat) (x10 : Nat) (t0 : Int32) (t1 : Int32) (cd dd : Nat) (S : cS) (h : k_L_isIndex_56 post dp mc ms  x0 x1 x2 x3 x4 x5 x6 x7 x8 x9 x10 t0 t1 cd dd S) : cG p l e (cRm 13 mc ms 310) s m args below meth c A D Y 14 (MQ below (cQi post D Y A) args s mc ms A) cd dd 56 [(0, .ref x0), (1, .ref x1), (2, .ref x2), (3, .ref x3), (4, .ref x4), (5, .ref x5), (6, .ref x6), (7, .ref x7), (8, .ref x8), (9, .ref x9), (10, .ref x10)] [.int t0, .int t1] S := by
  unfold k_L_isIndex_56 at h
  refine cg_icmp_ne C 133 (by decide) dL_isIndex_56 (fun c_ => ?_) (fun c_ => ?_)
  · have h := h.1 c_
    exact cg_sub [0, 1, 2, 3, 4, 5, 10] rfl (tb_L_isIndex_133 C hlt  x0 x1 x2 x3 x4 x5 x10 cd dd S h)
  · have h := h.2 c_
    refine cg_aload_n C (i := 0) rfl 0 rfl dL_isIndex_59 ?_
    refine cg_bipush C (x := nI 8) rfl dL_isIndex_60 ?_
    obtain ⟨mc13, ms14, hm_1, hm_2, h⟩ := h
    refine cg_callsWi C (tw_L_did l hlt mc13 ms14 x0 ((nI 8)) S dp h) cc_L_205 rfl ⟨by decide, by decide⟩ ⟨hm_1, hm_2⟩ rfl (Nat.le_of_ble_eq_true rfl) dL_isIndex_62 (fun r_15 S_15 h => ?_)
    refine cg_aload C 10 rfl dL_isIndex_65 ?_
    refine cg_bipush C (x := nI 6) rfl dL_isIndex_67 ?_
    obtain ⟨hc_69, h⟩ := h
    refine cg_ialoadR C hc_69 dL_isIndex_69 ?_
    refine cg_iconst C (x := nI 1) rfl dL_isIndex_70 ?_
    refine cg_icmp_ne C 79 (by decide) dL_isIndex_71 (fun c_ => ?_) (fun c_ => ?_)
    · have h := h.1 c_
      refine cg_aload_n C (i := 3) rfl 3 rfl dL_isIndex_79 ?_
      refine cg_aload C 5 rfl dL_isIndex_80 ?_
      refine cg_aload C 10 rfl dL_isIndex_82 ?_
      obtain ⟨hb_84, h⟩ := h
      refine cg_callsi C (t_L_due l x3 x5 x10 S_15 dp h) cc_L_209 rfl ⟨by decide, by decide⟩ hb_84 rfl (Nat.le_of_ble_eq_true rfl) dL_isIndex_84 (fun r_16 S_16 h => ?_)
      simp only [Nat.add_zero]
      exact cg_sub [0, 1, 2, 3, 4, 5, 6, 7, 8, 9, 10] rfl (tb_L_isIndex_87 C hlt  x0 x1 x2 x3 x4 x5 x6 x7 x8 x9 x10 r_16 r_15 (cd + mc13) (dd + ms14) S_16 h)
    · have h := h.2 c_
      refine cg_bipush C (x := (-7)) rfl dL_isIndex_74 ?_
      refine cg_goto C 87 (by decide) dL_isIndex_76 ?_
      exact cg_sub [0, 1, 2, 3, 4, 5, 6, 7, 8, 9, 10] rfl (tb_L_isIndex_87 C hlt  x0 x1 x2 x3 x4 x5 x6 x7 x8 x9 x10 (((-7))) r_15 (cd + mc13) (dd + ms14) S_15 h)
set_option maxRecDepth 20000 in
theorem tb_L_isIndex_18 {mc ms : Nat} (C : cC p s m args meth c cL_isIndex 14 (some .boolean) A D Y tp dp RL) (hlt : l.stackTraces = false) {post : Int32 → cS → Prop}   (x0 : Nat) (x1 : Nat) (x2 : Nat) (x3 : Nat) (x4 : Nat) (x5 : Nat) (x6 : Nat) (x7 : Nat) (x8 : Nat) (x9 : Nat) (x10 : Nat) (t0 : Int32) (t1 : Int32) (cd dd : Nat) (S : cS) (h : k_L_isIndex_18 post dp mc ms  x0 x1 x2 x3 x4 x5 x6 x7 x8 x9 x10 t0 t1 cd dd S) : cG p l e (cRm 13 mc ms 310) s m args below meth c A D Y 14 (MQ below (cQi post D Y A) args s mc ms A) cd dd 18 [(0, .ref x0), (1, .ref x1), (2, .ref x2), (3, .ref x3), (4, .ref x4), (5, .ref x5), (6, .ref x6), (7, .ref x7), (8, .ref x8), (9, .ref x9), (10, .ref x10)] [.int t0, .int t1] S := by
  unfold k_L_isIndex_18 at h
  refine cg_icmp_ne C 133 (by decide) dL_isIndex_18 (fun c_ => ?_) (fun c_ => ?_)
  · have h := h.1 c_
    exact cg_sub [0, 1, 2, 3, 4, 5, 10] rfl (tb_L_isIndex_133 C hlt  x0 x1 x2 x3 x4 x5 x10 cd dd S h)
  · have h := h.2 c_
    refine cg_aload_n C (i := 0) rfl 0 rfl dL_isIndex_21 ?_
    obtain ⟨hc_22, h⟩ := h
    obtain ⟨hb_22, h⟩ := h
    refine cg_calli C (t_X11_writes l x0 S dp h) cc_L_203 hc_22.1 hc_22.2 (by decide) rfl rfl ⟨by decide, by decide⟩ hb_22 rfl (Nat.le_of_ble_eq_true rfl) dL_isIndex_22 (fun r_9 S_9 h => ?_)
    simp only [Nat.add_zero]
    refine cg_aload C 10 rfl dL_isIndex_25 ?_
    refine cg_iconst C (x := nI 4) rfl dL_isIndex_27 ?_
    obtain ⟨hc_28, h⟩ := h
    refine cg_ialoadR C hc_28 dL_isIndex_28 ?_
    refine cg_icmp_ne C 133 (by decide) dL_isIndex_29 (fun c_ => ?_) (fun c_ => ?_)
    · have h := h.1 c_
      exact cg_sub [0, 1, 2, 3, 4, 5, 10] rfl (tb_L_isIndex_133 C hlt  x0 x1 x2 x3 x4 x5 x10 cd dd S_9 h)
    · have h := h.2 c_
      refine cg_aload_n C (i := 0) rfl 0 rfl dL_isIndex_32 ?_
      refine cg_bipush C (x := nI 9) rfl dL_isIndex_33 ?_
      obtain ⟨mc10, ms11, hm_1, hm_2, h⟩ := h
      refine cg_callsWi C (tw_L_did l hlt mc10 ms11 x0 ((nI 9)) S_9 dp h) cc_L_205 rfl ⟨by decide, by decide⟩ ⟨hm_1, hm_2⟩ rfl (Nat.le_of_ble_eq_true rfl) dL_isIndex_35 (fun r_12 S_12 h => ?_)
      refine cg_aload C 10 rfl dL_isIndex_38 ?_
      refine cg_bipush C (x := nI 6) rfl dL_isIndex_40 ?_
      obtain ⟨hc_42, h⟩ := h
      refine cg_ialoadR C hc_42 dL_isIndex_42 ?_
      refine cg_iconst C (x := nI 1) rfl dL_isIndex_43 ?_
      refine cg_icmp_ne C 52 (by decide) dL_isIndex_44 (fun c_ => ?_) (fun c_ => ?_)
      · have h := h.1 c_
        refine cg_aload C 10 rfl dL_isIndex_52 ?_
        refine cg_iconst C (x := nI 3) rfl dL_isIndex_54 ?_
        obtain ⟨hc_55, h⟩ := h
        refine cg_ialoadR C hc_55 dL_isIndex_55 ?_
        exact cg_sub [0, 1, 2, 3, 4, 5, 6, 7, 8, 9, 10] rfl (tb_L_isIndex_56 C hlt  x0 x1 x2 x3 x4 x5 x6 x7 x8 x9 x10 ((cI S_12 x10 ((nI 3)).toNatClampNeg)) r_12 (cd + mc10) (dd + ms11) S_12 h)
      · have h := h.2 c_
        refine cg_bipush C (x := (-7)) rfl dL_isIndex_47 ?_
        refine cg_goto C 56 (by decide) dL_isIndex_49 ?_
        exact cg_sub [0, 1, 2, 3, 4, 5, 6, 7, 8, 9, 10] rfl (tb_L_isIndex_56 C hlt  x0 x1 x2 x3 x4 x5 x6 x7 x8 x9 x10 (((-7))) r_12 (cd + mc10) (dd + ms11) S_12 h)
end S_L_isIndex
set_option maxHeartbeats 1000000 in
set_option maxRecDepth 20000 in
theorem t_L_isIndex (l : Launch) (hlt : l.stackTraces = false) (mc ms : Nat) (x0 : Nat) (x1 : Nat) (x2 : Nat) (x3 : Nat) (x4 : Nat) (x5 : Nat) (x6 : Nat) (x7 : Nat) (x8 : Nat) (x9 : Nat) (x10 : Nat) (S : cS) (dp : Nat) {P : Int32 → cS → Prop} (h : k_L_isIndex P dp mc ms x0 x1 x2 x3 x4 x5 x6 x7 x8 x9 x10 S) : cMet (cQi P) l yL_isIndex cL_isIndex 14 (some .boolean) 13 mc ms 310 [.ref x0, .ref x1, .ref x2, .ref x3, .ref x4, .ref x5, .ref x6, .ref x7, .ref x8, .ref x9, .ref x10] S dp := by
  intro D Y tp sz
  refine cg_body (by decide +kernel) (Nat.le_of_ble_eq_true rfl) ?_
  intro p e s m args below meth c C
  generalize va_A (cWd Y S) sz = A at C ⊢
  have C : cC p s m args meth c cL_isIndex 14 (some .boolean) A D Y tp dp RL := C
  refine cg_lv (lv' := [(0, .ref x0), (1, .ref x1), (2, .ref x2), (3, .ref x3), (4, .ref x4), (5, .ref x5), (6, .ref x6), (7, .ref x7), (8, .ref x8), (9, .ref x9), (10, .ref x10)]) rfl ?_
  unfold k_L_isIndex at h
  refine cg_aload_n C (i := 0) rfl 0 rfl dL_isIndex_0 ?_
  obtain ⟨hc_1, h⟩ := h
  obtain ⟨hb_1, h⟩ := h
  refine cg_calli C (t_X11_isDown l x0 S dp h) cc_L_199 hc_1.1 hc_1.2 (by decide) rfl rfl ⟨by decide, by decide⟩ hb_1 rfl (Nat.le_of_ble_eq_true rfl) dL_isIndex_1 (fun r_1 S_1 h => ?_)
  simp only [Nat.add_zero]
  refine cg_aload C 10 rfl dL_isIndex_4 ?_
  refine cg_bipush C (x := nI 6) rfl dL_isIndex_6 ?_
  obtain ⟨hc_8, h⟩ := h
  refine cg_ialoadR C hc_8 dL_isIndex_8 ?_
  refine cg_iconst C (x := nI 1) rfl dL_isIndex_9 ?_
  refine cg_icmp_ne C 17 (by decide) dL_isIndex_10 (fun c_ => ?_) (fun c_ => ?_)
  · have h := h.1 c_
    refine cg_iconst C (x := nI 0) rfl dL_isIndex_17 ?_
    exact cg_sub [0, 1, 2, 3, 4, 5, 6, 7, 8, 9, 10] rfl (tb_L_isIndex_18 C hlt  x0 x1 x2 x3 x4 x5 x6 x7 x8 x9 x10 ((nI 0)) r_1 0 0 S_1 h)
  · have h := h.2 c_
    refine cg_iconst C (x := nI 1) rfl dL_isIndex_13 ?_
    refine cg_goto C 18 (by decide) dL_isIndex_14 ?_
    exact cg_sub [0, 1, 2, 3, 4, 5, 6, 7, 8, 9, 10] rfl (tb_L_isIndex_18 C hlt  x0 x1 x2 x3 x4 x5 x6 x7 x8 x9 x10 ((nI 1)) r_1 0 0 S_1 h)
section S_L_deletes
variable {p : Program} {l : Launch} {e : Env} {s : State} {m : MethodId} {args : Array Value} {below : List Frame} {meth : Method} {c : Code} {A : Nat → Prop} {D : va_G} {Y : cY} {tp dp : Nat}
set_option maxRecDepth 20000 in
theorem tb_L_deletes_188 (C : cC p s m args meth c cL_deletes 13 (some .int) A D Y tp dp RL) {post : Int32 → cS → Prop} {R78 : Nat → Nat → Nat → Nat → Nat → Nat → Int32 → Int32 → Int32 → cS → Prop} {R90 : Nat → Nat → Nat → Nat → Nat → Nat → Int32 → Int32 → Int32 → Int32 → cS → Prop} (hR78 : ∀ (x0 : Nat) (x2 : Nat) (x3 : Nat) (x4 : Nat) (x5 : Nat) (x6 : Nat) (x7 : Int32) (x9 : Int32) (x10 : Int32) (S : cS), R78 x0 x2 x3 x4 x5 x6 x7 x9 x10 S → cG p l e (cRm 1 0 0 22) s m args below meth c A D Y 13 (MQ below (cQi post D Y A) args s 0 0 A) 0 0 78 [(0, .ref x0), (2, .ref x2), (3, .ref x3), (4, .ref x4), (5, .ref x5), (6, .ref x6), (7, .int x7), (9, .int x9), (10, .int x10)] [] S) (hR90 : ∀ (x0 : Nat) (x2 : Nat) (x3 : Nat) (x4 : Nat) (x5 : Nat) (x6 : Nat) (x7 : Int32) (x9 : Int32) (x10 : Int32) (x11 : Int32) (S : cS), R90 x0 x2 x3 x4 x5 x6 x7 x9 x10 x11 S → cG p l e (cRm 1 0 0 22) s m args below meth c A D Y 13 (MQ below (cQi post D Y A) args s 0 0 A) 0 0 90 [(0, .ref x0), (2, .ref x2), (3, .ref x3), (4, .ref x4), (5, .ref x5), (6, .ref x6), (7, .int x7), (9, .int x9), (10, .int x10), (11, .int x11)] [] S) (x0 : Nat) (x2 : Nat) (x3 : Nat) (x4 : Nat) (x5 : Nat) (x6 : Nat) (x7 : Int32) (x10 : Int32) (x11 : Int32) (t0 : Int32) (t1 : Int32) (S : cS) (h : k_L_deletes_188 post dp R78 R90 x0 x2 x3 x4 x5 x6 x7 x10 x11 t0 t1 S) : cG p l e (cRm 1 0 0 22) s m args below meth c A D Y 13 (MQ below (cQi post D Y A) args s 0 0 A) 0 0 188 [(0, .ref x0), (2, .ref x2), (3, .ref x3), (4, .ref x4), (5, .ref x5), (6, .ref x6), (7, .int x7), (10, .int x10), (11, .int x11)] [.int t0, .int t1] S := by
  unfold k_L_deletes_188 at h
  refine cg_iadd C dL_deletes_188 ?_
  refine cg_nmI (fun x9_5 e_x9_5 => ?_)
  have h := h x9_5 e_x9_5
  refine cg_istore C (lv' := [(9, .int x9_5), (0, .ref x0), (2, .ref x2), (3, .ref x3), (4, .ref x4), (5, .ref x5), (6, .ref x6), (7, .int x7), (10, .int x10), (11, .int x11)]) (Nat.le_of_ble_eq_true rfl) rfl dL_deletes_189 ?_
  obtain ⟨x11_6, e_x11_6⟩ : ∃ z : Int32, z = x11 + nI 1 := ⟨_, rfl⟩
  have h := h x11_6 e_x11_6
  refine cg_iinc C (lv' := [(11, .int x11_6), (9, .int x9_5), (0, .ref x0), (2, .ref x2), (3, .ref x3), (4, .ref x4), (5, .ref x5), (6, .ref x6), (7, .int x7), (10, .int x10)]) 9 rfl (by rw [e_x11_6]; rfl) (Nat.le_of_ble_eq_true rfl) rfl dL_deletes_191 ?_
  refine cg_goto C 90 (by decide) dL_deletes_194 ?_
  exact cg_sub [2, 3, 4, 5, 6, 7, 8, 1, 9, 0] rfl (hR90 x0 x2 x3 x4 x5 x6 x7 x9_5 x10 x11_6 S h)
set_option maxRecDepth 20000 in
theorem tb_L_deletes_174 (C : cC p s m args meth c cL_deletes 13 (some .int) A D Y tp dp RL) {post : Int32 → cS → Prop} {R78 : Nat → Nat → Nat → Nat → Nat → Nat → Int32 → Int32 → Int32 → cS → Prop} {R90 : Nat → Nat → Nat → Nat → Nat → Nat → Int32 → Int32 → Int32 → Int32 → cS → Prop} (hR78 : ∀ (x0 : Nat) (x2 : Nat) (x3 : Nat) (x4 : Nat) (x5 : Nat) (x6 : Nat) (x7 : Int32) (x9 : Int32) (x10 : Int32) (S : cS), R78 x0 x2 x3 x4 x5 x6 x7 x9 x10 S → cG p l e (cRm 1 0 0 22) s m args below meth c A D Y 13 (MQ below (cQi post D Y A) args s 0 0 A) 0 0 78 [(0, .ref x0), (2, .ref x2), (3, .ref x3), (4, .ref x4), (5, .ref x5), (6, .ref x6), (7, .int x7), (9, .int x9), (10, .int x10)] [] S) (hR90 : ∀ (x0 : Nat) (x2 : Nat) (x3 : Nat) (x4 : Nat) (x5 : Nat) (x6 : Nat) (x7 : Int32) (x9 : Int32) (x10 : Int32) (x11 : Int32) (S : cS), R90 x0 x2 x3 x4 x5 x6 x7 x9 x10 x11 S → cG p l e (cRm 1 0 0 22) s m args below meth c A D Y 13 (MQ below (cQi post D Y A) args s 0 0 A) 0 0 90 [(0, .ref x0), (2, .ref x2), (3, .ref x3), (4, .ref x4), (5, .ref x5), (6, .ref x6), (7, .int x7), (9, .int x9), (10, .int x10), (11, .int x11)] [] S) (x0 : Nat) (x2 : Nat) (x3 : Nat) (x4 : Nat) (x5 : Nat) (x6 : Nat) (x7 : Int32) (x9 : Int32) (x10 : Int32) (x11 : Int32) (x12 : Int32) (t0 : Int32) (t1 : Int32) (t2 : Int32) (t3 : Nat) (S : cS) (h : k_L_deletes_174 post dp R78 R90 x0 x2 x3 x4 x5 x6 x7 x9 x10 x11 x12 t0 t1 t2 t3 S) : cG p l e (cRm 1 0 0 22) s m args below meth c A D Y 13 (MQ below (cQi post D Y A) args s 0 0 A) 0 0 174 [(0, .ref x0), (2, .ref x2), (3, .ref x3), (4, .ref x4), (5, .ref x5), (6, .ref x6), (7, .int x7), (9, .int x9), (10, .int x10), (11, .int x11), (12, .int x12)] [.int t0, .int t1, .int t2, .ref t3] S := by
  unfold k_L_deletes_174 at h
  refine cg_iand C dL_deletes_174 ?_
  obtain ⟨hc_175, h⟩ := h
  refine cg_iastoreR C hc_175 dL_deletes_175 ?_
  refine cg_nm (fun S4 e_S4 => ?_)
  have h := h S4 e_S4
  refine cg_iload C 7 rfl dL_deletes_176 ?_
  refine cg_iload C 10 rfl dL_deletes_178 ?_
  refine cg_if_eq C 187 (by decide) dL_deletes_180 (fun c_ => ?_) (fun c_ => ?_)
  · have h := h.1 c_
    refine cg_iconst C (x := nI 0) rfl dL_deletes_187 ?_
    exact cg_sub [0, 1, 2, 3, 4, 5, 6, 8, 9] rfl (tb_L_deletes_188 C  hR78 hR90 x0 x2 x3 x4 x5 x6 x7 x10 x11 ((nI 0)) x9 S4 h)
  · have h := h.2 c_
    refine cg_iconst C (x := nI 1) rfl dL_deletes_183 ?_
    refine cg_goto C 188 (by decide) dL_deletes_184 ?_
    exact cg_sub [0, 1, 2, 3, 4, 5, 6, 8, 9] rfl (tb_L_deletes_188 C  hR78 hR90 x0 x2 x3 x4 x5 x6 x7 x10 x11 ((nI 1)) x9 S4 h)
set_option maxRecDepth 20000 in
theorem tb_L_deletes_148 (C : cC p s m args meth c cL_deletes 13 (some .int) A D Y tp dp RL) {post : Int32 → cS → Prop} {R78 : Nat → Nat → Nat → Nat → Nat → Nat → Int32 → Int32 → Int32 → cS → Prop} {R90 : Nat → Nat → Nat → Nat → Nat → Nat → Int32 → Int32 → Int32 → Int32 → cS → Prop} (hR78 : ∀ (x0 : Nat) (x2 : Nat) (x3 : Nat) (x4 : Nat) (x5 : Nat) (x6 : Nat) (x7 : Int32) (x9 : Int32) (x10 : Int32) (S : cS), R78 x0 x2 x3 x4 x5 x6 x7 x9 x10 S → cG p l e (cRm 1 0 0 22) s m args below meth c A D Y 13 (MQ below (cQi post D Y A) args s 0 0 A) 0 0 78 [(0, .ref x0), (2, .ref x2), (3, .ref x3), (4, .ref x4), (5, .ref x5), (6, .ref x6), (7, .int x7), (9, .int x9), (10, .int x10)] [] S) (hR90 : ∀ (x0 : Nat) (x2 : Nat) (x3 : Nat) (x4 : Nat) (x5 : Nat) (x6 : Nat) (x7 : Int32) (x9 : Int32) (x10 : Int32) (x11 : Int32) (S : cS), R90 x0 x2 x3 x4 x5 x6 x7 x9 x10 x11 S → cG p l e (cRm 1 0 0 22) s m args below meth c A D Y 13 (MQ below (cQi post D Y A) args s 0 0 A) 0 0 90 [(0, .ref x0), (2, .ref x2), (3, .ref x3), (4, .ref x4), (5, .ref x5), (6, .ref x6), (7, .int x7), (9, .int x9), (10, .int x10), (11, .int x11)] [] S) (x0 : Nat) (x2 : Nat) (x3 : Nat) (x4 : Nat) (x5 : Nat) (x6 : Nat) (x7 : Int32) (x9 : Int32) (x10 : Int32) (x11 : Int32) (t0 : Int32) (S : cS) (h : k_L_deletes_148 post dp R78 R90 x0 x2 x3 x4 x5 x6 x7 x9 x10 x11 t0 S) : cG p l e (cRm 1 0 0 22) s m args below meth c A D Y 13 (MQ below (cQi post D Y A) args s 0 0 A) 0 0 148 [(0, .ref x0), (2, .ref x2), (3, .ref x3), (4, .ref x4), (5, .ref x5), (6, .ref x6), (7, .int x7), (9, .int x9), (10, .int x10), (11, .int x11)] [.int t0] S := by
  unfold k_L_deletes_148 at h
  refine cg_istore C (lv' := [(12, .int t0), (0, .ref x0), (2, .ref x2), (3, .ref x3), (4, .ref x4), (5, .ref x5), (6, .ref x6), (7, .int x7), (9, .int x9), (10, .int x10), (11, .int x11)]) (Nat.le_of_ble_eq_true rfl) rfl dL_deletes_148 ?_
  refine cg_aload C 4 rfl dL_deletes_150 ?_
  refine cg_aload C 5 rfl dL_deletes_152 ?_
  refine cg_iload C 9 rfl dL_deletes_154 ?_
  obtain ⟨hc_156, h⟩ := h
  refine cg_ialoadR C hc_156 dL_deletes_156 ?_
  refine cg_dup2 C rfl rfl dL_deletes_157 ?_
  obtain ⟨hc_158, h⟩ := h
  refine cg_ialoadR C hc_158 dL_deletes_158 ?_
  refine cg_iload C 0 rfl dL_deletes_159 ?_
  refine cg_if_eq C 173 (by decide) dL_deletes_161 (fun c_ => ?_) (fun c_ => ?_)
  · have h := h.1 c_
    refine cg_iconst C (x := (-1)) rfl dL_deletes_173 ?_
    exact cg_sub [1, 2, 3, 4, 5, 6, 7, 8, 9, 10, 0] rfl (tb_L_deletes_174 C  hR78 hR90 x0 x2 x3 x4 x5 x6 x7 x9 x10 x11 t0 (((-1))) ((cI S x4 ((cI S x5 (x10).toNatClampNeg)).toNatClampNeg)) ((cI S x5 (x10).toNatClampNeg)) x4 S h)
  · have h := h.2 c_
    refine cg_iconst C (x := nI 1) rfl dL_deletes_164 ?_
    refine cg_iload C 10 rfl dL_deletes_165 ?_
    refine cg_ishl C dL_deletes_167 ?_
    refine cg_iconst C (x := (-1)) rfl dL_deletes_168 ?_
    refine cg_ixor C dL_deletes_169 ?_
    refine cg_goto C 174 (by decide) dL_deletes_170 ?_
    exact cg_sub [1, 2, 3, 4, 5, 6, 7, 8, 9, 10, 0] rfl (tb_L_deletes_174 C  hR78 hR90 x0 x2 x3 x4 x5 x6 x7 x9 x10 x11 t0 ((((((nI 1)) <<< (x11 &&& 31))) ^^^ (((-1))))) ((cI S x4 ((cI S x5 (x10).toNatClampNeg)).toNatClampNeg)) ((cI S x5 (x10).toNatClampNeg)) x4 S h)
set_option maxRecDepth 20000 in
theorem tb_L_deletes_147 (C : cC p s m args meth c cL_deletes 13 (some .int) A D Y tp dp RL) {post : Int32 → cS → Prop} {R78 : Nat → Nat → Nat → Nat → Nat → Nat → Int32 → Int32 → Int32 → cS → Prop} {R90 : Nat → Nat → Nat → Nat → Nat → Nat → Int32 → Int32 → Int32 → Int32 → cS → Prop} (hR78 : ∀ (x0 : Nat) (x2 : Nat) (x3 : Nat) (x4 : Nat) (x5 : Nat) (x6 : Nat) (x7 : Int32) (x9 : Int32) (x10 : Int32) (S : cS), R78 x0 x2 x3 x4 x5 x6 x7 x9 x10 S → cG p l e (cRm 1 0 0 22) s m args below meth c A D Y 13 (MQ below (cQi post D Y A) args s 0 0 A) 0 0 78 [(0, .ref x0), (2, .ref x2), (3, .ref x3), (4, .ref x4), (5, .ref x5), (6, .ref x6), (7, .int x7), (9, .int x9), (10, .int x10)] [] S) (hR90 : ∀ (x0 : Nat) (x2 : Nat) (x3 : Nat) (x4 : Nat) (x5 : Nat) (x6 : Nat) (x7 : Int32) (x9 : Int32) (x10 : Int32) (x11 : Int32) (S : cS), R90 x0 x2 x3 x4 x5 x6 x7 x9 x10 x11 S → cG p l e (cRm 1 0 0 22) s m args below meth c A D Y 13 (MQ below (cQi post D Y A) args s 0 0 A) 0 0 90 [(0, .ref x0), (2, .ref x2), (3, .ref x3), (4, .ref x4), (5, .ref x5), (6, .ref x6), (7, .int x7), (9, .int x9), (10, .int x10), (11, .int x11)] [] S) (x0 : Nat) (x2 : Nat) (x3 : Nat) (x4 : Nat) (x5 : Nat) (x6 : Nat) (x7 : Int32) (x9 : Int32) (x10 : Int32) (x11 : Int32) (S : cS) (h : k_L_deletes_147 post dp R78 R90 x0 x2 x3 x4 x5 x6 x7 x9 x10 x11 S) : cG p l e (cRm 1 0 0 22) s m args below meth c A D Y 13 (MQ below (cQi post D Y A) args s 0 0 A) 0 0 147 [(0, .ref x0), (2, .ref x2), (3, .ref x3), (4, .ref x4), (5, .ref x5), (6, .ref x6), (7, .int x7), (9, .int x9), (10, .int x10), (11, .int x11)] [] S := by
  unfold k_L_deletes_147 at h
  refine cg_iconst C (x := nI 0) rfl dL_deletes_147 ?_
  exact cg_sub [0, 1, 2, 3, 4, 5, 6, 7, 8, 9] rfl (tb_L_deletes_148 C  hR78 hR90 x0 x2 x3 x4 x5 x6 x7 x9 x10 x11 ((nI 0)) S h)
set_option maxRecDepth 20000 in
theorem tb_L_deletes_90 (C : cC p s m args meth c cL_deletes 13 (some .int) A D Y tp dp RL) {post : Int32 → cS → Prop} {R78 : Nat → Nat → Nat → Nat → Nat → Nat → Int32 → Int32 → Int32 → cS → Prop} {R90 : Nat → Nat → Nat → Nat → Nat → Nat → Int32 → Int32 → Int32 → Int32 → cS → Prop} (hR78 : ∀ (x0 : Nat) (x2 : Nat) (x3 : Nat) (x4 : Nat) (x5 : Nat) (x6 : Nat) (x7 : Int32) (x9 : Int32) (x10 : Int32) (S : cS), R78 x0 x2 x3 x4 x5 x6 x7 x9 x10 S → cG p l e (cRm 1 0 0 22) s m args below meth c A D Y 13 (MQ below (cQi post D Y A) args s 0 0 A) 0 0 78 [(0, .ref x0), (2, .ref x2), (3, .ref x3), (4, .ref x4), (5, .ref x5), (6, .ref x6), (7, .int x7), (9, .int x9), (10, .int x10)] [] S) (hR90 : ∀ (x0 : Nat) (x2 : Nat) (x3 : Nat) (x4 : Nat) (x5 : Nat) (x6 : Nat) (x7 : Int32) (x9 : Int32) (x10 : Int32) (x11 : Int32) (S : cS), R90 x0 x2 x3 x4 x5 x6 x7 x9 x10 x11 S → cG p l e (cRm 1 0 0 22) s m args below meth c A D Y 13 (MQ below (cQi post D Y A) args s 0 0 A) 0 0 90 [(0, .ref x0), (2, .ref x2), (3, .ref x3), (4, .ref x4), (5, .ref x5), (6, .ref x6), (7, .int x7), (9, .int x9), (10, .int x10), (11, .int x11)] [] S) (x0 : Nat) (x2 : Nat) (x3 : Nat) (x4 : Nat) (x5 : Nat) (x6 : Nat) (x7 : Int32) (x9 : Int32) (x10 : Int32) (x11 : Int32) (S : cS) (h : k_L_deletes_90 post dp R78 R90 x0 x2 x3 x4 x5 x6 x7 x9 x10 x11 S) : cG p l e (cRm 1 0 0 22) s m args below meth c A D Y 13 (MQ below (cQi post D Y A) args s 0 0 A) 0 0 90 [(0, .ref x0), (2, .ref x2), (3, .ref x3), (4, .ref x4), (5, .ref x5), (6, .ref x6), (7, .int x7), (9, .int x9), (10, .int x10), (11, .int x11)] [] S := by
  unfold k_L_deletes_90 at h
  refine cg_iload C 9 rfl dL_deletes_90 ?_
  refine cg_aload_n C (i := 3) rfl 2 rfl dL_deletes_92 ?_
  refine cg_aload C 4 rfl dL_deletes_93 ?_
  refine cg_iload C 8 rfl dL_deletes_95 ?_
  obtain ⟨hc_97, h⟩ := h
  refine cg_ialoadR C hc_97 dL_deletes_97 ?_
  obtain ⟨hc_98, h⟩ := h
  refine cg_ialoadR C hc_98 dL_deletes_98 ?_
  refine cg_icmp_ge C 197 (by decide) dL_deletes_99 (fun c_ => ?_) (fun c_ => ?_)
  · have h := h.1 c_
    obtain ⟨x10_3, e_x10_3⟩ : ∃ z : Int32, z = x10 + nI 1 := ⟨_, rfl⟩
    have h := h x10_3 e_x10_3
    refine cg_iinc C (lv' := [(10, .int x10_3), (0, .ref x0), (2, .ref x2), (3, .ref x3), (4, .ref x4), (5, .ref x5), (6, .ref x6), (7, .int x7), (9, .int x9), (11, .int x11)]) 8 rfl (by rw [e_x10_3]; rfl) (Nat.le_of_ble_eq_true rfl) rfl dL_deletes_197 ?_
    refine cg_goto C 78 (by decide) dL_deletes_200 ?_
    exact cg_sub [1, 2, 3, 4, 5, 6, 7, 8, 0] rfl (hR78 x0 x2 x3 x4 x5 x6 x7 x9 x10_3 S h)
  · have h := h.2 c_
    refine cg_aload C 3 rfl dL_deletes_102 ?_
    refine cg_aload C 4 rfl dL_deletes_104 ?_
    refine cg_iload C 8 rfl dL_deletes_106 ?_
    obtain ⟨hc_108, h⟩ := h
    refine cg_ialoadR C hc_108 dL_deletes_108 ?_
    obtain ⟨hc_109, h⟩ := h
    refine cg_ialoadR C hc_109 dL_deletes_109 ?_
    refine cg_iload C 9 rfl dL_deletes_110 ?_
    refine cg_ishr C dL_deletes_112 ?_
    refine cg_iconst C (x := nI 1) rfl dL_deletes_113 ?_
    refine cg_iand C dL_deletes_114 ?_
    refine cg_iconst C (x := nI 1) rfl dL_deletes_115 ?_
    refine cg_icmp_ne C 147 (by decide) dL_deletes_116 (fun c_ => ?_) (fun c_ => ?_)
    · have h := h.1 c_
      exact cg_sub [0, 1, 2, 3, 4, 5, 6, 7, 8, 9] rfl (tb_L_deletes_147 C  hR78 hR90 x0 x2 x3 x4 x5 x6 x7 x9 x10 x11 S h)
    · have h := h.2 c_
      refine cg_aload_n C (i := 0) rfl 0 rfl dL_deletes_119 ?_
      refine cg_aload_n C (i := 2) rfl 1 rfl dL_deletes_120 ?_
      refine cg_aload C 4 rfl dL_deletes_121 ?_
      refine cg_iload C 8 rfl dL_deletes_123 ?_
      obtain ⟨hc_125, h⟩ := h
      refine cg_ialoadR C hc_125 dL_deletes_125 ?_
      refine cg_iload C 9 rfl dL_deletes_126 ?_
      refine cg_callsi C (t_L_record l x2 ((cI S x5 (x10).toNatClampNeg)) x11 S dp h) cc_L_26 rfl ⟨by decide, by decide⟩ ⟨by decide, by decide⟩ rfl (Nat.le_of_ble_eq_true rfl) dL_deletes_128 (fun r_7 S_7 h => ?_)
      obtain ⟨hc_131, h⟩ := h
      refine cg_laloadR C hc_131 dL_deletes_131 ?_
      refine cg_ldc2 C (x := 15) ck_L_9 dL_deletes_132 ?_
      refine cg_land C dL_deletes_135 ?_
      refine cg_iload C 6 rfl dL_deletes_136 ?_
      refine cg_i2l C dL_deletes_138 ?_
      refine cg_lcmp C dL_deletes_139 ?_
      refine cg_if_neL C 147 (by decide) dL_deletes_140 (fun c_ => ?_) (fun c_ => ?_)
      · have h := h.1 c_
        exact cg_sub [0, 1, 2, 3, 4, 5, 6, 7, 8, 9] rfl (tb_L_deletes_147 C  hR78 hR90 x0 x2 x3 x4 x5 x6 x7 x9 x10 x11 S_7 h)
      · have h := h.2 c_
        refine cg_iconst C (x := nI 1) rfl dL_deletes_143 ?_
        refine cg_goto C 148 (by decide) dL_deletes_144 ?_
        exact cg_sub [0, 1, 2, 3, 4, 5, 6, 7, 8, 9] rfl (tb_L_deletes_148 C  hR78 hR90 x0 x2 x3 x4 x5 x6 x7 x9 x10 x11 ((nI 1)) S_7 h)
set_option maxRecDepth 20000 in
theorem tl_L_deletes_90 (C : cC p s m args meth c cL_deletes 13 (some .int) A D Y tp dp RL) {post : Int32 → cS → Prop} {R78 : Nat → Nat → Nat → Nat → Nat → Nat → Int32 → Int32 → Int32 → cS → Prop} (hR78 : ∀ (x0 : Nat) (x2 : Nat) (x3 : Nat) (x4 : Nat) (x5 : Nat) (x6 : Nat) (x7 : Int32) (x9 : Int32) (x10 : Int32) (S : cS), R78 x0 x2 x3 x4 x5 x6 x7 x9 x10 S → cG p l e (cRm 1 0 0 22) s m args below meth c A D Y 13 (MQ below (cQi post D Y A) args s 0 0 A) 0 0 78 [(0, .ref x0), (2, .ref x2), (3, .ref x3), (4, .ref x4), (5, .ref x5), (6, .ref x6), (7, .int x7), (9, .int x9), (10, .int x10)] [] S) (x0 : Nat) (x2 : Nat) (x3 : Nat) (x4 : Nat) (x5 : Nat) (x6 : Nat) (x7 : Int32) (x9 : Int32) (x10 : Int32) (x11 : Int32) (S : cS) (h : k_L_deletes_90L post dp R78 x0 x2 x3 x4 x5 x6 x7 x9 x10 x11 S) : cG p l e (cRm 1 0 0 22) s m args below meth c A D Y 13 (MQ below (cQi post D Y A) args s 0 0 A) 0 0 90 [(0, .ref x0), (2, .ref x2), (3, .ref x3), (4, .ref x4), (5, .ref x5), (6, .ref x6), (7, .int x7), (9, .int x9), (10, .int x10), (11, .int x11)] [] S :=
  h (fun y => cG p l e (cRm 1 0 0 22) s m args below meth c A D Y 13 (MQ below (cQi post D Y A) args s 0 0 A) 0 0 90 [(0, .ref (y.1)), (2, .ref (y.2.1)), (3, .ref (y.2.2.1)), (4, .ref (y.2.2.2.1)), (5, .ref (y.2.2.2.2.1)), (6, .ref (y.2.2.2.2.2.1)), (7, .int (y.2.2.2.2.2.2.1)), (9, .int (y.2.2.2.2.2.2.2.1)), (10, .int (y.2.2.2.2.2.2.2.2.1)), (11, .int (y.2.2.2.2.2.2.2.2.2.1))] [] (y.2.2.2.2.2.2.2.2.2.2)) (fun y hy => tb_L_deletes_90 C  hR78 (fun b0 b1 b2 b3 b4 b5 b6 b7 b8 b9 S z => z) (y.1) (y.2.1) (y.2.2.1) (y.2.2.2.1) (y.2.2.2.2.1) (y.2.2.2.2.2.1) (y.2.2.2.2.2.2.1) (y.2.2.2.2.2.2.2.1) (y.2.2.2.2.2.2.2.2.1) (y.2.2.2.2.2.2.2.2.2.1) (y.2.2.2.2.2.2.2.2.2.2) hy)
set_option maxRecDepth 20000 in
theorem tb_L_deletes_78 (C : cC p s m args meth c cL_deletes 13 (some .int) A D Y tp dp RL) {post : Int32 → cS → Prop} {R78 : Nat → Nat → Nat → Nat → Nat → Nat → Int32 → Int32 → Int32 → cS → Prop} (hR78 : ∀ (x0 : Nat) (x2 : Nat) (x3 : Nat) (x4 : Nat) (x5 : Nat) (x6 : Nat) (x7 : Int32) (x9 : Int32) (x10 : Int32) (S : cS), R78 x0 x2 x3 x4 x5 x6 x7 x9 x10 S → cG p l e (cRm 1 0 0 22) s m args below meth c A D Y 13 (MQ below (cQi post D Y A) args s 0 0 A) 0 0 78 [(0, .ref x0), (2, .ref x2), (3, .ref x3), (4, .ref x4), (5, .ref x5), (6, .ref x6), (7, .int x7), (9, .int x9), (10, .int x10)] [] S) (x0 : Nat) (x2 : Nat) (x3 : Nat) (x4 : Nat) (x5 : Nat) (x6 : Nat) (x7 : Int32) (x9 : Int32) (x10 : Int32) (S : cS) (h : k_L_deletes_78 post dp R78 x0 x2 x3 x4 x5 x6 x7 x9 x10 S) : cG p l e (cRm 1 0 0 22) s m args below meth c A D Y 13 (MQ below (cQi post D Y A) args s 0 0 A) 0 0 78 [(0, .ref x0), (2, .ref x2), (3, .ref x3), (4, .ref x4), (5, .ref x5), (6, .ref x6), (7, .int x7), (9, .int x9), (10, .int x10)] [] S := by
  unfold k_L_deletes_78 at h
  refine cg_iload C 8 rfl dL_deletes_78 ?_
  refine cg_aload C 5 rfl dL_deletes_80 ?_
  refine cg_iconst C (x := nI 3) rfl dL_deletes_82 ?_
  obtain ⟨hc_83, h⟩ := h
  refine cg_ialoadR C hc_83 dL_deletes_83 ?_
  refine cg_icmp_ge C 203 (by decide) dL_deletes_84 (fun c_ => ?_) (fun c_ => ?_)
  · have h := h.1 c_
    refine cg_iload C 7 rfl dL_deletes_203 ?_
    exact cg_iret C h dL_deletes_205 (by decide) (by decide)
  · have h := h.2 c_
    refine cg_iconst C (x := nI 0) rfl dL_deletes_87 ?_
    refine cg_istore C (lv' := [(11, .int ((nI 0))), (0, .ref x0), (2, .ref x2), (3, .ref x3), (4, .ref x4), (5, .ref x5), (6, .ref x6), (7, .int x7), (9, .int x9), (10, .int x10)]) (Nat.le_of_ble_eq_true rfl) rfl dL_deletes_88 ?_
    exact cg_sub [1, 2, 3, 4, 5, 6, 7, 8, 9, 0] rfl (tl_L_deletes_90 C  hR78 x0 x2 x3 x4 x5 x6 x7 x9 x10 (((nI 0))) S h)
set_option maxRecDepth 20000 in
theorem tl_L_deletes_78 (C : cC p s m args meth c cL_deletes 13 (some .int) A D Y tp dp RL) {post : Int32 → cS → Prop}   (x0 : Nat) (x2 : Nat) (x3 : Nat) (x4 : Nat) (x5 : Nat) (x6 : Nat) (x7 : Int32) (x9 : Int32) (x10 : Int32) (S : cS) (h : k_L_deletes_78L post dp  x0 x2 x3 x4 x5 x6 x7 x9 x10 S) : cG p l e (cRm 1 0 0 22) s m args below meth c A D Y 13 (MQ below (cQi post D Y A) args s 0 0 A) 0 0 78 [(0, .ref x0), (2, .ref x2), (3, .ref x3), (4, .ref x4), (5, .ref x5), (6, .ref x6), (7, .int x7), (9, .int x9), (10, .int x10)] [] S :=
  h (fun y => cG p l e (cRm 1 0 0 22) s m args below meth c A D Y 13 (MQ below (cQi post D Y A) args s 0 0 A) 0 0 78 [(0, .ref (y.1)), (2, .ref (y.2.1)), (3, .ref (y.2.2.1)), (4, .ref (y.2.2.2.1)), (5, .ref (y.2.2.2.2.1)), (6, .ref (y.2.2.2.2.2.1)), (7, .int (y.2.2.2.2.2.2.1)), (9, .int (y.2.2.2.2.2.2.2.1)), (10, .int (y.2.2.2.2.2.2.2.2.1))] [] (y.2.2.2.2.2.2.2.2.2)) (fun y hy => tb_L_deletes_78 C   (fun b0 b1 b2 b3 b4 b5 b6 b7 b8 S z => z) (y.1) (y.2.1) (y.2.2.1) (y.2.2.2.1) (y.2.2.2.2.1) (y.2.2.2.2.2.1) (y.2.2.2.2.2.2.1) (y.2.2.2.2.2.2.2.1) (y.2.2.2.2.2.2.2.2.1) (y.2.2.2.2.2.2.2.2.2) hy)
set_option maxRecDepth 20000 in
theorem tb_L_deletes_48 (C : cC p s m args meth c cL_deletes 13 (some .int) A D Y tp dp RL) {post : Int32 → cS → Prop} {R9 : Nat → Nat → Nat → Nat → Nat → Nat → Nat → Int32 → Int32 → Int32 → Int32 → cS → Prop} (hR9 : ∀ (x0 : Nat) (x1 : Nat) (x2 : Nat) (x3 : Nat) (x4 : Nat) (x5 : Nat) (x6 : Nat) (x7 : Int32) (x8 : Int32) (x9 : Int32) (x10 : Int32) (S : cS), R9 x0 x1 x2 x3 x4 x5 x6 x7 x8 x9 x10 S → cG p l e (cRm 1 0 0 22) s m args below meth c A D Y 13 (MQ below (cQi post D Y A) args s 0 0 A) 0 0 9 [(0, .ref x0), (1, .ref x1), (2, .ref x2), (3, .ref x3), (4, .ref x4), (5, .ref x5), (6, .ref x6), (7, .int x7), (8, .int x8), (9, .int x9), (10, .int x10)] [] S) (x0 : Nat) (x1 : Nat) (x2 : Nat) (x3 : Nat) (x4 : Nat) (x5 : Nat) (x6 : Nat) (x7 : Int32) (x9 : Int32) (x10 : Int32) (t0 : Int32) (t1 : Int32) (S : cS) (h : k_L_deletes_48 post dp R9 x0 x1 x2 x3 x4 x5 x6 x7 x9 x10 t0 t1 S) : cG p l e (cRm 1 0 0 22) s m args below meth c A D Y 13 (MQ below (cQi post D Y A) args s 0 0 A) 0 0 48 [(0, .ref x0), (1, .ref x1), (2, .ref x2), (3, .ref x3), (4, .ref x4), (5, .ref x5), (6, .ref x6), (7, .int x7), (9, .int x9), (10, .int x10)] [.int t0, .int t1] S := by
  unfold k_L_deletes_48 at h
  refine cg_iadd C dL_deletes_48 ?_
  refine cg_nmI (fun x8_9 e_x8_9 => ?_)
  have h := h x8_9 e_x8_9
  refine cg_istore C (lv' := [(8, .int x8_9), (0, .ref x0), (1, .ref x1), (2, .ref x2), (3, .ref x3), (4, .ref x4), (5, .ref x5), (6, .ref x6), (7, .int x7), (9, .int x9), (10, .int x10)]) (Nat.le_of_ble_eq_true rfl) rfl dL_deletes_49 ?_
  obtain ⟨x10_10, e_x10_10⟩ : ∃ z : Int32, z = x10 + nI 1 := ⟨_, rfl⟩
  have h := h x10_10 e_x10_10
  refine cg_iinc C (lv' := [(10, .int x10_10), (8, .int x8_9), (0, .ref x0), (1, .ref x1), (2, .ref x2), (3, .ref x3), (4, .ref x4), (5, .ref x5), (6, .ref x6), (7, .int x7), (9, .int x9)]) 10 rfl (by rw [e_x10_10]; rfl) (Nat.le_of_ble_eq_true rfl) rfl dL_deletes_51 ?_
  refine cg_goto C 9 (by decide) dL_deletes_54 ?_
  exact cg_sub [2, 3, 4, 5, 6, 7, 8, 9, 1, 10, 0] rfl (hR9 x0 x1 x2 x3 x4 x5 x6 x7 x8_9 x9 x10_10 S h)
set_option maxRecDepth 20000 in
theorem tb_L_deletes_9 (C : cC p s m args meth c cL_deletes 13 (some .int) A D Y tp dp RL) {post : Int32 → cS → Prop} {R9 : Nat → Nat → Nat → Nat → Nat → Nat → Nat → Int32 → Int32 → Int32 → Int32 → cS → Prop} (hR9 : ∀ (x0 : Nat) (x1 : Nat) (x2 : Nat) (x3 : Nat) (x4 : Nat) (x5 : Nat) (x6 : Nat) (x7 : Int32) (x8 : Int32) (x9 : Int32) (x10 : Int32) (S : cS), R9 x0 x1 x2 x3 x4 x5 x6 x7 x8 x9 x10 S → cG p l e (cRm 1 0 0 22) s m args below meth c A D Y 13 (MQ below (cQi post D Y A) args s 0 0 A) 0 0 9 [(0, .ref x0), (1, .ref x1), (2, .ref x2), (3, .ref x3), (4, .ref x4), (5, .ref x5), (6, .ref x6), (7, .int x7), (8, .int x8), (9, .int x9), (10, .int x10)] [] S) (x0 : Nat) (x1 : Nat) (x2 : Nat) (x3 : Nat) (x4 : Nat) (x5 : Nat) (x6 : Nat) (x7 : Int32) (x8 : Int32) (x9 : Int32) (x10 : Int32) (S : cS) (h : k_L_deletes_9 post dp R9 x0 x1 x2 x3 x4 x5 x6 x7 x8 x9 x10 S) : cG p l e (cRm 1 0 0 22) s m args below meth c A D Y 13 (MQ below (cQi post D Y A) args s 0 0 A) 0 0 9 [(0, .ref x0), (1, .ref x1), (2, .ref x2), (3, .ref x3), (4, .ref x4), (5, .ref x5), (6, .ref x6), (7, .int x7), (8, .int x8), (9, .int x9), (10, .int x10)] [] S := by
  unfold k_L_deletes_9 at h
  refine cg_iload C 10 rfl dL_deletes_9 ?_
  refine cg_aload C 6 rfl dL_deletes_11 ?_
  refine cg_iconst C (x := nI 1) rfl dL_deletes_13 ?_
  obtain ⟨hc_14, h⟩ := h
  refine cg_ialoadR C hc_14 dL_deletes_14 ?_
  refine cg_icmp_ge C 57 (by decide) dL_deletes_15 (fun c_ => ?_) (fun c_ => ?_)
  · have h := h.1 c_
    refine cg_iload C 9 rfl dL_deletes_57 ?_
    refine cg_aload C 6 rfl dL_deletes_59 ?_
    refine cg_iconst C (x := nI 1) rfl dL_deletes_61 ?_
    obtain ⟨hc_62, h⟩ := h
    refine cg_ialoadR C hc_62 dL_deletes_62 ?_
    refine cg_iload C 8 rfl dL_deletes_63 ?_
    refine cg_isub C dL_deletes_65 ?_
    refine cg_iadd C dL_deletes_66 ?_
    refine cg_nmI (fun x9_1 e_x9_1 => ?_)
    have h := h x9_1 e_x9_1
    refine cg_istore C (lv' := [(9, .int x9_1), (0, .ref x0), (1, .ref x1), (2, .ref x2), (3, .ref x3), (4, .ref x4), (5, .ref x5), (6, .ref x6), (7, .int x7), (8, .int x8), (10, .int x10)]) (Nat.le_of_ble_eq_true rfl) rfl dL_deletes_67 ?_
    refine cg_aload C 7 rfl dL_deletes_69 ?_
    refine cg_iconst C (x := nI 1) rfl dL_deletes_71 ?_
    refine cg_iload C 9 rfl dL_deletes_72 ?_
    obtain ⟨hc_74, h⟩ := h
    refine cg_iastoreR C hc_74 dL_deletes_74 ?_
    refine cg_nm (fun S2 e_S2 => ?_)
    have h := h S2 e_S2
    refine cg_iconst C (x := nI 0) rfl dL_deletes_75 ?_
    refine cg_istore C (lv' := [(10, .int ((nI 0))), (9, .int x9_1), (0, .ref x0), (1, .ref x1), (2, .ref x2), (3, .ref x3), (4, .ref x4), (5, .ref x5), (6, .ref x6), (7, .int x7), (8, .int x8)]) (Nat.le_of_ble_eq_true rfl) rfl dL_deletes_76 ?_
    exact cg_sub [2, 4, 5, 6, 7, 8, 9, 1, 0] rfl (tl_L_deletes_78 C   x0 x2 x3 x4 x5 x6 x7 x9_1 (((nI 0))) S2 h)
  · have h := h.2 c_
    refine cg_aload_n C (i := 1) rfl 1 rfl dL_deletes_18 ?_
    refine cg_iload C 8 rfl dL_deletes_19 ?_
    refine cg_aload_n C (i := 1) rfl 1 rfl dL_deletes_21 ?_
    refine cg_iload C 10 rfl dL_deletes_22 ?_
    obtain ⟨hc_24, h⟩ := h
    refine cg_laloadR C hc_24 dL_deletes_24 ?_
    obtain ⟨hc_25, h⟩ := h
    refine cg_lastoreR C hc_25 dL_deletes_25 ?_
    refine cg_nm (fun S8 e_S8 => ?_)
    have h := h S8 e_S8
    refine cg_iload C 8 rfl dL_deletes_26 ?_
    refine cg_aload_n C (i := 1) rfl 1 rfl dL_deletes_28 ?_
    refine cg_iload C 10 rfl dL_deletes_29 ?_
    obtain ⟨hc_31, h⟩ := h
    refine cg_laloadR C hc_31 dL_deletes_31 ?_
    refine cg_ldc2 C (x := 15) ck_L_9 dL_deletes_32 ?_
    refine cg_land C dL_deletes_35 ?_
    refine cg_iload C 7 rfl dL_deletes_36 ?_
    refine cg_i2l C dL_deletes_38 ?_
    refine cg_lcmp C dL_deletes_39 ?_
    refine cg_if_neL C 47 (by decide) dL_deletes_40 (fun c_ => ?_) (fun c_ => ?_)
    · have h := h.1 c_
      refine cg_iconst C (x := nI 1) rfl dL_deletes_47 ?_
      exact cg_sub [0, 1, 2, 3, 4, 5, 6, 7, 9, 10] rfl (tb_L_deletes_48 C  hR9 x0 x1 x2 x3 x4 x5 x6 x7 x9 x10 ((nI 1)) x8 S8 h)
    · have h := h.2 c_
      refine cg_iconst C (x := nI 0) rfl dL_deletes_43 ?_
      refine cg_goto C 48 (by decide) dL_deletes_44 ?_
      exact cg_sub [0, 1, 2, 3, 4, 5, 6, 7, 9, 10] rfl (tb_L_deletes_48 C  hR9 x0 x1 x2 x3 x4 x5 x6 x7 x9 x10 ((nI 0)) x8 S8 h)
set_option maxRecDepth 20000 in
theorem tl_L_deletes_9 (C : cC p s m args meth c cL_deletes 13 (some .int) A D Y tp dp RL) {post : Int32 → cS → Prop}   (x0 : Nat) (x1 : Nat) (x2 : Nat) (x3 : Nat) (x4 : Nat) (x5 : Nat) (x6 : Nat) (x7 : Int32) (x8 : Int32) (x9 : Int32) (x10 : Int32) (S : cS) (h : k_L_deletes_9L post dp  x0 x1 x2 x3 x4 x5 x6 x7 x8 x9 x10 S) : cG p l e (cRm 1 0 0 22) s m args below meth c A D Y 13 (MQ below (cQi post D Y A) args s 0 0 A) 0 0 9 [(0, .ref x0), (1, .ref x1), (2, .ref x2), (3, .ref x3), (4, .ref x4), (5, .ref x5), (6, .ref x6), (7, .int x7), (8, .int x8), (9, .int x9), (10, .int x10)] [] S :=
  h (fun y => cG p l e (cRm 1 0 0 22) s m args below meth c A D Y 13 (MQ below (cQi post D Y A) args s 0 0 A) 0 0 9 [(0, .ref (y.1)), (1, .ref (y.2.1)), (2, .ref (y.2.2.1)), (3, .ref (y.2.2.2.1)), (4, .ref (y.2.2.2.2.1)), (5, .ref (y.2.2.2.2.2.1)), (6, .ref (y.2.2.2.2.2.2.1)), (7, .int (y.2.2.2.2.2.2.2.1)), (8, .int (y.2.2.2.2.2.2.2.2.1)), (9, .int (y.2.2.2.2.2.2.2.2.2.1)), (10, .int (y.2.2.2.2.2.2.2.2.2.2.1))] [] (y.2.2.2.2.2.2.2.2.2.2.2)) (fun y hy => tb_L_deletes_9 C   (fun b0 b1 b2 b3 b4 b5 b6 b7 b8 b9 b10 S z => z) (y.1) (y.2.1) (y.2.2.1) (y.2.2.2.1) (y.2.2.2.2.1) (y.2.2.2.2.2.1) (y.2.2.2.2.2.2.1) (y.2.2.2.2.2.2.2.1) (y.2.2.2.2.2.2.2.2.1) (y.2.2.2.2.2.2.2.2.2.1) (y.2.2.2.2.2.2.2.2.2.2.1) (y.2.2.2.2.2.2.2.2.2.2.2) hy)
end S_L_deletes
set_option maxHeartbeats 1000000 in
set_option maxRecDepth 20000 in
theorem t_L_deletes (l : Launch) (x0 : Nat) (x1 : Nat) (x2 : Nat) (x3 : Nat) (x4 : Nat) (x5 : Nat) (x6 : Nat) (x7 : Int32) (S : cS) (dp : Nat) {P : Int32 → cS → Prop} (h : k_L_deletes P dp x0 x1 x2 x3 x4 x5 x6 x7 S) : cMet (cQi P) l yL_deletes cL_deletes 13 (some .int) 1 0 0 22 [.ref x0, .ref x1, .ref x2, .ref x3, .ref x4, .ref x5, .ref x6, .int x7] S dp := by
  intro D Y tp sz
  refine cg_body (by decide +kernel) (Nat.le_of_ble_eq_true rfl) ?_
  intro p e s m args below meth c C
  generalize va_A (cWd Y S) sz = A at C ⊢
  have C : cC p s m args meth c cL_deletes 13 (some .int) A D Y tp dp RL := C
  refine cg_lv (lv' := [(0, .ref x0), (1, .ref x1), (2, .ref x2), (3, .ref x3), (4, .ref x4), (5, .ref x5), (6, .ref x6), (7, .int x7)]) rfl ?_
  unfold k_L_deletes at h
  refine cg_iconst C (x := nI 0) rfl dL_deletes_0 ?_
  refine cg_istore C (lv' := [(8, .int ((nI 0))), (0, .ref x0), (1, .ref x1), (2, .ref x2), (3, .ref x3), (4, .ref x4), (5, .ref x5), (6, .ref x6), (7, .int x7)]) (Nat.le_of_ble_eq_true rfl) rfl dL_deletes_1 ?_
  refine cg_iconst C (x := nI 0) rfl dL_deletes_3 ?_
  refine cg_istore C (lv' := [(9, .int ((nI 0))), (8, .int ((nI 0))), (0, .ref x0), (1, .ref x1), (2, .ref x2), (3, .ref x3), (4, .ref x4), (5, .ref x5), (6, .ref x6), (7, .int x7)]) (Nat.le_of_ble_eq_true rfl) rfl dL_deletes_4 ?_
  refine cg_iconst C (x := nI 0) rfl dL_deletes_6 ?_
  refine cg_istore C (lv' := [(10, .int ((nI 0))), (9, .int ((nI 0))), (8, .int ((nI 0))), (0, .ref x0), (1, .ref x1), (2, .ref x2), (3, .ref x3), (4, .ref x4), (5, .ref x5), (6, .ref x6), (7, .int x7)]) (Nat.le_of_ble_eq_true rfl) rfl dL_deletes_7 ?_
  exact cg_sub [3, 4, 5, 6, 7, 8, 9, 10, 2, 1, 0] rfl (tl_L_deletes_9 C   x0 x1 x2 x3 x4 x5 x6 x7 (((nI 0))) (((nI 0))) (((nI 0))) S h)
section S_L_isAdded
variable {p : Program} {l : Launch} {e : Env} {s : State} {m : MethodId} {args : Array Value} {below : List Frame} {meth : Method} {c : Code} {A : Nat → Prop} {D : va_G} {Y : cY} {tp dp : Nat}
set_option maxRecDepth 20000 in
theorem tb_L_isAdded_132 {mc ms : Nat} (C : cC p s m args meth c cL_isAdded 18 (some .boolean) A D Y tp dp RL) (hlt : l.stackTraces = false) {post : Int32 → cS → Prop} {R18 : Nat → Nat → Nat → Nat → Nat → Nat → Nat → Nat → Int32 → Int32 → Int32 → Int64 → Int32 → Int32 → Nat → Nat → cS → Prop} (hR18 : ∀ (x0 : Nat) (x1 : Nat) (x2 : Nat) (x3 : Nat) (x4 : Nat) (x5 : Nat) (x6 : Nat) (x7 : Nat) (x8 : Int32) (x9 : Int32) (x10 : Int32) (x11 : Int64) (x13 : Int32) (x14 : Int32) (cd dd : Nat) (S : cS), R18 x0 x1 x2 x3 x4 x5 x6 x7 x8 x9 x10 x11 x13 x14 cd dd S → cG p l e (cRm 10 mc ms 231) s m args below meth c A D Y 18 (MQ below (cQi post D Y A) args s mc ms A) cd dd 18 [(0, .ref x0), (1, .ref x1), (2, .ref x2), (3, .ref x3), (4, .ref x4), (5, .ref x5), (6, .ref x6), (7, .ref x7), (8, .int x8), (9, .int x9), (10, .int x10), (11, .long x11), (13, .int x13), (14, .int x14)] [] S) (x0 : Nat) (x1 : Nat) (x2 : Nat) (x3 : Nat) (x4 : Nat) (x5 : Nat) (x6 : Nat) (x7 : Nat) (x8 : Int32) (x9 : Int32) (x10 : Int32) (x11 : Int64) (x14 : Int32) (t0 : Int32) (cd dd : Nat) (S : cS) (h : k_L_isAdded_132 post dp mc ms R18 x0 x1 x2 x3 x4 x5 x6 x7 x8 x9 x10 x11 x14 t0 cd dd S) : cG p l e (cRm 10 mc ms 231) s m args below meth c A D Y 18 (MQ below (cQi post D Y A) args s mc ms A) cd dd 132 [(0, .ref x0), (1, .ref x1), (2, .ref x2), (3, .ref x3), (4, .ref x4), (5, .ref x5), (6, .ref x6), (7, .ref x7), (8, .int x8), (9, .int x9), (10, .int x10), (11, .long x11), (14, .int x14)] [.int t0] S := by
  unfold k_L_isAdded_132 at h
  refine cg_istore C (lv' := [(13, .int t0), (0, .ref x0), (1, .ref x1), (2, .ref x2), (3, .ref x3), (4, .ref x4), (5, .ref x5), (6, .ref x6), (7, .ref x7), (8, .int x8), (9, .int x9), (10, .int x10), (11, .long x11), (14, .int x14)]) (Nat.le_of_ble_eq_true rfl) rfl dL_isAdded_132 ?_
  obtain ⟨x14_14, e_x14_14⟩ : ∃ z : Int32, z = x14 + nI 1 := ⟨_, rfl⟩
  have h := h x14_14 e_x14_14
  refine cg_iinc C (lv' := [(14, .int x14_14), (13, .int t0), (0, .ref x0), (1, .ref x1), (2, .ref x2), (3, .ref x3), (4, .ref x4), (5, .ref x5), (6, .ref x6), (7, .ref x7), (8, .int x8), (9, .int x9), (10, .int x10), (11, .long x11)]) 13 rfl (by rw [e_x14_14]; rfl) (Nat.le_of_ble_eq_true rfl) rfl dL_isAdded_134 ?_
  refine cg_goto C 18 (by decide) dL_isAdded_137 ?_
  exact cg_sub [2, 3, 4, 5, 6, 7, 8, 9, 10, 11, 12, 13, 1, 0] rfl (hR18 x0 x1 x2 x3 x4 x5 x6 x7 x8 x9 x10 x11 t0 x14_14 cd dd S h)
set_option maxRecDepth 20000 in
theorem tb_L_isAdded_131 {mc ms : Nat} (C : cC p s m args meth c cL_isAdded 18 (some .boolean) A D Y tp dp RL) (hlt : l.stackTraces = false) {post : Int32 → cS → Prop} {R18 : Nat → Nat → Nat → Nat → Nat → Nat → Nat → Nat → Int32 → Int32 → Int32 → Int64 → Int32 → Int32 → Nat → Nat → cS → Prop} (hR18 : ∀ (x0 : Nat) (x1 : Nat) (x2 : Nat) (x3 : Nat) (x4 : Nat) (x5 : Nat) (x6 : Nat) (x7 : Nat) (x8 : Int32) (x9 : Int32) (x10 : Int32) (x11 : Int64) (x13 : Int32) (x14 : Int32) (cd dd : Nat) (S : cS), R18 x0 x1 x2 x3 x4 x5 x6 x7 x8 x9 x10 x11 x13 x14 cd dd S → cG p l e (cRm 10 mc ms 231) s m args below meth c A D Y 18 (MQ below (cQi post D Y A) args s mc ms A) cd dd 18 [(0, .ref x0), (1, .ref x1), (2, .ref x2), (3, .ref x3), (4, .ref x4), (5, .ref x5), (6, .ref x6), (7, .ref x7), (8, .int x8), (9, .int x9), (10, .int x10), (11, .long x11), (13, .int x13), (14, .int x14)] [] S) (x0 : Nat) (x1 : Nat) (x2 : Nat) (x3 : Nat) (x4 : Nat) (x5 : Nat) (x6 : Nat) (x7 : Nat) (x8 : Int32) (x9 : Int32) (x10 : Int32) (x11 : Int64) (x14 : Int32) (cd dd : Nat) (S : cS) (h : k_L_isAdded_131 post dp mc ms R18 x0 x1 x2 x3 x4 x5 x6 x7 x8 x9 x10 x11 x14 cd dd S) : cG p l e (cRm 10 mc ms 231) s m args below meth c A D Y 18 (MQ below (cQi post D Y A) args s mc ms A) cd dd 131 [(0, .ref x0), (1, .ref x1), (2, .ref x2), (3, .ref x3), (4, .ref x4), (5, .ref x5), (6, .ref x6), (7, .ref x7), (8, .int x8), (9, .int x9), (10, .int x10), (11, .long x11), (14, .int x14)] [] S := by
  unfold k_L_isAdded_131 at h
  refine cg_iconst C (x := nI 0) rfl dL_isAdded_131 ?_
  exact cg_sub [0, 1, 2, 3, 4, 5, 6, 7, 8, 9, 10, 11, 12] rfl (tb_L_isAdded_132 C hlt hR18 x0 x1 x2 x3 x4 x5 x6 x7 x8 x9 x10 x11 x14 ((nI 0)) cd dd S h)
set_option maxRecDepth 20000 in
theorem tb_L_isAdded_47 {mc ms : Nat} (C : cC p s m args meth c cL_isAdded 18 (some .boolean) A D Y tp dp RL) (hlt : l.stackTraces = false) {post : Int32 → cS → Prop} {R18 : Nat → Nat → Nat → Nat → Nat → Nat → Nat → Nat → Int32 → Int32 → Int32 → Int64 → Int32 → Int32 → Nat → Nat → cS → Prop} {R47 : Nat → Nat → Nat → Nat → Nat → Nat → Nat → Nat → Int32 → Int32 → Int32 → Int64 → Int32 → Int32 → Int32 → Int32 → Nat → Nat → cS → Prop} (hR18 : ∀ (x0 : Nat) (x1 : Nat) (x2 : Nat) (x3 : Nat) (x4 : Nat) (x5 : Nat) (x6 : Nat) (x7 : Nat) (x8 : Int32) (x9 : Int32) (x10 : Int32) (x11 : Int64) (x13 : Int32) (x14 : Int32) (cd dd : Nat) (S : cS), R18 x0 x1 x2 x3 x4 x5 x6 x7 x8 x9 x10 x11 x13 x14 cd dd S → cG p l e (cRm 10 mc ms 231) s m args below meth c A D Y 18 (MQ below (cQi post D Y A) args s mc ms A) cd dd 18 [(0, .ref x0), (1, .ref x1), (2, .ref x2), (3, .ref x3), (4, .ref x4), (5, .ref x5), (6, .ref x6), (7, .ref x7), (8, .int x8), (9, .int x9), (10, .int x10), (11, .long x11), (13, .int x13), (14, .int x14)] [] S) (hR47 : ∀ (x0 : Nat) (x1 : Nat) (x2 : Nat) (x3 : Nat) (x4 : Nat) (x5 : Nat) (x6 : Nat) (x7 : Nat) (x8 : Int32) (x9 : Int32) (x10 : Int32) (x11 : Int64) (x13 : Int32) (x14 : Int32) (x15 : Int32) (x16 : Int32) (cd dd : Nat) (S : cS), R47 x0 x1 x2 x3 x4 x5 x6 x7 x8 x9 x10 x11 x13 x14 x15 x16 cd dd S → cG p l e (cRm 10 mc ms 231) s m args below meth c A D Y 18 (MQ below (cQi post D Y A) args s mc ms A) cd dd 47 [(0, .ref x0), (1, .ref x1), (2, .ref x2), (3, .ref x3), (4, .ref x4), (5, .ref x5), (6, .ref x6), (7, .ref x7), (8, .int x8), (9, .int x9), (10, .int x10), (11, .long x11), (13, .int x13), (14, .int x14), (15, .int x15), (16, .int x16)] [] S) (x0 : Nat) (x1 : Nat) (x2 : Nat) (x3 : Nat) (x4 : Nat) (x5 : Nat) (x6 : Nat) (x7 : Nat) (x8 : Int32) (x9 : Int32) (x10 : Int32) (x11 : Int64) (x13 : Int32) (x14 : Int32) (x15 : Int32) (x16 : Int32) (cd dd : Nat) (S : cS) (h : k_L_isAdded_47 post dp mc ms R18 R47 x0 x1 x2 x3 x4 x5 x6 x7 x8 x9 x10 x11 x13 x14 x15 x16 cd dd S) : cG p l e (cRm 10 mc ms 231) s m args below meth c A D Y 18 (MQ below (cQi post D Y A) args s mc ms A) cd dd 47 [(0, .ref x0), (1, .ref x1), (2, .ref x2), (3, .ref x3), (4, .ref x4), (5, .ref x5), (6, .ref x6), (7, .ref x7), (8, .int x8), (9, .int x9), (10, .int x10), (11, .long x11), (13, .int x13), (14, .int x14), (15, .int x15), (16, .int x16)] [] S := by
  unfold k_L_isAdded_47 at h
  refine cg_iload C 15 rfl dL_isAdded_47 ?_
  refine cg_iconst C (x := nI 1) rfl dL_isAdded_49 ?_
  refine cg_iload C 14 rfl dL_isAdded_50 ?_
  refine cg_iconst C (x := nI 5) rfl dL_isAdded_52 ?_
  refine cg_irem C (by decide) dL_isAdded_53 ?_
  refine cg_iadd C dL_isAdded_54 ?_
  refine cg_icmp_ge C 106 (by decide) dL_isAdded_55 (fun c_ => ?_) (fun c_ => ?_)
  · have h := h.1 c_
    refine cg_iload C 12 rfl dL_isAdded_106 ?_
    refine cg_if_eq C 131 (by decide) dL_isAdded_108 (fun c_ => ?_) (fun c_ => ?_)
    · have h := h.1 c_
      exact cg_sub [0, 1, 2, 3, 4, 5, 6, 7, 8, 9, 10, 11, 13] rfl (tb_L_isAdded_131 C hlt hR18 x0 x1 x2 x3 x4 x5 x6 x7 x8 x9 x10 x11 x14 cd dd S h)
    · have h := h.2 c_
      refine cg_aload_n C (i := 0) rfl 0 rfl dL_isAdded_111 ?_
      refine cg_iload C 13 rfl dL_isAdded_112 ?_
      obtain ⟨hc_114, h⟩ := h
      obtain ⟨mc15, ms16, hm_1, hm_2, h⟩ := h
      refine cg_calli C (t_X11_text l mc15 ms16 x0 x14 S dp h) cc_L_228 hc_114.1 hc_114.2 (by decide) rfl rfl ⟨by decide, by decide⟩ ⟨hm_1, hm_2⟩ rfl (Nat.le_of_ble_eq_true rfl) dL_isAdded_114 (fun r_17 S_17 h => ?_)
      refine cg_lload C 11 rfl dL_isAdded_117 ?_
      refine cg_iload C 13 rfl dL_isAdded_119 ?_
      obtain ⟨hb_121, h⟩ := h
      refine cg_callsi C (t_L_tokens l x11 x14 S_17 dp h) cc_L_231 rfl ⟨by decide, by decide⟩ hb_121 rfl (Nat.le_of_ble_eq_true rfl) dL_isAdded_121 (fun r_18 S_18 h => ?_)
      simp only [Nat.add_zero]
      refine cg_icmp_ne C 131 (by decide) dL_isAdded_124 (fun c_ => ?_) (fun c_ => ?_)
      · have h := h.1 c_
        exact cg_sub [0, 1, 2, 3, 4, 5, 6, 7, 8, 9, 10, 11, 13] rfl (tb_L_isAdded_131 C hlt hR18 x0 x1 x2 x3 x4 x5 x6 x7 x8 x9 x10 x11 x14 (cd + mc15) (dd + ms16) S_18 h)
      · have h := h.2 c_
        refine cg_iconst C (x := nI 1) rfl dL_isAdded_127 ?_
        refine cg_goto C 132 (by decide) dL_isAdded_128 ?_
        exact cg_sub [0, 1, 2, 3, 4, 5, 6, 7, 8, 9, 10, 11, 13] rfl (tb_L_isAdded_132 C hlt hR18 x0 x1 x2 x3 x4 x5 x6 x7 x8 x9 x10 x11 x14 ((nI 1)) (cd + mc15) (dd + ms16) S_18 h)
  · have h := h.2 c_
    refine cg_iconst C (x := nI 1) rfl dL_isAdded_58 ?_
    refine cg_iload C 14 rfl dL_isAdded_59 ?_
    refine cg_iload C 15 rfl dL_isAdded_61 ?_
    refine cg_ishr C dL_isAdded_63 ?_
    refine cg_ldc C (x := (65535)) ckw_L_227 dL_isAdded_64 ?_
    refine cg_iand C dL_isAdded_66 ?_
    refine cg_bipush C (x := nI 7) rfl dL_isAdded_67 ?_
    refine cg_irem C (by decide) dL_isAdded_69 ?_
    refine cg_iadd C dL_isAdded_70 ?_
    refine cg_nmI (fun x17_19 e_x17_19 => ?_)
    have h := h x17_19 e_x17_19
    refine cg_istore C (lv' := [(17, .int x17_19), (0, .ref x0), (1, .ref x1), (2, .ref x2), (3, .ref x3), (4, .ref x4), (5, .ref x5), (6, .ref x6), (7, .ref x7), (8, .int x8), (9, .int x9), (10, .int x10), (11, .long x11), (13, .int x13), (14, .int x14), (15, .int x15), (16, .int x16)]) (Nat.le_of_ble_eq_true rfl) rfl dL_isAdded_71 ?_
    refine cg_lload C 12 rfl dL_isAdded_73 ?_
    refine cg_iload C 0 rfl dL_isAdded_75 ?_
    refine cg_i2l C dL_isAdded_77 ?_
    refine cg_iconst C (x := nI 4) rfl dL_isAdded_78 ?_
    refine cg_bipush C (x := nI 20) rfl dL_isAdded_79 ?_
    refine cg_iload C 14 rfl dL_isAdded_81 ?_
    refine cg_imul C dL_isAdded_83 ?_
    refine cg_iadd C dL_isAdded_84 ?_
    refine cg_iconst C (x := nI 4) rfl dL_isAdded_85 ?_
    refine cg_iload C 16 rfl dL_isAdded_86 ?_
    refine cg_imul C dL_isAdded_88 ?_
    refine cg_iadd C dL_isAdded_89 ?_
    refine cg_lshl C dL_isAdded_90 ?_
    refine cg_lor C dL_isAdded_91 ?_
    refine cg_nmL (fun x11_20 e_x11_20 => ?_)
    have h := h x11_20 e_x11_20
    refine cg_lstore C (lv' := [(11, .long x11_20), (17, .int x17_19), (0, .ref x0), (1, .ref x1), (2, .ref x2), (3, .ref x3), (4, .ref x4), (5, .ref x5), (6, .ref x6), (7, .ref x7), (8, .int x8), (9, .int x9), (10, .int x10), (13, .int x13), (14, .int x14), (15, .int x15), (16, .int x16)]) (Nat.le_of_ble_eq_true rfl) rfl dL_isAdded_92 ?_
    refine cg_aload_n C (i := 0) rfl 2 rfl dL_isAdded_94 ?_
    refine cg_iload C 1 rfl dL_isAdded_95 ?_
    obtain ⟨hb_97, h⟩ := h
    refine cg_callsv C (t_L_types l x0 x17_19 S dp h) cc_L_118 rfl ⟨by decide, by decide⟩ hb_97 rfl (Nat.le_of_ble_eq_true rfl) dL_isAdded_97 (fun S_21 h => ?_)
    simp only [Nat.add_zero]
    obtain ⟨x16_22, e_x16_22⟩ : ∃ z : Int32, z = x16 + nI 1 := ⟨_, rfl⟩
    have h := h x16_22 e_x16_22
    refine cg_iinc C (lv' := [(16, .int x16_22), (11, .long x11_20), (17, .int x17_19), (0, .ref x0), (1, .ref x1), (2, .ref x2), (3, .ref x3), (4, .ref x4), (5, .ref x5), (6, .ref x6), (7, .ref x7), (8, .int x8), (9, .int x9), (10, .int x10), (13, .int x13), (14, .int x14), (15, .int x15)]) 16 rfl (by rw [e_x16_22]; rfl) (Nat.le_of_ble_eq_true rfl) rfl dL_isAdded_100 ?_
    refine cg_goto C 47 (by decide) dL_isAdded_103 ?_
    exact cg_sub [3, 4, 5, 6, 7, 8, 9, 10, 11, 12, 13, 1, 14, 15, 16, 0] rfl (hR47 x0 x1 x2 x3 x4 x5 x6 x7 x8 x9 x10 x11_20 x13 x14 x15 x16_22 cd dd S_21 h)
set_option maxRecDepth 20000 in
theorem tl_L_isAdded_47 {mc ms : Nat} (C : cC p s m args meth c cL_isAdded 18 (some .boolean) A D Y tp dp RL) (hlt : l.stackTraces = false) {post : Int32 → cS → Prop} {R18 : Nat → Nat → Nat → Nat → Nat → Nat → Nat → Nat → Int32 → Int32 → Int32 → Int64 → Int32 → Int32 → Nat → Nat → cS → Prop} (hR18 : ∀ (x0 : Nat) (x1 : Nat) (x2 : Nat) (x3 : Nat) (x4 : Nat) (x5 : Nat) (x6 : Nat) (x7 : Nat) (x8 : Int32) (x9 : Int32) (x10 : Int32) (x11 : Int64) (x13 : Int32) (x14 : Int32) (cd dd : Nat) (S : cS), R18 x0 x1 x2 x3 x4 x5 x6 x7 x8 x9 x10 x11 x13 x14 cd dd S → cG p l e (cRm 10 mc ms 231) s m args below meth c A D Y 18 (MQ below (cQi post D Y A) args s mc ms A) cd dd 18 [(0, .ref x0), (1, .ref x1), (2, .ref x2), (3, .ref x3), (4, .ref x4), (5, .ref x5), (6, .ref x6), (7, .ref x7), (8, .int x8), (9, .int x9), (10, .int x10), (11, .long x11), (13, .int x13), (14, .int x14)] [] S) (x0 : Nat) (x1 : Nat) (x2 : Nat) (x3 : Nat) (x4 : Nat) (x5 : Nat) (x6 : Nat) (x7 : Nat) (x8 : Int32) (x9 : Int32) (x10 : Int32) (x11 : Int64) (x13 : Int32) (x14 : Int32) (x15 : Int32) (x16 : Int32) (cd dd : Nat) (S : cS) (h : k_L_isAdded_47L post dp mc ms R18 x0 x1 x2 x3 x4 x5 x6 x7 x8 x9 x10 x11 x13 x14 x15 x16 cd dd S) : cG p l e (cRm 10 mc ms 231) s m args below meth c A D Y 18 (MQ below (cQi post D Y A) args s mc ms A) cd dd 47 [(0, .ref x0), (1, .ref x1), (2, .ref x2), (3, .ref x3), (4, .ref x4), (5, .ref x5), (6, .ref x6), (7, .ref x7), (8, .int x8), (9, .int x9), (10, .int x10), (11, .long x11), (13, .int x13), (14, .int x14), (15, .int x15), (16, .int x16)] [] S :=
  h (fun y => cG p l e (cRm 10 mc ms 231) s m args below meth c A D Y 18 (MQ below (cQi post D Y A) args s mc ms A) (y.2.2.2.2.2.2.2.2.2.2.2.2.2.2.2.2.1) (y.2.2.2.2.2.2.2.2.2.2.2.2.2.2.2.2.2.1) 47 [(0, .ref (y.1)), (1, .ref (y.2.1)), (2, .ref (y.2.2.1)), (3, .ref (y.2.2.2.1)), (4, .ref (y.2.2.2.2.1)), (5, .ref (y.2.2.2.2.2.1)), (6, .ref (y.2.2.2.2.2.2.1)), (7, .ref (y.2.2.2.2.2.2.2.1)), (8, .int (y.2.2.2.2.2.2.2.2.1)), (9, .int (y.2.2.2.2.2.2.2.2.2.1)), (10, .int (y.2.2.2.2.2.2.2.2.2.2.1)), (11, .long (y.2.2.2.2.2.2.2.2.2.2.2.1)), (13, .int (y.2.2.2.2.2.2.2.2.2.2.2.2.1)), (14, .int (y.2.2.2.2.2.2.2.2.2.2.2.2.2.1)), (15, .int (y.2.2.2.2.2.2.2.2.2.2.2.2.2.2.1)), (16, .int (y.2.2.2.2.2.2.2.2.2.2.2.2.2.2.2.1))] [] (y.2.2.2.2.2.2.2.2.2.2.2.2.2.2.2.2.2.2)) (fun y hy => tb_L_isAdded_47 C hlt hR18 (fun b0 b1 b2 b3 b4 b5 b6 b7 b8 b9 b10 b11 b12 b13 b14 b15 b16 b17 S z => z) (y.1) (y.2.1) (y.2.2.1) (y.2.2.2.1) (y.2.2.2.2.1) (y.2.2.2.2.2.1) (y.2.2.2.2.2.2.1) (y.2.2.2.2.2.2.2.1) (y.2.2.2.2.2.2.2.2.1) (y.2.2.2.2.2.2.2.2.2.1) (y.2.2.2.2.2.2.2.2.2.2.1) (y.2.2.2.2.2.2.2.2.2.2.2.1) (y.2.2.2.2.2.2.2.2.2.2.2.2.1) (y.2.2.2.2.2.2.2.2.2.2.2.2.2.1) (y.2.2.2.2.2.2.2.2.2.2.2.2.2.2.1) (y.2.2.2.2.2.2.2.2.2.2.2.2.2.2.2.1) (y.2.2.2.2.2.2.2.2.2.2.2.2.2.2.2.2.1) (y.2.2.2.2.2.2.2.2.2.2.2.2.2.2.2.2.2.1) (y.2.2.2.2.2.2.2.2.2.2.2.2.2.2.2.2.2.2) hy)
set_option maxRecDepth 20000 in
theorem tb_L_isAdded_42 {mc ms : Nat} (C : cC p s m args meth c cL_isAdded 18 (some .boolean) A D Y tp dp RL) (hlt : l.stackTraces = false) {post : Int32 → cS → Prop} {R18 : Nat → Nat → Nat → Nat → Nat → Nat → Nat → Nat → Int32 → Int32 → Int32 → Int64 → Int32 → Int32 → Nat → Nat → cS → Prop} (hR18 : ∀ (x0 : Nat) (x1 : Nat) (x2 : Nat) (x3 : Nat) (x4 : Nat) (x5 : Nat) (x6 : Nat) (x7 : Nat) (x8 : Int32) (x9 : Int32) (x10 : Int32) (x11 : Int64) (x13 : Int32) (x14 : Int32) (cd dd : Nat) (S : cS), R18 x0 x1 x2 x3 x4 x5 x6 x7 x8 x9 x10 x11 x13 x14 cd dd S → cG p l e (cRm 10 mc ms 231) s m args below meth c A D Y 18 (MQ below (cQi post D Y A) args s mc ms A) cd dd 18 [(0, .ref x0), (1, .ref x1), (2, .ref x2), (3, .ref x3), (4, .ref x4), (5, .ref x5), (6, .ref x6), (7, .ref x7), (8, .int x8), (9, .int x9), (10, .int x10), (11, .long x11), (13, .int x13), (14, .int x14)] [] S) (x0 : Nat) (x1 : Nat) (x2 : Nat) (x3 : Nat) (x4 : Nat) (x5 : Nat) (x6 : Nat) (x7 : Nat) (x8 : Int32) (x9 : Int32) (x10 : Int32) (x11 : Int64) (x13 : Int32) (x14 : Int32) (t0 : Int32) (cd dd : Nat) (S : cS) (h : k_L_isAdded_42 post dp mc ms R18 x0 x1 x2 x3 x4 x5 x6 x7 x8 x9 x10 x11 x13 x14 t0 cd dd S) : cG p l e (cRm 10 mc ms 231) s m args below meth c A D Y 18 (MQ below (cQi post D Y A) args s mc ms A) cd dd 42 [(0, .ref x0), (1, .ref x1), (2, .ref x2), (3, .ref x3), (4, .ref x4), (5, .ref x5), (6, .ref x6), (7, .ref x7), (8, .int x8), (9, .int x9), (10, .int x10), (11, .long x11), (13, .int x13), (14, .int x14)] [.int t0] S := by
  unfold k_L_isAdded_42 at h
  refine cg_istore C (lv' := [(15, .int t0), (0, .ref x0), (1, .ref x1), (2, .ref x2), (3, .ref x3), (4, .ref x4), (5, .ref x5), (6, .ref x6), (7, .ref x7), (8, .int x8), (9, .int x9), (10, .int x10), (11, .long x11), (13, .int x13), (14, .int x14)]) (Nat.le_of_ble_eq_true rfl) rfl dL_isAdded_42 ?_
  refine cg_iconst C (x := nI 0) rfl dL_isAdded_44 ?_
  refine cg_istore C (lv' := [(16, .int ((nI 0))), (15, .int t0), (0, .ref x0), (1, .ref x1), (2, .ref x2), (3, .ref x3), (4, .ref x4), (5, .ref x5), (6, .ref x6), (7, .ref x7), (8, .int x8), (9, .int x9), (10, .int x10), (11, .long x11), (13, .int x13), (14, .int x14)]) (Nat.le_of_ble_eq_true rfl) rfl dL_isAdded_45 ?_
  exact cg_sub [2, 3, 4, 5, 6, 7, 8, 9, 10, 11, 12, 13, 14, 15, 1, 0] rfl (tl_L_isAdded_47 C hlt hR18 x0 x1 x2 x3 x4 x5 x6 x7 x8 x9 x10 x11 x13 x14 t0 (((nI 0))) cd dd S h)
set_option maxRecDepth 20000 in
theorem tb_L_isAdded_18 {mc ms : Nat} (C : cC p s m args meth c cL_isAdded 18 (some .boolean) A D Y tp dp RL) (hlt : l.stackTraces = false) {post : Int32 → cS → Prop} {R18 : Nat → Nat → Nat → Nat → Nat → Nat → Nat → Nat → Int32 → Int32 → Int32 → Int64 → Int32 → Int32 → Nat → Nat → cS → Prop} (hR18 : ∀ (x0 : Nat) (x1 : Nat) (x2 : Nat) (x3 : Nat) (x4 : Nat) (x5 : Nat) (x6 : Nat) (x7 : Nat) (x8 : Int32) (x9 : Int32) (x10 : Int32) (x11 : Int64) (x13 : Int32) (x14 : Int32) (cd dd : Nat) (S : cS), R18 x0 x1 x2 x3 x4 x5 x6 x7 x8 x9 x10 x11 x13 x14 cd dd S → cG p l e (cRm 10 mc ms 231) s m args below meth c A D Y 18 (MQ below (cQi post D Y A) args s mc ms A) cd dd 18 [(0, .ref x0), (1, .ref x1), (2, .ref x2), (3, .ref x3), (4, .ref x4), (5, .ref x5), (6, .ref x6), (7, .ref x7), (8, .int x8), (9, .int x9), (10, .int x10), (11, .long x11), (13, .int x13), (14, .int x14)] [] S) (x0 : Nat) (x1 : Nat) (x2 : Nat) (x3 : Nat) (x4 : Nat) (x5 : Nat) (x6 : Nat) (x7 : Nat) (x8 : Int32) (x9 : Int32) (x10 : Int32) (x11 : Int64) (x13 : Int32) (x14 : Int32) (cd dd : Nat) (S : cS) (h : k_L_isAdded_18 post dp mc ms R18 x0 x1 x2 x3 x4 x5 x6 x7 x8 x9 x10 x11 x13 x14 cd dd S) : cG p l e (cRm 10 mc ms 231) s m args below meth c A D Y 18 (MQ below (cQi post D Y A) args s mc ms A) cd dd 18 [(0, .ref x0), (1, .ref x1), (2, .ref x2), (3, .ref x3), (4, .ref x4), (5, .ref x5), (6, .ref x6), (7, .ref x7), (8, .int x8), (9, .int x9), (10, .int x10), (11, .long x11), (13, .int x13), (14, .int x14)] [] S := by
  unfold k_L_isAdded_18 at h
  refine cg_iload C 13 rfl dL_isAdded_18 ?_
  refine cg_iconst C (x := nI 2) rfl dL_isAdded_20 ?_
  refine cg_icmp_ge C 140 (by decide) dL_isAdded_21 (fun c_ => ?_) (fun c_ => ?_)
  · have h := h.1 c_
    refine cg_aload_n C (i := 0) rfl 0 rfl dL_isAdded_140 ?_
    refine cg_iload C 8 rfl dL_isAdded_141 ?_
    refine cg_bipush C (x := nI 10) rfl dL_isAdded_143 ?_
    refine cg_idiv C (by decide) dL_isAdded_145 ?_
    refine cg_iconst C (x := nI 3) rfl dL_isAdded_146 ?_
    refine cg_irem C (by decide) dL_isAdded_147 ?_
    refine cg_iload C 8 rfl dL_isAdded_148 ?_
    refine cg_bipush C (x := nI 30) rfl dL_isAdded_150 ?_
    refine cg_idiv C (by decide) dL_isAdded_152 ?_
    refine cg_iconst C (x := nI 5) rfl dL_isAdded_153 ?_
    refine cg_irem C (by decide) dL_isAdded_154 ?_
    obtain ⟨hc_155, h⟩ := h
    obtain ⟨hb_155, h⟩ := h
    refine cg_callv C (t_X11_columns l x0 ((((x8 / ((nI 10)))) - ((x8 / ((nI 10)))) / ((nI 3)) * ((nI 3)))) ((((x8 / ((nI 30)))) - ((x8 / ((nI 30)))) / ((nI 5)) * ((nI 5)))) S dp h) cc_L_234 hc_155.1 hc_155.2 (by decide) rfl rfl ⟨by decide, by decide⟩ hb_155 rfl (Nat.le_of_ble_eq_true rfl) dL_isAdded_155 (fun S_3 h => ?_)
    simp only [Nat.add_zero]
    refine cg_lload C 11 rfl dL_isAdded_158 ?_
    refine cg_iload C 8 rfl dL_isAdded_160 ?_
    refine cg_bipush C (x := nI 10) rfl dL_isAdded_162 ?_
    refine cg_idiv C (by decide) dL_isAdded_164 ?_
    refine cg_iconst C (x := nI 3) rfl dL_isAdded_165 ?_
    refine cg_irem C (by decide) dL_isAdded_166 ?_
    refine cg_i2l C dL_isAdded_167 ?_
    refine cg_bipush C (x := nI 44) rfl dL_isAdded_168 ?_
    refine cg_lshl C dL_isAdded_170 ?_
    refine cg_iload C 8 rfl dL_isAdded_171 ?_
    refine cg_bipush C (x := nI 30) rfl dL_isAdded_173 ?_
    refine cg_idiv C (by decide) dL_isAdded_175 ?_
    refine cg_iconst C (x := nI 5) rfl dL_isAdded_176 ?_
    refine cg_irem C (by decide) dL_isAdded_177 ?_
    refine cg_i2l C dL_isAdded_178 ?_
    refine cg_bipush C (x := nI 48) rfl dL_isAdded_179 ?_
    refine cg_lshl C dL_isAdded_181 ?_
    refine cg_lor C dL_isAdded_182 ?_
    refine cg_lor C dL_isAdded_183 ?_
    refine cg_nmL (fun x11_4 e_x11_4 => ?_)
    have h := h x11_4 e_x11_4
    refine cg_lstore C (lv' := [(11, .long x11_4), (0, .ref x0), (1, .ref x1), (2, .ref x2), (3, .ref x3), (4, .ref x4), (5, .ref x5), (6, .ref x6), (7, .ref x7), (8, .int x8), (9, .int x9), (10, .int x10), (13, .int x13), (14, .int x14)]) (Nat.le_of_ble_eq_true rfl) rfl dL_isAdded_184 ?_
    refine cg_aload C 8 rfl dL_isAdded_186 ?_
    refine cg_bipush C (x := nI 6) rfl dL_isAdded_188 ?_
    obtain ⟨hc_190, h⟩ := h
    refine cg_ialoadR C hc_190 dL_isAdded_190 ?_
    refine cg_iconst C (x := nI 1) rfl dL_isAdded_191 ?_
    refine cg_icmp_ne C 217 (by decide) dL_isAdded_192 (fun c_ => ?_) (fun c_ => ?_)
    · have h := h.1 c_
      refine cg_aload_n C (i := 1) rfl 2 rfl dL_isAdded_217 ?_
      refine cg_aload_n C (i := 2) rfl 3 rfl dL_isAdded_218 ?_
      refine cg_aload_n C (i := 3) rfl 4 rfl dL_isAdded_219 ?_
      refine cg_aload C 5 rfl dL_isAdded_220 ?_
      refine cg_aload C 6 rfl dL_isAdded_222 ?_
      refine cg_aload C 7 rfl dL_isAdded_224 ?_
      refine cg_aload C 8 rfl dL_isAdded_226 ?_
      refine cg_iload C 11 rfl dL_isAdded_228 ?_
      obtain ⟨hb_230, h⟩ := h
      refine cg_callsi C (t_L_deletes l x1 x2 x3 x4 x5 x6 x7 x10 S_3 dp h) cc_L_241 rfl ⟨by decide, by decide⟩ hb_230 rfl (Nat.le_of_ble_eq_true rfl) dL_isAdded_230 (fun r_5 S_5 h => ?_)
      simp only [Nat.add_zero]
      refine cg_pop C rfl dL_isAdded_233 ?_
      refine cg_aload_n C (i := 2) rfl 3 rfl dL_isAdded_234 ?_
      refine cg_aload C 8 rfl dL_isAdded_235 ?_
      refine cg_iconst C (x := nI 1) rfl dL_isAdded_237 ?_
      obtain ⟨hc_238, h⟩ := h
      refine cg_ialoadR C hc_238 dL_isAdded_238 ?_
      refine cg_lload C 0 rfl dL_isAdded_239 ?_
      obtain ⟨hc_241, h⟩ := h
      refine cg_lastoreR C hc_241 dL_isAdded_241 ?_
      refine cg_nm (fun S6 e_S6 => ?_)
      have h := h S6 e_S6
      refine cg_aload C 8 rfl dL_isAdded_242 ?_
      refine cg_iconst C (x := nI 1) rfl dL_isAdded_244 ?_
      refine cg_dup2 C rfl rfl dL_isAdded_245 ?_
      obtain ⟨hc_246, h⟩ := h
      refine cg_ialoadR C hc_246 dL_isAdded_246 ?_
      refine cg_iconst C (x := nI 1) rfl dL_isAdded_247 ?_
      refine cg_iadd C dL_isAdded_248 ?_
      obtain ⟨hc_249, h⟩ := h
      refine cg_iastoreR C hc_249 dL_isAdded_249 ?_
      refine cg_nm (fun S7 e_S7 => ?_)
      have h := h S7 e_S7
      refine cg_iload C 12 rfl dL_isAdded_250 ?_
      refine cg_if_eq C 272 (by decide) dL_isAdded_252 (fun c_ => ?_) (fun c_ => ?_)
      · have h := h.1 c_
        refine cg_iconst C (x := nI 0) rfl dL_isAdded_272 ?_
        obtain ⟨hb_273, h⟩ := h
        refine cg_cast (.int (bI false)) rfl ?_
        exact cg_zret C (bI_nar _) h dL_isAdded_273 hb_273.1 hb_273.2
      · have h := h.2 c_
        refine cg_aload_n C (i := 0) rfl 1 rfl dL_isAdded_255 ?_
        refine cg_iload C 11 rfl dL_isAdded_256 ?_
        obtain ⟨mc8, ms9, hm_1, hm_2, h⟩ := h
        refine cg_callsWi C (tw_L_added l hlt mc8 ms9 x0 x10 S7 dp h) cc_L_238 rfl ⟨by decide, by decide⟩ ⟨hm_1, hm_2⟩ rfl (Nat.le_of_ble_eq_true rfl) dL_isAdded_258 (fun r_10 S_10 h => ?_)
        refine cg_aload C 8 rfl dL_isAdded_261 ?_
        refine cg_iconst C (x := nI 1) rfl dL_isAdded_263 ?_
        obtain ⟨hc_264, h⟩ := h
        refine cg_ialoadR C hc_264 dL_isAdded_264 ?_
        refine cg_icmp_ne C 272 (by decide) dL_isAdded_265 (fun c_ => ?_) (fun c_ => ?_)
        · have h := h.1 c_
          refine cg_iconst C (x := nI 0) rfl dL_isAdded_272 ?_
          obtain ⟨hb_273, h⟩ := h
          refine cg_cast (.int (bI false)) rfl ?_
          exact cg_zret C (bI_nar _) h dL_isAdded_273 hb_273.1 hb_273.2
        · have h := h.2 c_
          refine cg_iconst C (x := nI 1) rfl dL_isAdded_268 ?_
          refine cg_goto C 273 (by decide) dL_isAdded_269 ?_
          obtain ⟨hb_273, h⟩ := h
          refine cg_cast (.int (bI true)) rfl ?_
          exact cg_zret C (bI_nar _) h dL_isAdded_273 hb_273.1 hb_273.2
    · have h := h.2 c_
      refine cg_iload C 12 rfl dL_isAdded_195 ?_
      refine cg_if_eq C 215 (by decide) dL_isAdded_197 (fun c_ => ?_) (fun c_ => ?_)
      · have h := h.1 c_
        refine cg_iconst C (x := nI 0) rfl dL_isAdded_215 ?_
        obtain ⟨hb_216, h⟩ := h
        refine cg_cast (.int (bI false)) rfl ?_
        exact cg_zret C (bI_nar _) h dL_isAdded_216 hb_216.1 hb_216.2
      · have h := h.2 c_
        refine cg_aload_n C (i := 0) rfl 1 rfl dL_isAdded_200 ?_
        refine cg_iload C 11 rfl dL_isAdded_201 ?_
        obtain ⟨mc11, ms12, hm_1, hm_2, h⟩ := h
        refine cg_callsWi C (tw_L_added l hlt mc11 ms12 x0 x10 S_3 dp h) cc_L_238 rfl ⟨by decide, by decide⟩ ⟨hm_1, hm_2⟩ rfl (Nat.le_of_ble_eq_true rfl) dL_isAdded_203 (fun r_13 S_13 h => ?_)
        refine cg_bipush C (x := (-7)) rfl dL_isAdded_206 ?_
        refine cg_icmp_ne C 215 (by decide) dL_isAdded_208 (fun c_ => ?_) (fun c_ => ?_)
        · have h := h.1 c_
          refine cg_iconst C (x := nI 0) rfl dL_isAdded_215 ?_
          obtain ⟨hb_216, h⟩ := h
          refine cg_cast (.int (bI false)) rfl ?_
          exact cg_zret C (bI_nar _) h dL_isAdded_216 hb_216.1 hb_216.2
        · have h := h.2 c_
          refine cg_iconst C (x := nI 1) rfl dL_isAdded_211 ?_
          refine cg_goto C 216 (by decide) dL_isAdded_212 ?_
          obtain ⟨hb_216, h⟩ := h
          refine cg_cast (.int (bI true)) rfl ?_
          exact cg_zret C (bI_nar _) h dL_isAdded_216 hb_216.1 hb_216.2
  · have h := h.2 c_
    refine cg_iload C 13 rfl dL_isAdded_24 ?_
    refine cg_if_ne C 34 (by decide) dL_isAdded_26 (fun c_ => ?_) (fun c_ => ?_)
    · have h := h.1 c_
      refine cg_iload C 9 rfl dL_isAdded_34 ?_
      refine cg_bipush C (x := nI 17) rfl dL_isAdded_36 ?_
      refine cg_idiv C (by decide) dL_isAdded_38 ?_
      refine cg_iload C 8 rfl dL_isAdded_39 ?_
      refine cg_ixor C dL_isAdded_41 ?_
      exact cg_sub [0, 1, 2, 3, 4, 5, 6, 7, 8, 9, 10, 11, 12, 13] rfl (tb_L_isAdded_42 C hlt hR18 x0 x1 x2 x3 x4 x5 x6 x7 x8 x9 x10 x11 x13 x14 ((((x9 / ((nI 17)))) ^^^ x8)) cd dd S h)
    · have h := h.2 c_
      refine cg_iload C 9 rfl dL_isAdded_29 ?_
      refine cg_goto C 42 (by decide) dL_isAdded_31 ?_
      exact cg_sub [0, 1, 2, 3, 4, 5, 6, 7, 8, 9, 10, 11, 12, 13] rfl (tb_L_isAdded_42 C hlt hR18 x0 x1 x2 x3 x4 x5 x6 x7 x8 x9 x10 x11 x13 x14 x9 cd dd S h)
set_option maxRecDepth 20000 in
theorem tl_L_isAdded_18 {mc ms : Nat} (C : cC p s m args meth c cL_isAdded 18 (some .boolean) A D Y tp dp RL) (hlt : l.stackTraces = false) {post : Int32 → cS → Prop}   (x0 : Nat) (x1 : Nat) (x2 : Nat) (x3 : Nat) (x4 : Nat) (x5 : Nat) (x6 : Nat) (x7 : Nat) (x8 : Int32) (x9 : Int32) (x10 : Int32) (x11 : Int64) (x13 : Int32) (x14 : Int32) (cd dd : Nat) (S : cS) (h : k_L_isAdded_18L post dp mc ms  x0 x1 x2 x3 x4 x5 x6 x7 x8 x9 x10 x11 x13 x14 cd dd S) : cG p l e (cRm 10 mc ms 231) s m args below meth c A D Y 18 (MQ below (cQi post D Y A) args s mc ms A) cd dd 18 [(0, .ref x0), (1, .ref x1), (2, .ref x2), (3, .ref x3), (4, .ref x4), (5, .ref x5), (6, .ref x6), (7, .ref x7), (8, .int x8), (9, .int x9), (10, .int x10), (11, .long x11), (13, .int x13), (14, .int x14)] [] S :=
  h (fun y => cG p l e (cRm 10 mc ms 231) s m args below meth c A D Y 18 (MQ below (cQi post D Y A) args s mc ms A) (y.2.2.2.2.2.2.2.2.2.2.2.2.2.2.1) (y.2.2.2.2.2.2.2.2.2.2.2.2.2.2.2.1) 18 [(0, .ref (y.1)), (1, .ref (y.2.1)), (2, .ref (y.2.2.1)), (3, .ref (y.2.2.2.1)), (4, .ref (y.2.2.2.2.1)), (5, .ref (y.2.2.2.2.2.1)), (6, .ref (y.2.2.2.2.2.2.1)), (7, .ref (y.2.2.2.2.2.2.2.1)), (8, .int (y.2.2.2.2.2.2.2.2.1)), (9, .int (y.2.2.2.2.2.2.2.2.2.1)), (10, .int (y.2.2.2.2.2.2.2.2.2.2.1)), (11, .long (y.2.2.2.2.2.2.2.2.2.2.2.1)), (13, .int (y.2.2.2.2.2.2.2.2.2.2.2.2.1)), (14, .int (y.2.2.2.2.2.2.2.2.2.2.2.2.2.1))] [] (y.2.2.2.2.2.2.2.2.2.2.2.2.2.2.2.2)) (fun y hy => tb_L_isAdded_18 C hlt  (fun b0 b1 b2 b3 b4 b5 b6 b7 b8 b9 b10 b11 b12 b13 b14 b15 S z => z) (y.1) (y.2.1) (y.2.2.1) (y.2.2.2.1) (y.2.2.2.2.1) (y.2.2.2.2.2.1) (y.2.2.2.2.2.2.1) (y.2.2.2.2.2.2.2.1) (y.2.2.2.2.2.2.2.2.1) (y.2.2.2.2.2.2.2.2.2.1) (y.2.2.2.2.2.2.2.2.2.2.1) (y.2.2.2.2.2.2.2.2.2.2.2.1) (y.2.2.2.2.2.2.2.2.2.2.2.2.1) (y.2.2.2.2.2.2.2.2.2.2.2.2.2.1) (y.2.2.2.2.2.2.2.2.2.2.2.2.2.2.1) (y.2.2.2.2.2.2.2.2.2.2.2.2.2.2.2.1) (y.2.2.2.2.2.2.2.2.2.2.2.2.2.2.2.2) hy)
end S_L_isAdded
set_option maxHeartbeats 1000000 in
set_option maxRecDepth 20000 in
theorem t_L_isAdded (l : Launch) (hlt : l.stackTraces = false) (mc ms : Nat) (x0 : Nat) (x1 : Nat) (x2 : Nat) (x3 : Nat) (x4 : Nat) (x5 : Nat) (x6 : Nat) (x7 : Nat) (x8 : Int32) (x9 : Int32) (S : cS) (dp : Nat) {P : Int32 → cS → Prop} (h : k_L_isAdded P dp mc ms x0 x1 x2 x3 x4 x5 x6 x7 x8 x9 S) : cMet (cQi P) l yL_isAdded cL_isAdded 18 (some .boolean) 10 mc ms 231 [.ref x0, .ref x1, .ref x2, .ref x3, .ref x4, .ref x5, .ref x6, .ref x7, .int x8, .int x9] S dp := by
  intro D Y tp sz
  refine cg_body (by decide +kernel) (Nat.le_of_ble_eq_true rfl) ?_
  intro p e s m args below meth c C
  generalize va_A (cWd Y S) sz = A at C ⊢
  have C : cC p s m args meth c cL_isAdded 18 (some .boolean) A D Y tp dp RL := C
  refine cg_lv (lv' := [(0, .ref x0), (1, .ref x1), (2, .ref x2), (3, .ref x3), (4, .ref x4), (5, .ref x5), (6, .ref x6), (7, .ref x7), (8, .int x8), (9, .int x9)]) rfl ?_
  unfold k_L_isAdded at h
  refine cg_iload C 8 rfl dL_isAdded_0 ?_
  refine cg_bipush C (x := nI 10) rfl dL_isAdded_2 ?_
  refine cg_irem C (by decide) dL_isAdded_4 ?_
  refine cg_nmI (fun x10_1 e_x10_1 => ?_)
  have h := h x10_1 e_x10_1
  refine cg_istore C (lv' := [(10, .int x10_1), (0, .ref x0), (1, .ref x1), (2, .ref x2), (3, .ref x3), (4, .ref x4), (5, .ref x5), (6, .ref x6), (7, .ref x7), (8, .int x8), (9, .int x9)]) (Nat.le_of_ble_eq_true rfl) rfl dL_isAdded_5 ?_
  refine cg_iload C 0 rfl dL_isAdded_7 ?_
  refine cg_i2l C dL_isAdded_9 ?_
  refine cg_nmL (fun x11_2 e_x11_2 => ?_)
  have h := h x11_2 e_x11_2
  refine cg_lstore C (lv' := [(11, .long x11_2), (10, .int x10_1), (0, .ref x0), (1, .ref x1), (2, .ref x2), (3, .ref x3), (4, .ref x4), (5, .ref x5), (6, .ref x6), (7, .ref x7), (8, .int x8), (9, .int x9)]) (Nat.le_of_ble_eq_true rfl) rfl dL_isAdded_10 ?_
  refine cg_iconst C (x := nI 1) rfl dL_isAdded_12 ?_
  refine cg_istore C (lv' := [(13, .int ((nI 1))), (11, .long x11_2), (10, .int x10_1), (0, .ref x0), (1, .ref x1), (2, .ref x2), (3, .ref x3), (4, .ref x4), (5, .ref x5), (6, .ref x6), (7, .ref x7), (8, .int x8), (9, .int x9)]) (Nat.le_of_ble_eq_true rfl) rfl dL_isAdded_13 ?_
  refine cg_iconst C (x := nI 0) rfl dL_isAdded_15 ?_
  refine cg_istore C (lv' := [(14, .int ((nI 0))), (13, .int ((nI 1))), (11, .long x11_2), (10, .int x10_1), (0, .ref x0), (1, .ref x1), (2, .ref x2), (3, .ref x3), (4, .ref x4), (5, .ref x5), (6, .ref x6), (7, .ref x7), (8, .int x8), (9, .int x9)]) (Nat.le_of_ble_eq_true rfl) rfl dL_isAdded_16 ?_
  exact cg_sub [4, 5, 6, 7, 8, 9, 10, 11, 12, 13, 3, 2, 1, 0] rfl (tl_L_isAdded_18 C hlt  x0 x1 x2 x3 x4 x5 x6 x7 x8 x9 x10_1 x11_2 (((nI 1))) (((nI 0))) 0 0 S h)
