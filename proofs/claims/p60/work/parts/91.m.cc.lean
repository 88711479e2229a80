/-! the law's methods as predicates, and their contracts -/
section S_L_writes
variable {p : Program} {l : Launch} {e : Env} {s : State} {m : MethodId} {args : Array Value} {below : List Frame} {meth : Method} {c : Code} {A : Nat → Prop} {D : va_G} {Y : cY} {tp dp : Nat}
set_option maxRecDepth 20000 in
theorem tb_L_writes_73 (C : cC p s m args meth c cL_writes 4 (some .boolean) A D Y tp dp RL) {post : Int32 → cS → Prop}   (x0 : Nat) (t0 : Int32) (t1 : Int32) (t2 : Int32) (t3 : Nat) (S : cS) (h : k_L_writes_73 post dp  x0 t0 t1 t2 t3 S) : cG p l e (cRm 0 0 0 0) s m args below meth c A D Y 4 (MQ below (cQi post D Y A) args s 0 0 A) 0 0 73 [(0, .ref x0)] [.int t0, .int t1, .int t2, .ref t3] S := by
  unfold k_L_writes_73 at h
  refine cg_isub C dL_writes_73 ?_
  obtain ⟨hc_74, h⟩ := h
  refine cg_iastoreR C hc_74 dL_writes_74 ?_
  refine cg_nm (fun S1 e_S1 => ?_)
  have h := h S1 e_S1
  refine cg_aload_n C (i := 0) rfl 0 rfl dL_writes_75 ?_
  refine cg_iconst C (x := nI 4) rfl dL_writes_76 ?_
  refine cg_dup2 C rfl rfl dL_writes_77 ?_
  obtain ⟨hc_78, h⟩ := h
  refine cg_ialoadR C hc_78 dL_writes_78 ?_
  refine cg_iconst C (x := nI 1) rfl dL_writes_79 ?_
  refine cg_iadd C dL_writes_80 ?_
  obtain ⟨hc_81, h⟩ := h
  refine cg_iastoreR C hc_81 dL_writes_81 ?_
  refine cg_nm (fun S2 e_S2 => ?_)
  have h := h S2 e_S2
  refine cg_iconst C (x := nI 1) rfl dL_writes_82 ?_
  refine cg_cast (.int (bI true)) rfl ?_
  exact cg_zret C (bI_nar _) h dL_writes_83 (by decide) (by decide)
end S_L_writes
set_option maxHeartbeats 1000000 in
set_option maxRecDepth 20000 in
theorem t_L_writes (l : Launch) (x0 : Nat) (x1 : Nat) (x2 : Nat) (x3 : Nat) (S : cS) (dp : Nat) {P : Int32 → cS → Prop} (h : k_L_writes P dp x0 x1 x2 x3 S) : cMet (cQi P) l yL_writes cL_writes 4 (some .boolean) 0 0 0 0 [.ref x0, .ref x1, .ref x2, .ref x3] S dp := by
  intro D Y tp sz
  refine cg_body (by decide +kernel) (Nat.le_of_ble_eq_true rfl) ?_
  intro p e s m args below meth c C
  generalize va_A (cWd Y S) sz = A at C ⊢
  have C : cC p s m args meth c cL_writes 4 (some .boolean) A D Y tp dp RL := C
  refine cg_lv (lv' := [(0, .ref x0), (1, .ref x1), (2, .ref x2), (3, .ref x3)]) rfl ?_
  unfold k_L_writes at h
  refine cg_aload_n C (i := 0) rfl 0 rfl dL_writes_0 ?_
  refine cg_iconst C (x := nI 5) rfl dL_writes_1 ?_
  obtain ⟨hc_2, h⟩ := h
  refine cg_ialoadR C hc_2 dL_writes_2 ?_
  refine cg_if_ne C 58 (by decide) dL_writes_3 (fun c_ => ?_) (fun c_ => ?_)
  · have h := h.1 c_
    refine cg_aload_n C (i := 0) rfl 0 rfl dL_writes_58 ?_
    refine cg_iconst C (x := nI 5) rfl dL_writes_59 ?_
    refine cg_dup2 C rfl rfl dL_writes_60 ?_
    obtain ⟨hc_61, h⟩ := h
    refine cg_ialoadR C hc_61 dL_writes_61 ?_
    refine cg_aload_n C (i := 0) rfl 0 rfl dL_writes_62 ?_
    refine cg_iconst C (x := nI 5) rfl dL_writes_63 ?_
    obtain ⟨hc_64, h⟩ := h
    refine cg_ialoadR C hc_64 dL_writes_64 ?_
    refine cg_if_le C 72 (by decide) dL_writes_65 (fun c_ => ?_) (fun c_ => ?_)
    · have h := h.1 c_
      refine cg_iconst C (x := nI 0) rfl dL_writes_72 ?_
      exact cg_sub [0] rfl (tb_L_writes_73 C   x0 ((nI 0)) ((cI S x0 ((nI 5)).toNatClampNeg)) ((nI 5)) x0 S h)
    · have h := h.2 c_
      refine cg_iconst C (x := nI 1) rfl dL_writes_68 ?_
      refine cg_goto C 73 (by decide) dL_writes_69 ?_
      exact cg_sub [0] rfl (tb_L_writes_73 C   x0 ((nI 1)) ((cI S x0 ((nI 5)).toNatClampNeg)) ((nI 5)) x0 S h)
  · have h := h.2 c_
    refine cg_aload_n C (i := 0) rfl 0 rfl dL_writes_6 ?_
    refine cg_bipush C (x := nI 6) rfl dL_writes_7 ?_
    refine cg_iconst C (x := nI 1) rfl dL_writes_9 ?_
    obtain ⟨hc_10, h⟩ := h
    refine cg_iastoreR C hc_10 dL_writes_10 ?_
    refine cg_nm (fun S3 e_S3 => ?_)
    have h := h S3 e_S3
    refine cg_aload_n C (i := 0) rfl 0 rfl dL_writes_11 ?_
    refine cg_iconst C (x := nI 1) rfl dL_writes_12 ?_
    refine cg_iconst C (x := nI 0) rfl dL_writes_13 ?_
    obtain ⟨hc_14, h⟩ := h
    refine cg_iastoreR C hc_14 dL_writes_14 ?_
    refine cg_nm (fun S4 e_S4 => ?_)
    have h := h S4 e_S4
    refine cg_aload_n C (i := 0) rfl 0 rfl dL_writes_15 ?_
    refine cg_iconst C (x := nI 3) rfl dL_writes_16 ?_
    refine cg_iconst C (x := nI 0) rfl dL_writes_17 ?_
    obtain ⟨hc_18, h⟩ := h
    refine cg_iastoreR C hc_18 dL_writes_18 ?_
    refine cg_nm (fun S5 e_S5 => ?_)
    have h := h S5 e_S5
    refine cg_aload_n C (i := 0) rfl 0 rfl dL_writes_19 ?_
    refine cg_bipush C (x := nI 9) rfl dL_writes_20 ?_
    refine cg_iconst C (x := nI 0) rfl dL_writes_22 ?_
    obtain ⟨hc_23, h⟩ := h
    refine cg_iastoreR C hc_23 dL_writes_23 ?_
    refine cg_nm (fun S6 e_S6 => ?_)
    have h := h S6 e_S6
    refine cg_aload_n C (i := 0) rfl 0 rfl dL_writes_24 ?_
    refine cg_bipush C (x := nI 13) rfl dL_writes_25 ?_
    refine cg_iconst C (x := nI 0) rfl dL_writes_27 ?_
    obtain ⟨hc_28, h⟩ := h
    refine cg_iastoreR C hc_28 dL_writes_28 ?_
    refine cg_nm (fun S7 e_S7 => ?_)
    have h := h S7 e_S7
    refine cg_aload_n C (i := 0) rfl 0 rfl dL_writes_29 ?_
    refine cg_bipush C (x := nI 14) rfl dL_writes_30 ?_
    refine cg_iconst C (x := nI 0) rfl dL_writes_32 ?_
    obtain ⟨hc_33, h⟩ := h
    refine cg_iastoreR C hc_33 dL_writes_33 ?_
    refine cg_nm (fun S8 e_S8 => ?_)
    have h := h S8 e_S8
    refine cg_aload_n C (i := 0) rfl 0 rfl dL_writes_34 ?_
    refine cg_bipush C (x := nI 15) rfl dL_writes_35 ?_
    refine cg_iconst C (x := nI 0) rfl dL_writes_37 ?_
    obtain ⟨hc_38, h⟩ := h
    refine cg_iastoreR C hc_38 dL_writes_38 ?_
    refine cg_nm (fun S9 e_S9 => ?_)
    have h := h S9 e_S9
    refine cg_aload_n C (i := 0) rfl 0 rfl dL_writes_39 ?_
    refine cg_bipush C (x := nI 16) rfl dL_writes_40 ?_
    refine cg_iconst C (x := nI 0) rfl dL_writes_42 ?_
    obtain ⟨hc_43, h⟩ := h
    refine cg_iastoreR C hc_43 dL_writes_43 ?_
    refine cg_nm (fun S10 e_S10 => ?_)
    have h := h S10 e_S10
    refine cg_aload_n C (i := 1) rfl 1 rfl dL_writes_44 ?_
    refine cg_iconst C (x := nI 0) rfl dL_writes_45 ?_
    refine cg_iconst C (x := nI 0) rfl dL_writes_46 ?_
    obtain ⟨hc_47, h⟩ := h
    refine cg_iastoreR C hc_47 dL_writes_47 ?_
    refine cg_nm (fun S11 e_S11 => ?_)
    have h := h S11 e_S11
    refine cg_aload_n C (i := 2) rfl 2 rfl dL_writes_48 ?_
    refine cg_iconst C (x := nI 0) rfl dL_writes_49 ?_
    refine cg_iconst C (x := nI 0) rfl dL_writes_50 ?_
    obtain ⟨hc_51, h⟩ := h
    refine cg_iastoreR C hc_51 dL_writes_51 ?_
    refine cg_nm (fun S12 e_S12 => ?_)
    have h := h S12 e_S12
    refine cg_aload_n C (i := 3) rfl 3 rfl dL_writes_52 ?_
    refine cg_iconst C (x := nI 0) rfl dL_writes_53 ?_
    refine cg_iconst C (x := nI 0) rfl dL_writes_54 ?_
    obtain ⟨hc_55, h⟩ := h
    refine cg_iastoreR C hc_55 dL_writes_55 ?_
    refine cg_nm (fun S13 e_S13 => ?_)
    have h := h S13 e_S13
    refine cg_iconst C (x := nI 0) rfl dL_writes_56 ?_
    refine cg_cast (.int (bI false)) rfl ?_
    exact cg_zret C (bI_nar _) h dL_writes_57 (by decide) (by decide)
section S_L_flushed
variable {p : Program} {l : Launch} {e : Env} {s : State} {m : MethodId} {args : Array Value} {below : List Frame} {meth : Method} {c : Code} {A : Nat → Prop} {D : va_G} {Y : cY} {tp dp : Nat}
set_option maxRecDepth 20000 in
theorem tb_L_flushed_61 (C : cC p s m args meth c cL_flushed 13 (some .int) A D Y tp dp RL) {post : Int32 → cS → Prop} {R61 : Nat → Nat → Nat → Nat → Nat → Nat → Nat → Nat → Int32 → Int32 → cS → Prop} (hR61 : ∀ (x0 : Nat) (x1 : Nat) (x2 : Nat) (x3 : Nat) (x4 : Nat) (x5 : Nat) (x6 : Nat) (x10 : Nat) (x11 : Int32) (x12 : Int32) (S : cS), R61 x0 x1 x2 x3 x4 x5 x6 x10 x11 x12 S → cG p l e (cRm 1 0 0 23) s m args below meth c A D Y 13 (MQ below (cQi post D Y A) args s 0 0 A) 0 0 61 [(0, .ref x0), (1, .ref x1), (2, .ref x2), (3, .ref x3), (4, .ref x4), (5, .ref x5), (6, .ref x6), (10, .ref x10), (11, .int x11), (12, .int x12)] [] S) (x0 : Nat) (x1 : Nat) (x2 : Nat) (x3 : Nat) (x4 : Nat) (x5 : Nat) (x6 : Nat) (x10 : Nat) (x11 : Int32) (x12 : Int32) (S : cS) (h : k_L_flushed_61 post dp R61 x0 x1 x2 x3 x4 x5 x6 x10 x11 x12 S) : cG p l e (cRm 1 0 0 23) s m args below meth c A D Y 13 (MQ below (cQi post D Y A) args s 0 0 A) 0 0 61 [(0, .ref x0), (1, .ref x1), (2, .ref x2), (3, .ref x3), (4, .ref x4), (5, .ref x5), (6, .ref x6), (10, .ref x10), (11, .int x11), (12, .int x12)] [] S := by
  unfold k_L_flushed_61 at h
  refine cg_iload C 9 rfl dL_flushed_61 ?_
  refine cg_iload C 8 rfl dL_flushed_63 ?_
  refine cg_icmp_ge C 112 (by decide) dL_flushed_65 (fun c_ => ?_) (fun c_ => ?_)
  · have h := h.1 c_
    refine cg_aload_n C (i := 3) rfl 3 rfl dL_flushed_112 ?_
    refine cg_aload C 7 rfl dL_flushed_113 ?_
    refine cg_iconst C (x := nI 2) rfl dL_flushed_115 ?_
    obtain ⟨hc_116, h⟩ := h
    refine cg_ialoadR C hc_116 dL_flushed_116 ?_
    refine cg_iload C 8 rfl dL_flushed_117 ?_
    obtain ⟨hc_119, h⟩ := h
    refine cg_iastoreR C hc_119 dL_flushed_119 ?_
    refine cg_nm (fun S3 e_S3 => ?_)
    have h := h S3 e_S3
    refine cg_aload C 4 rfl dL_flushed_120 ?_
    refine cg_aload C 7 rfl dL_flushed_122 ?_
    refine cg_iconst C (x := nI 2) rfl dL_flushed_124 ?_
    obtain ⟨hc_125, h⟩ := h
    refine cg_ialoadR C hc_125 dL_flushed_125 ?_
    refine cg_iconst C (x := nI 1) rfl dL_flushed_126 ?_
    refine cg_iload C 8 rfl dL_flushed_127 ?_
    refine cg_ishl C dL_flushed_129 ?_
    refine cg_iconst C (x := nI 1) rfl dL_flushed_130 ?_
    refine cg_isub C dL_flushed_131 ?_
    obtain ⟨hc_132, h⟩ := h
    refine cg_iastoreR C hc_132 dL_flushed_132 ?_
    refine cg_nm (fun S4 e_S4 => ?_)
    have h := h S4 e_S4
    refine cg_aload C 5 rfl dL_flushed_133 ?_
    refine cg_aload C 7 rfl dL_flushed_135 ?_
    refine cg_iconst C (x := nI 2) rfl dL_flushed_137 ?_
    obtain ⟨hc_138, h⟩ := h
    refine cg_ialoadR C hc_138 dL_flushed_138 ?_
    refine cg_aload C 4 rfl dL_flushed_139 ?_
    refine cg_aload C 7 rfl dL_flushed_141 ?_
    refine cg_iconst C (x := nI 2) rfl dL_flushed_143 ?_
    obtain ⟨hc_144, h⟩ := h
    refine cg_ialoadR C hc_144 dL_flushed_144 ?_
    obtain ⟨hc_145, h⟩ := h
    refine cg_ialoadR C hc_145 dL_flushed_145 ?_
    obtain ⟨hc_146, h⟩ := h
    refine cg_iastoreR C hc_146 dL_flushed_146 ?_
    refine cg_nm (fun S5 e_S5 => ?_)
    have h := h S5 e_S5
    refine cg_aload C 6 rfl dL_flushed_147 ?_
    refine cg_aload C 7 rfl dL_flushed_149 ?_
    refine cg_iconst C (x := nI 3) rfl dL_flushed_151 ?_
    obtain ⟨hc_152, h⟩ := h
    refine cg_ialoadR C hc_152 dL_flushed_152 ?_
    refine cg_aload C 7 rfl dL_flushed_153 ?_
    refine cg_iconst C (x := nI 2) rfl dL_flushed_155 ?_
    obtain ⟨hc_156, h⟩ := h
    refine cg_ialoadR C hc_156 dL_flushed_156 ?_
    obtain ⟨hc_157, h⟩ := h
    refine cg_iastoreR C hc_157 dL_flushed_157 ?_
    refine cg_nm (fun S6 e_S6 => ?_)
    have h := h S6 e_S6
    refine cg_aload C 7 rfl dL_flushed_158 ?_
    refine cg_iconst C (x := nI 3) rfl dL_flushed_160 ?_
    refine cg_dup2 C rfl rfl dL_flushed_161 ?_
    obtain ⟨hc_162, h⟩ := h
    refine cg_ialoadR C hc_162 dL_flushed_162 ?_
    refine cg_iconst C (x := nI 1) rfl dL_flushed_163 ?_
    refine cg_iadd C dL_flushed_164 ?_
    obtain ⟨hc_165, h⟩ := h
    refine cg_iastoreR C hc_165 dL_flushed_165 ?_
    refine cg_nm (fun S7 e_S7 => ?_)
    have h := h S7 e_S7
    refine cg_aload C 7 rfl dL_flushed_166 ?_
    refine cg_iconst C (x := nI 2) rfl dL_flushed_168 ?_
    refine cg_dup2 C rfl rfl dL_flushed_169 ?_
    obtain ⟨hc_170, h⟩ := h
    refine cg_ialoadR C hc_170 dL_flushed_170 ?_
    refine cg_iconst C (x := nI 1) rfl dL_flushed_171 ?_
    refine cg_iadd C dL_flushed_172 ?_
    obtain ⟨hc_173, h⟩ := h
    refine cg_iastoreR C hc_173 dL_flushed_173 ?_
    refine cg_nm (fun S8 e_S8 => ?_)
    have h := h S8 e_S8
    refine cg_aload C 7 rfl dL_flushed_174 ?_
    refine cg_iconst C (x := nI 1) rfl dL_flushed_176 ?_
    refine cg_iconst C (x := nI 0) rfl dL_flushed_177 ?_
    obtain ⟨hc_178, h⟩ := h
    refine cg_iastoreR C hc_178 dL_flushed_178 ?_
    refine cg_nm (fun S9 e_S9 => ?_)
    have h := h S9 e_S9
    refine cg_aload C 7 rfl dL_flushed_179 ?_
    refine cg_iconst C (x := nI 2) rfl dL_flushed_181 ?_
    obtain ⟨hc_182, h⟩ := h
    refine cg_ialoadR C hc_182 dL_flushed_182 ?_
    refine cg_iconst C (x := nI 1) rfl dL_flushed_183 ?_
    refine cg_isub C dL_flushed_184 ?_
    exact cg_iret C h dL_flushed_185 (by decide) (by decide)
  · have h := h.2 c_
    refine cg_aload_n C (i := 0) rfl 0 rfl dL_flushed_68 ?_
    refine cg_aload C 7 rfl dL_flushed_69 ?_
    refine cg_iconst C (x := nI 0) rfl dL_flushed_71 ?_
    obtain ⟨hc_72, h⟩ := h
    refine cg_ialoadR C hc_72 dL_flushed_72 ?_
    refine cg_aload_n C (i := 1) rfl 1 rfl dL_flushed_73 ?_
    refine cg_iload C 9 rfl dL_flushed_74 ?_
    obtain ⟨hc_76, h⟩ := h
    refine cg_laloadR C hc_76 dL_flushed_76 ?_
    obtain ⟨hc_77, h⟩ := h
    refine cg_lastoreR C hc_77 dL_flushed_77 ?_
    refine cg_nm (fun S10 e_S10 => ?_)
    have h := h S10 e_S10
    refine cg_aload_n C (i := 2) rfl 2 rfl dL_flushed_78 ?_
    refine cg_aload C 7 rfl dL_flushed_79 ?_
    refine cg_iconst C (x := nI 2) rfl dL_flushed_81 ?_
    obtain ⟨hc_82, h⟩ := h
    refine cg_ialoadR C hc_82 dL_flushed_82 ?_
    refine cg_dup2 C rfl rfl dL_flushed_83 ?_
    obtain ⟨hc_84, h⟩ := h
    refine cg_laloadR C hc_84 dL_flushed_84 ?_
    refine cg_aload C 7 rfl dL_flushed_85 ?_
    refine cg_iconst C (x := nI 0) rfl dL_flushed_87 ?_
    obtain ⟨hc_88, h⟩ := h
    refine cg_ialoadR C hc_88 dL_flushed_88 ?_
    refine cg_i2l C dL_flushed_89 ?_
    refine cg_bipush C (x := nI 6) rfl dL_flushed_90 ?_
    refine cg_iload C 9 rfl dL_flushed_92 ?_
    refine cg_imul C dL_flushed_94 ?_
    refine cg_lshl C dL_flushed_95 ?_
    refine cg_lor C dL_flushed_96 ?_
    obtain ⟨hc_97, h⟩ := h
    refine cg_lastoreR C hc_97 dL_flushed_97 ?_
    refine cg_nm (fun S11 e_S11 => ?_)
    have h := h S11 e_S11
    refine cg_aload C 7 rfl dL_flushed_98 ?_
    refine cg_iconst C (x := nI 0) rfl dL_flushed_100 ?_
    refine cg_dup2 C rfl rfl dL_flushed_101 ?_
    obtain ⟨hc_102, h⟩ := h
    refine cg_ialoadR C hc_102 dL_flushed_102 ?_
    refine cg_iconst C (x := nI 1) rfl dL_flushed_103 ?_
    refine cg_iadd C dL_flushed_104 ?_
    obtain ⟨hc_105, h⟩ := h
    refine cg_iastoreR C hc_105 dL_flushed_105 ?_
    refine cg_nm (fun S12 e_S12 => ?_)
    have h := h S12 e_S12
    obtain ⟨x12_13, e_x12_13⟩ : ∃ z : Int32, z = x12 + nI 1 := ⟨_, rfl⟩
    have h := h x12_13 e_x12_13
    refine cg_iinc C (lv' := [(12, .int x12_13), (0, .ref x0), (1, .ref x1), (2, .ref x2), (3, .ref x3), (4, .ref x4), (5, .ref x5), (6, .ref x6), (10, .ref x10), (11, .int x11)]) 9 rfl (by rw [e_x12_13]; rfl) (Nat.le_of_ble_eq_true rfl) rfl dL_flushed_106 ?_
    refine cg_goto C 61 (by decide) dL_flushed_109 ?_
    exact cg_sub [1, 2, 3, 4, 5, 6, 7, 8, 9, 0] rfl (hR61 x0 x1 x2 x3 x4 x5 x6 x10 x11 x12_13 S12 h)
set_option maxRecDepth 20000 in
theorem tl_L_flushed_61 (C : cC p s m args meth c cL_flushed 13 (some .int) A D Y tp dp RL) {post : Int32 → cS → Prop}   (x0 : Nat) (x1 : Nat) (x2 : Nat) (x3 : Nat) (x4 : Nat) (x5 : Nat) (x6 : Nat) (x10 : Nat) (x11 : Int32) (x12 : Int32) (S : cS) (h : k_L_flushed_61L post dp  x0 x1 x2 x3 x4 x5 x6 x10 x11 x12 S) : cG p l e (cRm 1 0 0 23) s m args below meth c A D Y 13 (MQ below (cQi post D Y A) args s 0 0 A) 0 0 61 [(0, .ref x0), (1, .ref x1), (2, .ref x2), (3, .ref x3), (4, .ref x4), (5, .ref x5), (6, .ref x6), (10, .ref x10), (11, .int x11), (12, .int x12)] [] S :=
  h (fun y => cG p l e (cRm 1 0 0 23) s m args below meth c A D Y 13 (MQ below (cQi post D Y A) args s 0 0 A) 0 0 61 [(0, .ref (y.1)), (1, .ref (y.2.1)), (2, .ref (y.2.2.1)), (3, .ref (y.2.2.2.1)), (4, .ref (y.2.2.2.2.1)), (5, .ref (y.2.2.2.2.2.1)), (6, .ref (y.2.2.2.2.2.2.1)), (10, .ref (y.2.2.2.2.2.2.2.1)), (11, .int (y.2.2.2.2.2.2.2.2.1)), (12, .int (y.2.2.2.2.2.2.2.2.2.1))] [] (y.2.2.2.2.2.2.2.2.2.2)) (fun y hy => tb_L_flushed_61 C   (fun b0 b1 b2 b3 b4 b5 b6 b7 b8 b9 S z => z) (y.1) (y.2.1) (y.2.2.1) (y.2.2.2.1) (y.2.2.2.2.1) (y.2.2.2.2.2.1) (y.2.2.2.2.2.2.1) (y.2.2.2.2.2.2.2.1) (y.2.2.2.2.2.2.2.2.1) (y.2.2.2.2.2.2.2.2.2.1) (y.2.2.2.2.2.2.2.2.2.2) hy)
set_option maxRecDepth 20000 in
theorem tb_L_flushed_44 (C : cC p s m args meth c cL_flushed 13 (some .int) A D Y tp dp RL) {post : Int32 → cS → Prop}   (x0 : Nat) (x1 : Nat) (x2 : Nat) (x3 : Nat) (x4 : Nat) (x5 : Nat) (x6 : Nat) (x10 : Nat) (x11 : Int32) (S : cS) (h : k_L_flushed_44 post dp  x0 x1 x2 x3 x4 x5 x6 x10 x11 S) : cG p l e (cRm 1 0 0 23) s m args below meth c A D Y 13 (MQ below (cQi post D Y A) args s 0 0 A) 0 0 44 [(0, .ref x0), (1, .ref x1), (2, .ref x2), (3, .ref x3), (4, .ref x4), (5, .ref x5), (6, .ref x6), (10, .ref x10), (11, .int x11)] [] S := by
  unfold k_L_flushed_44 at h
  refine cg_iload C 8 rfl dL_flushed_44 ?_
  refine cg_if_ne C 51 (by decide) dL_flushed_46 (fun c_ => ?_) (fun c_ => ?_)
  · have h := h.1 c_
    refine cg_aload_n C (i := 2) rfl 2 rfl dL_flushed_51 ?_
    refine cg_aload C 7 rfl dL_flushed_52 ?_
    refine cg_iconst C (x := nI 2) rfl dL_flushed_54 ?_
    obtain ⟨hc_55, h⟩ := h
    refine cg_ialoadR C hc_55 dL_flushed_55 ?_
    refine cg_lconst C (x := 0) rfl dL_flushed_56 ?_
    obtain ⟨hc_57, h⟩ := h
    refine cg_lastoreR C hc_57 dL_flushed_57 ?_
    refine cg_nm (fun S2 e_S2 => ?_)
    have h := h S2 e_S2
    refine cg_iconst C (x := nI 0) rfl dL_flushed_58 ?_
    refine cg_istore C (lv' := [(12, .int ((nI 0))), (0, .ref x0), (1, .ref x1), (2, .ref x2), (3, .ref x3), (4, .ref x4), (5, .ref x5), (6, .ref x6), (10, .ref x10), (11, .int x11)]) (Nat.le_of_ble_eq_true rfl) rfl dL_flushed_59 ?_
    exact cg_sub [1, 2, 3, 4, 5, 6, 7, 8, 9, 0] rfl (tl_L_flushed_61 C   x0 x1 x2 x3 x4 x5 x6 x10 x11 (((nI 0))) S2 h)
  · have h := h.2 c_
    refine cg_iconst C (x := (-1)) rfl dL_flushed_49 ?_
    exact cg_iret C h dL_flushed_50 (by decide) (by decide)
set_option maxRecDepth 20000 in
theorem tb_L_flushed_9 (C : cC p s m args meth c cL_flushed 13 (some .int) A D Y tp dp RL) {post : Int32 → cS → Prop} {R9 : Nat → Nat → Nat → Nat → Nat → Nat → Nat → Nat → Nat → Nat → Nat → Int32 → Int32 → cS → Prop} (hR9 : ∀ (x0 : Nat) (x1 : Nat) (x2 : Nat) (x3 : Nat) (x4 : Nat) (x5 : Nat) (x6 : Nat) (x7 : Nat) (x8 : Nat) (x9 : Nat) (x10 : Nat) (x11 : Int32) (x12 : Int32) (S : cS), R9 x0 x1 x2 x3 x4 x5 x6 x7 x8 x9 x10 x11 x12 S → cG p l e (cRm 1 0 0 23) s m args below meth c A D Y 13 (MQ below (cQi post D Y A) args s 0 0 A) 0 0 9 [(0, .ref x0), (1, .ref x1), (2, .ref x2), (3, .ref x3), (4, .ref x4), (5, .ref x5), (6, .ref x6), (7, .ref x7), (8, .ref x8), (9, .ref x9), (10, .ref x10), (11, .int x11), (12, .int x12)] [] S) (x0 : Nat) (x1 : Nat) (x2 : Nat) (x3 : Nat) (x4 : Nat) (x5 : Nat) (x6 : Nat) (x7 : Nat) (x8 : Nat) (x9 : Nat) (x10 : Nat) (x11 : Int32) (x12 : Int32) (S : cS) (h : k_L_flushed_9 post dp R9 x0 x1 x2 x3 x4 x5 x6 x7 x8 x9 x10 x11 x12 S) : cG p l e (cRm 1 0 0 23) s m args below meth c A D Y 13 (MQ below (cQi post D Y A) args s 0 0 A) 0 0 9 [(0, .ref x0), (1, .ref x1), (2, .ref x2), (3, .ref x3), (4, .ref x4), (5, .ref x5), (6, .ref x6), (7, .ref x7), (8, .ref x8), (9, .ref x9), (10, .ref x10), (11, .int x11), (12, .int x12)] [] S := by
  unfold k_L_flushed_9 at h
  refine cg_iload C 11 rfl dL_flushed_9 ?_
  refine cg_if_le C 44 (by decide) dL_flushed_11 (fun c_ => ?_) (fun c_ => ?_)
  · have h := h.1 c_
    exact cg_sub [0, 1, 2, 3, 4, 5, 6, 10, 11] rfl (tb_L_flushed_44 C   x0 x1 x2 x3 x4 x5 x6 x10 x11 S h)
  · have h := h.2 c_
    refine cg_iload C 12 rfl dL_flushed_14 ?_
    refine cg_iload C 11 rfl dL_flushed_16 ?_
    refine cg_icmp_gt C 44 (by decide) dL_flushed_18 (fun c_ => ?_) (fun c_ => ?_)
    · have h := h.1 c_
      exact cg_sub [0, 1, 2, 3, 4, 5, 6, 10, 11] rfl (tb_L_flushed_44 C   x0 x1 x2 x3 x4 x5 x6 x10 x11 S h)
    · have h := h.2 c_
      refine cg_aload C 10 rfl dL_flushed_21 ?_
      refine cg_aload C 7 rfl dL_flushed_23 ?_
      refine cg_aload C 8 rfl dL_flushed_25 ?_
      refine cg_aload C 9 rfl dL_flushed_27 ?_
      refine cg_callsi C (t_L_writes l x10 x7 x8 x9 S dp h) cc_L_57 rfl ⟨by decide, by decide⟩ ⟨by decide, by decide⟩ rfl (Nat.le_of_ble_eq_true rfl) dL_flushed_29 (fun r_14 S_14 h => ?_)
      refine cg_if_ne C 38 (by decide) dL_flushed_32 (fun c_ => ?_) (fun c_ => ?_)
      · have h := h.1 c_
        obtain ⟨x12_15, e_x12_15⟩ : ∃ z : Int32, z = x12 + nI 1 := ⟨_, rfl⟩
        have h := h x12_15 e_x12_15
        refine cg_iinc C (lv' := [(12, .int x12_15), (0, .ref x0), (1, .ref x1), (2, .ref x2), (3, .ref x3), (4, .ref x4), (5, .ref x5), (6, .ref x6), (7, .ref x7), (8, .ref x8), (9, .ref x9), (10, .ref x10), (11, .int x11)]) 12 rfl (by rw [e_x12_15]; rfl) (Nat.le_of_ble_eq_true rfl) rfl dL_flushed_38 ?_
        refine cg_goto C 9 (by decide) dL_flushed_41 ?_
        exact cg_sub [1, 2, 3, 4, 5, 6, 7, 8, 9, 10, 11, 12, 0] rfl (hR9 x0 x1 x2 x3 x4 x5 x6 x7 x8 x9 x10 x11 x12_15 S_14 h)
      · have h := h.2 c_
        refine cg_bipush C (x := (-2)) rfl dL_flushed_35 ?_
        exact cg_iret C h dL_flushed_37 (by decide) (by decide)
set_option maxRecDepth 20000 in
theorem tl_L_flushed_9 (C : cC p s m args meth c cL_flushed 13 (some .int) A D Y tp dp RL) {post : Int32 → cS → Prop}   (x0 : Nat) (x1 : Nat) (x2 : Nat) (x3 : Nat) (x4 : Nat) (x5 : Nat) (x6 : Nat) (x7 : Nat) (x8 : Nat) (x9 : Nat) (x10 : Nat) (x11 : Int32) (x12 : Int32) (S : cS) (h : k_L_flushed_9L post dp  x0 x1 x2 x3 x4 x5 x6 x7 x8 x9 x10 x11 x12 S) : cG p l e (cRm 1 0 0 23) s m args below meth c A D Y 13 (MQ below (cQi post D Y A) args s 0 0 A) 0 0 9 [(0, .ref x0), (1, .ref x1), (2, .ref x2), (3, .ref x3), (4, .ref x4), (5, .ref x5), (6, .ref x6), (7, .ref x7), (8, .ref x8), (9, .ref x9), (10, .ref x10), (11, .int x11), (12, .int x12)] [] S :=
  h (fun y => cG p l e (cRm 1 0 0 23) s m args below meth c A D Y 13 (MQ below (cQi post D Y A) args s 0 0 A) 0 0 9 [(0, .ref (y.1)), (1, .ref (y.2.1)), (2, .ref (y.2.2.1)), (3, .ref (y.2.2.2.1)), (4, .ref (y.2.2.2.2.1)), (5, .ref (y.2.2.2.2.2.1)), (6, .ref (y.2.2.2.2.2.2.1)), (7, .ref (y.2.2.2.2.2.2.2.1)), (8, .ref (y.2.2.2.2.2.2.2.2.1)), (9, .ref (y.2.2.2.2.2.2.2.2.2.1)), (10, .ref (y.2.2.2.2.2.2.2.2.2.2.1)), (11, .int (y.2.2.2.2.2.2.2.2.2.2.2.1)), (12, .int (y.2.2.2.2.2.2.2.2.2.2.2.2.1))] [] (y.2.2.2.2.2.2.2.2.2.2.2.2.2)) (fun y hy => tb_L_flushed_9 C   (fun b0 b1 b2 b3 b4 b5 b6 b7 b8 b9 b10 b11 b12 S z => z) (y.1) (y.2.1) (y.2.2.1) (y.2.2.2.1) (y.2.2.2.2.1) (y.2.2.2.2.2.1) (y.2.2.2.2.2.2.1) (y.2.2.2.2.2.2.2.1) (y.2.2.2.2.2.2.2.2.1) (y.2.2.2.2.2.2.2.2.2.1) (y.2.2.2.2.2.2.2.2.2.2.1) (y.2.2.2.2.2.2.2.2.2.2.2.1) (y.2.2.2.2.2.2.2.2.2.2.2.2.1) (y.2.2.2.2.2.2.2.2.2.2.2.2.2) hy)
end S_L_flushed
set_option maxHeartbeats 1000000 in
set_option maxRecDepth 20000 in
theorem t_L_flushed (l : Launch) (x0 : Nat) (x1 : Nat) (x2 : Nat) (x3 : Nat) (x4 : Nat) (x5 : Nat) (x6 : Nat) (x7 : Nat) (x8 : Nat) (x9 : Nat) (x10 : Nat) (S : cS) (dp : Nat) {P : Int32 → cS → Prop} (h : k_L_flushed P dp x0 x1 x2 x3 x4 x5 x6 x7 x8 x9 x10 S) : cMet (cQi P) l yL_flushed cL_flushed 13 (some .int) 1 0 0 23 [.ref x0, .ref x1, .ref x2, .ref x3, .ref x4, .ref x5, .ref x6, .ref x7, .ref x8, .ref x9, .ref x10] S dp := by
  intro D Y tp sz
  refine cg_body (by decide +kernel) (Nat.le_of_ble_eq_true rfl) ?_
  intro p e s m args below meth c C
  generalize va_A (cWd Y S) sz = A at C ⊢
  have C : cC p s m args meth c cL_flushed 13 (some .int) A D Y tp dp RL := C
  refine cg_lv (lv' := [(0, .ref x0), (1, .ref x1), (2, .ref x2), (3, .ref x3), (4, .ref x4), (5, .ref x5), (6, .ref x6), (7, .ref x7), (8, .ref x8), (9, .ref x9), (10, .ref x10)]) rfl ?_
  unfold k_L_flushed at h
  refine cg_aload C 10 rfl dL_flushed_0 ?_
  refine cg_iconst C (x := nI 1) rfl dL_flushed_2 ?_
  obtain ⟨hc_3, h⟩ := h
  refine cg_ialoadR C hc_3 dL_flushed_3 ?_
  refine cg_nmI (fun x11_1 e_x11_1 => ?_)
  have h := h x11_1 e_x11_1
  refine cg_istore C (lv' := [(11, .int x11_1), (0, .ref x0), (1, .ref x1), (2, .ref x2), (3, .ref x3), (4, .ref x4), (5, .ref x5), (6, .ref x6), (7, .ref x7), (8, .ref x8), (9, .ref x9), (10, .ref x10)]) (Nat.le_of_ble_eq_true rfl) rfl dL_flushed_4 ?_
  refine cg_iconst C (x := nI 0) rfl dL_flushed_6 ?_
  refine cg_istore C (lv' := [(12, .int ((nI 0))), (11, .int x11_1), (0, .ref x0), (1, .ref x1), (2, .ref x2), (3, .ref x3), (4, .ref x4), (5, .ref x5), (6, .ref x6), (7, .ref x7), (8, .ref x8), (9, .ref x9), (10, .ref x10)]) (Nat.le_of_ble_eq_true rfl) rfl dL_flushed_7 ?_
  exact cg_sub [2, 3, 4, 5, 6, 7, 8, 9, 10, 11, 12, 1, 0] rfl (tl_L_flushed_9 C   x0 x1 x2 x3 x4 x5 x6 x7 x8 x9 x10 x11_1 (((nI 0))) S h)
set_option maxHeartbeats 1000000 in
set_option maxRecDepth 20000 in
theorem t_L_tier (l : Launch) (x0 : Int32) (S : cS) (dp : Nat) {P : Int32 → cS → Prop} (h : k_L_tier P dp x0 S) : cMet (cQi P) l yL_tier cL_tier 1 (some .int) 0 0 0 0 [.int x0] S dp := by
  intro D Y tp sz
  refine cg_body (by decide +kernel) (Nat.le_of_ble_eq_true rfl) ?_
  intro p e s m args below meth c C
  generalize va_A (cWd Y S) sz = A at C ⊢
  have C : cC p s m args meth c cL_tier 1 (some .int) A D Y tp dp RL := C
  refine cg_lv (lv' := [(0, .int x0)]) rfl ?_
  unfold k_L_tier at h
  refine cg_iload_n C (i := 0) rfl 0 rfl dL_tier_0 ?_
  refine cg_iconst C (x := nI 3) rfl dL_tier_1 ?_
  refine cg_icmp_ge C 9 (by decide) dL_tier_2 (fun c_ => ?_) (fun c_ => ?_)
  · have h := h.1 c_
    refine cg_iload_n C (i := 0) rfl 0 rfl dL_tier_9 ?_
    refine cg_bipush C (x := nI 9) rfl dL_tier_10 ?_
    refine cg_icmp_ge C 19 (by decide) dL_tier_12 (fun c_ => ?_) (fun c_ => ?_)
    · have h := h.1 c_
      refine cg_iconst C (x := nI 2) rfl dL_tier_19 ?_
      exact cg_iret C h dL_tier_20 (by decide) (by decide)
    · have h := h.2 c_
      refine cg_iconst C (x := nI 1) rfl dL_tier_15 ?_
      refine cg_goto C 20 (by decide) dL_tier_16 ?_
      exact cg_iret C h dL_tier_20 (by decide) (by decide)
  · have h := h.2 c_
    refine cg_iconst C (x := nI 0) rfl dL_tier_5 ?_
    refine cg_goto C 20 (by decide) dL_tier_6 ?_
    exact cg_iret C h dL_tier_20 (by decide) (by decide)
section S_L_due
variable {p : Program} {l : Launch} {e : Env} {s : State} {m : MethodId} {args : Array Value} {below : List Frame} {meth : Method} {c : Code} {A : Nat → Prop} {D : va_G} {Y : cY} {tp dp : Nat}
set_option maxRecDepth 20000 in
theorem tb_L_due_66 (C : cC p s m args meth c cL_due 5 (some .int) A D Y tp dp RL) {post : Int32 → cS → Prop} {R9 : Nat → Nat → Int32 → Int32 → cS → Prop} (hR9 : ∀ (x0 : Nat) (x1 : Nat) (x3 : Int32) (x4 : Int32) (S : cS), R9 x0 x1 x3 x4 S → cG p l e (cRm 1 0 0 20) s m args below meth c A D Y 5 (MQ below (cQi post D Y A) args s 0 0 A) 0 0 9 [(0, .ref x0), (1, .ref x1), (3, .int x3), (4, .int x4)] [] S) (x0 : Nat) (x1 : Nat) (x4 : Int32) (t0 : Int32) (S : cS) (h : k_L_due_66 post dp R9 x0 x1 x4 t0 S) : cG p l e (cRm 1 0 0 20) s m args below meth c A D Y 5 (MQ below (cQi post D Y A) args s 0 0 A) 0 0 66 [(0, .ref x0), (1, .ref x1), (4, .int x4)] [.int t0] S := by
  unfold k_L_due_66 at h
  refine cg_istore_n C (i := 3) (lv' := [(3, .int t0), (0, .ref x0), (1, .ref x1), (4, .int x4)]) rfl (Nat.le_of_ble_eq_true rfl) rfl dL_due_66 ?_
  obtain ⟨x4_5, e_x4_5⟩ : ∃ z : Int32, z = x4 + (-1) := ⟨_, rfl⟩
  have h := h x4_5 e_x4_5
  refine cg_iinc C (lv' := [(4, .int x4_5), (3, .int t0), (0, .ref x0), (1, .ref x1)]) 3 rfl (by rw [e_x4_5]; rfl) (Nat.le_of_ble_eq_true rfl) rfl dL_due_67 ?_
  refine cg_goto C 9 (by decide) dL_due_70 ?_
  exact cg_sub [2, 3, 1, 0] rfl (hR9 x0 x1 t0 x4_5 S h)
set_option maxRecDepth 20000 in
theorem tb_L_due_65 (C : cC p s m args meth c cL_due 5 (some .int) A D Y tp dp RL) {post : Int32 → cS → Prop} {R9 : Nat → Nat → Int32 → Int32 → cS → Prop} (hR9 : ∀ (x0 : Nat) (x1 : Nat) (x3 : Int32) (x4 : Int32) (S : cS), R9 x0 x1 x3 x4 S → cG p l e (cRm 1 0 0 20) s m args below meth c A D Y 5 (MQ below (cQi post D Y A) args s 0 0 A) 0 0 9 [(0, .ref x0), (1, .ref x1), (3, .int x3), (4, .int x4)] [] S) (x0 : Nat) (x1 : Nat) (x3 : Int32) (x4 : Int32) (S : cS) (h : k_L_due_65 post dp R9 x0 x1 x3 x4 S) : cG p l e (cRm 1 0 0 20) s m args below meth c A D Y 5 (MQ below (cQi post D Y A) args s 0 0 A) 0 0 65 [(0, .ref x0), (1, .ref x1), (3, .int x3), (4, .int x4)] [] S := by
  unfold k_L_due_65 at h
  refine cg_iload_n C (i := 3) rfl 2 rfl dL_due_65 ?_
  exact cg_sub [0, 1, 3] rfl (tb_L_due_66 C  hR9 x0 x1 x4 x3 S h)
set_option maxRecDepth 20000 in
theorem tb_L_due_9 (C : cC p s m args meth c cL_due 5 (some .int) A D Y tp dp RL) {post : Int32 → cS → Prop} {R9 : Nat → Nat → Int32 → Int32 → cS → Prop} (hR9 : ∀ (x0 : Nat) (x1 : Nat) (x3 : Int32) (x4 : Int32) (S : cS), R9 x0 x1 x3 x4 S → cG p l e (cRm 1 0 0 20) s m args below meth c A D Y 5 (MQ below (cQi post D Y A) args s 0 0 A) 0 0 9 [(0, .ref x0), (1, .ref x1), (3, .int x3), (4, .int x4)] [] S) (x0 : Nat) (x1 : Nat) (x3 : Int32) (x4 : Int32) (S : cS) (h : k_L_due_9 post dp R9 x0 x1 x3 x4 S) : cG p l e (cRm 1 0 0 20) s m args below meth c A D Y 5 (MQ below (cQi post D Y A) args s 0 0 A) 0 0 9 [(0, .ref x0), (1, .ref x1), (3, .int x3), (4, .int x4)] [] S := by
  unfold k_L_due_9 at h
  refine cg_iload C 3 rfl dL_due_9 ?_
  refine cg_if_lt C 73 (by decide) dL_due_11 (fun c_ => ?_) (fun c_ => ?_)
  · have h := h.1 c_
    refine cg_iload_n C (i := 3) rfl 2 rfl dL_due_73 ?_
    exact cg_iret C h dL_due_74 (by decide) (by decide)
  · have h := h.2 c_
    refine cg_aload_n C (i := 0) rfl 0 rfl dL_due_14 ?_
    refine cg_aload_n C (i := 1) rfl 1 rfl dL_due_15 ?_
    refine cg_iload C 3 rfl dL_due_16 ?_
    obtain ⟨hc_18, h⟩ := h
    refine cg_ialoadR C hc_18 dL_due_18 ?_
    obtain ⟨hc_19, h⟩ := h
    refine cg_ialoadR C hc_19 dL_due_19 ?_
    refine cg_callsi C (t_L_tier l ((cI S x0 ((cI S x1 (x4).toNatClampNeg)).toNatClampNeg)) S dp h) cc_L_61 rfl ⟨by decide, by decide⟩ ⟨by decide, by decide⟩ rfl (Nat.le_of_ble_eq_true rfl) dL_due_20 (fun r_3 S_3 h => ?_)
    refine cg_aload_n C (i := 0) rfl 0 rfl dL_due_23 ?_
    refine cg_aload_n C (i := 1) rfl 1 rfl dL_due_24 ?_
    refine cg_iload C 3 rfl dL_due_25 ?_
    refine cg_iconst C (x := nI 1) rfl dL_due_27 ?_
    refine cg_iadd C dL_due_28 ?_
    obtain ⟨hc_29, h⟩ := h
    refine cg_ialoadR C hc_29 dL_due_29 ?_
    obtain ⟨hc_30, h⟩ := h
    refine cg_ialoadR C hc_30 dL_due_30 ?_
    refine cg_callsi C (t_L_tier l ((cI S_3 x0 ((cI S_3 x1 ((x4 + ((nI 1)))).toNatClampNeg)).toNatClampNeg)) S_3 dp h) cc_L_61 rfl ⟨by decide, by decide⟩ ⟨by decide, by decide⟩ rfl (Nat.le_of_ble_eq_true rfl) dL_due_31 (fun r_4 S_4 h => ?_)
    refine cg_icmp_ne C 65 (by decide) dL_due_34 (fun c_ => ?_) (fun c_ => ?_)
    · have h := h.1 c_
      exact cg_sub [0, 1, 2, 3] rfl (tb_L_due_65 C  hR9 x0 x1 x3 x4 S_4 h)
    · have h := h.2 c_
      refine cg_aload_n C (i := 0) rfl 0 rfl dL_due_37 ?_
      refine cg_aload_n C (i := 1) rfl 1 rfl dL_due_38 ?_
      refine cg_iload C 3 rfl dL_due_39 ?_
      obtain ⟨hc_41, h⟩ := h
      refine cg_ialoadR C hc_41 dL_due_41 ?_
      obtain ⟨hc_42, h⟩ := h
      refine cg_ialoadR C hc_42 dL_due_42 ?_
      refine cg_callsi C (t_L_tier l ((cI S_4 x0 ((cI S_4 x1 (x4).toNatClampNeg)).toNatClampNeg)) S_4 dp h) cc_L_61 rfl ⟨by decide, by decide⟩ ⟨by decide, by decide⟩ rfl (Nat.le_of_ble_eq_true rfl) dL_due_43 (fun r_6 S_6 h => ?_)
      refine cg_aload_n C (i := 0) rfl 0 rfl dL_due_46 ?_
      refine cg_aload_n C (i := 1) rfl 1 rfl dL_due_47 ?_
      refine cg_iload C 3 rfl dL_due_48 ?_
      refine cg_iconst C (x := nI 2) rfl dL_due_50 ?_
      refine cg_iadd C dL_due_51 ?_
      obtain ⟨hc_52, h⟩ := h
      refine cg_ialoadR C hc_52 dL_due_52 ?_
      obtain ⟨hc_53, h⟩ := h
      refine cg_ialoadR C hc_53 dL_due_53 ?_
      refine cg_callsi C (t_L_tier l ((cI S_6 x0 ((cI S_6 x1 ((x4 + ((nI 2)))).toNatClampNeg)).toNatClampNeg)) S_6 dp h) cc_L_61 rfl ⟨by decide, by decide⟩ ⟨by decide, by decide⟩ rfl (Nat.le_of_ble_eq_true rfl) dL_due_54 (fun r_7 S_7 h => ?_)
      refine cg_icmp_ne C 65 (by decide) dL_due_57 (fun c_ => ?_) (fun c_ => ?_)
      · have h := h.1 c_
        exact cg_sub [0, 1, 2, 3] rfl (tb_L_due_65 C  hR9 x0 x1 x3 x4 S_7 h)
      · have h := h.2 c_
        refine cg_iload C 3 rfl dL_due_60 ?_
        refine cg_goto C 66 (by decide) dL_due_62 ?_
        exact cg_sub [0, 1, 3] rfl (tb_L_due_66 C  hR9 x0 x1 x4 x4 S_7 h)
set_option maxRecDepth 20000 in
theorem tl_L_due_9 (C : cC p s m args meth c cL_due 5 (some .int) A D Y tp dp RL) {post : Int32 → cS → Prop}   (x0 : Nat) (x1 : Nat) (x3 : Int32) (x4 : Int32) (S : cS) (h : k_L_due_9L post dp  x0 x1 x3 x4 S) : cG p l e (cRm 1 0 0 20) s m args below meth c A D Y 5 (MQ below (cQi post D Y A) args s 0 0 A) 0 0 9 [(0, .ref x0), (1, .ref x1), (3, .int x3), (4, .int x4)] [] S :=
  h (fun y => cG p l e (cRm 1 0 0 20) s m args below meth c A D Y 5 (MQ below (cQi post D Y A) args s 0 0 A) 0 0 9 [(0, .ref (y.1)), (1, .ref (y.2.1)), (3, .int (y.2.2.1)), (4, .int (y.2.2.2.1))] [] (y.2.2.2.2)) (fun y hy => tb_L_due_9 C   (fun b0 b1 b2 b3 S z => z) (y.1) (y.2.1) (y.2.2.1) (y.2.2.2.1) (y.2.2.2.2) hy)
end S_L_due
set_option maxHeartbeats 1000000 in
set_option maxRecDepth 20000 in
theorem t_L_due (l : Launch) (x0 : Nat) (x1 : Nat) (x2 : Nat) (S : cS) (dp : Nat) {P : Int32 → cS → Prop} (h : k_L_due P dp x0 x1 x2 S) : cMet (cQi P) l yL_due cL_due 5 (some .int) 1 0 0 20 [.ref x0, .ref x1, .ref x2] S dp := by
  intro D Y tp sz
  refine cg_body (by decide +kernel) (Nat.le_of_ble_eq_true rfl) ?_
  intro p e s m args below meth c C
  generalize va_A (cWd Y S) sz = A at C ⊢
  have C : cC p s m args meth c cL_due 5 (some .int) A D Y tp dp RL := C
  refine cg_lv (lv' := [(0, .ref x0), (1, .ref x1), (2, .ref x2)]) rfl ?_
  unfold k_L_due at h
  refine cg_iconst C (x := (-1)) rfl dL_due_0 ?_
  refine cg_nmI (fun x3_1 e_x3_1 => ?_)
  have h := h x3_1 e_x3_1
  refine cg_istore_n C (i := 3) (lv' := [(3, .int x3_1), (0, .ref x0), (1, .ref x1), (2, .ref x2)]) rfl (Nat.le_of_ble_eq_true rfl) rfl dL_due_1 ?_
  refine cg_aload_n C (i := 2) rfl 3 rfl dL_due_2 ?_
  refine cg_iconst C (x := nI 3) rfl dL_due_3 ?_
  obtain ⟨hc_4, h⟩ := h
  refine cg_ialoadR C hc_4 dL_due_4 ?_
  refine cg_iconst C (x := nI 3) rfl dL_due_5 ?_
  refine cg_isub C dL_due_6 ?_
  refine cg_nmI (fun x4_2 e_x4_2 => ?_)
  have h := h x4_2 e_x4_2
  refine cg_istore C (lv' := [(4, .int x4_2), (3, .int x3_1), (0, .ref x0), (1, .ref x1), (2, .ref x2)]) (Nat.le_of_ble_eq_true rfl) rfl dL_due_7 ?_
  exact cg_sub [2, 3, 1, 0] rfl (tl_L_due_9 C   x0 x1 x3_1 x4_2 S h)
section S_L_names
variable {p : Program} {l : Launch} {e : Env} {s : State} {m : MethodId} {args : Array Value} {below : List Frame} {meth : Method} {c : Code} {A : Nat → Prop} {D : va_G} {Y : cY} {tp dp : Nat}
set_option maxRecDepth 20000 in
theorem tb_L_names_36 (C : cC p s m args meth c cL_names 5 none A D Y tp dp RL) {post : cS → Prop} {R36 : Nat → Nat → Int32 → cS → Prop} (hR36 : ∀ (x0 : Nat) (x2 : Nat) (x4 : Int32) (S : cS), R36 x0 x2 x4 S → cG p l e (cRm 0 0 0 0) s m args below meth c A D Y 5 (MQ below (cQv post D Y A) args s 0 0 A) 0 0 36 [(0, .ref x0), (2, .ref x2), (4, .int x4)] [] S) (x0 : Nat) (x2 : Nat) (x4 : Int32) (S : cS) (h : k_L_names_36 post dp R36 x0 x2 x4 S) : cG p l e (cRm 0 0 0 0) s m args below meth c A D Y 5 (MQ below (cQv post D Y A) args s 0 0 A) 0 0 36 [(0, .ref x0), (2, .ref x2), (4, .int x4)] [] S := by
  unfold k_L_names_36 at h
  refine cg_iload C 2 rfl dL_names_36 ?_
  refine cg_bipush C (x := nI 30) rfl dL_names_38 ?_
  refine cg_icmp_ge C 60 (by decide) dL_names_40 (fun c_ => ?_) (fun c_ => ?_)
  · have h := h.1 c_
    exact cg_vret C h dL_names_60 (by decide) (by decide)
  · have h := h.2 c_
    refine cg_aload_n C (i := 0) rfl 0 rfl dL_names_43 ?_
    refine cg_bipush C (x := nI 32) rfl dL_names_44 ?_
    refine cg_iload C 2 rfl dL_names_46 ?_
    refine cg_iadd C dL_names_48 ?_
    refine cg_aload_n C (i := 2) rfl 1 rfl dL_names_49 ?_
    refine cg_iload C 2 rfl dL_names_50 ?_
    obtain ⟨hc_52, h⟩ := h
    refine cg_ialoadR C hc_52 dL_names_52 ?_
    obtain ⟨hc_53, h⟩ := h
    refine cg_iastoreR C hc_53 dL_names_53 ?_
    refine cg_nm (fun S2 e_S2 => ?_)
    have h := h S2 e_S2
    obtain ⟨x4_3, e_x4_3⟩ : ∃ z : Int32, z = x4 + nI 1 := ⟨_, rfl⟩
    have h := h x4_3 e_x4_3
    refine cg_iinc C (lv' := [(4, .int x4_3), (0, .ref x0), (2, .ref x2)]) 2 rfl (by rw [e_x4_3]; rfl) (Nat.le_of_ble_eq_true rfl) rfl dL_names_54 ?_
    refine cg_goto C 36 (by decide) dL_names_57 ?_
    exact cg_sub [1, 2, 0] rfl (hR36 x0 x2 x4_3 S2 h)
set_option maxRecDepth 20000 in
theorem tl_L_names_36 (C : cC p s m args meth c cL_names 5 none A D Y tp dp RL) {post : cS → Prop}   (x0 : Nat) (x2 : Nat) (x4 : Int32) (S : cS) (h : k_L_names_36L post dp  x0 x2 x4 S) : cG p l e (cRm 0 0 0 0) s m args below meth c A D Y 5 (MQ below (cQv post D Y A) args s 0 0 A) 0 0 36 [(0, .ref x0), (2, .ref x2), (4, .int x4)] [] S :=
  h (fun y => cG p l e (cRm 0 0 0 0) s m args below meth c A D Y 5 (MQ below (cQv post D Y A) args s 0 0 A) 0 0 36 [(0, .ref (y.1)), (2, .ref (y.2.1)), (4, .int (y.2.2.1))] [] (y.2.2.2)) (fun y hy => tb_L_names_36 C   (fun b0 b1 b2 S z => z) (y.1) (y.2.1) (y.2.2.1) (y.2.2.2) hy)
set_option maxRecDepth 20000 in
theorem tb_L_names_9 (C : cC p s m args meth c cL_names 5 none A D Y tp dp RL) {post : cS → Prop} {R9 : Nat → Nat → Nat → Nat → Int32 → cS → Prop} (hR9 : ∀ (x0 : Nat) (x1 : Nat) (x2 : Nat) (x3 : Nat) (x4 : Int32) (S : cS), R9 x0 x1 x2 x3 x4 S → cG p l e (cRm 0 0 0 0) s m args below meth c A D Y 5 (MQ below (cQv post D Y A) args s 0 0 A) 0 0 9 [(0, .ref x0), (1, .ref x1), (2, .ref x2), (3, .ref x3), (4, .int x4)] [] S) (x0 : Nat) (x1 : Nat) (x2 : Nat) (x3 : Nat) (x4 : Int32) (S : cS) (h : k_L_names_9 post dp R9 x0 x1 x2 x3 x4 S) : cG p l e (cRm 0 0 0 0) s m args below meth c A D Y 5 (MQ below (cQv post D Y A) args s 0 0 A) 0 0 9 [(0, .ref x0), (1, .ref x1), (2, .ref x2), (3, .ref x3), (4, .int x4)] [] S := by
  unfold k_L_names_9 at h
  refine cg_iload C 4 rfl dL_names_9 ?_
  refine cg_aload_n C (i := 3) rfl 3 rfl dL_names_11 ?_
  refine cg_iconst C (x := nI 3) rfl dL_names_12 ?_
  obtain ⟨hc_13, h⟩ := h
  refine cg_ialoadR C hc_13 dL_names_13 ?_
  refine cg_icmp_ge C 33 (by decide) dL_names_14 (fun c_ => ?_) (fun c_ => ?_)
  · have h := h.1 c_
    refine cg_iconst C (x := nI 0) rfl dL_names_33 ?_
    refine cg_istore C (lv' := [(4, .int ((nI 0))), (0, .ref x0), (1, .ref x1), (2, .ref x2), (3, .ref x3)]) (Nat.le_of_ble_eq_true rfl) rfl dL_names_34 ?_
    exact cg_sub [1, 3, 0] rfl (tl_L_names_36 C   x0 x2 (((nI 0))) S h)
  · have h := h.2 c_
    refine cg_aload_n C (i := 0) rfl 0 rfl dL_names_17 ?_
    refine cg_iconst C (x := nI 2) rfl dL_names_18 ?_
    refine cg_iload C 4 rfl dL_names_19 ?_
    refine cg_iadd C dL_names_21 ?_
    refine cg_aload_n C (i := 1) rfl 1 rfl dL_names_22 ?_
    refine cg_iload C 4 rfl dL_names_23 ?_
    obtain ⟨hc_25, h⟩ := h
    refine cg_ialoadR C hc_25 dL_names_25 ?_
    obtain ⟨hc_26, h⟩ := h
    refine cg_iastoreR C hc_26 dL_names_26 ?_
    refine cg_nm (fun S4 e_S4 => ?_)
    have h := h S4 e_S4
    obtain ⟨x4_5, e_x4_5⟩ : ∃ z : Int32, z = x4 + nI 1 := ⟨_, rfl⟩
    have h := h x4_5 e_x4_5
    refine cg_iinc C (lv' := [(4, .int x4_5), (0, .ref x0), (1, .ref x1), (2, .ref x2), (3, .ref x3)]) 4 rfl (by rw [e_x4_5]; rfl) (Nat.le_of_ble_eq_true rfl) rfl dL_names_27 ?_
    refine cg_goto C 9 (by decide) dL_names_30 ?_
    exact cg_sub [1, 2, 3, 4, 0] rfl (hR9 x0 x1 x2 x3 x4_5 S4 h)
set_option maxRecDepth 20000 in
theorem tl_L_names_9 (C : cC p s m args meth c cL_names 5 none A D Y tp dp RL) {post : cS → Prop}   (x0 : Nat) (x1 : Nat) (x2 : Nat) (x3 : Nat) (x4 : Int32) (S : cS) (h : k_L_names_9L post dp  x0 x1 x2 x3 x4 S) : cG p l e (cRm 0 0 0 0) s m args below meth c A D Y 5 (MQ below (cQv post D Y A) args s 0 0 A) 0 0 9 [(0, .ref x0), (1, .ref x1), (2, .ref x2), (3, .ref x3), (4, .int x4)] [] S :=
  h (fun y => cG p l e (cRm 0 0 0 0) s m args below meth c A D Y 5 (MQ below (cQv post D Y A) args s 0 0 A) 0 0 9 [(0, .ref (y.1)), (1, .ref (y.2.1)), (2, .ref (y.2.2.1)), (3, .ref (y.2.2.2.1)), (4, .int (y.2.2.2.2.1))] [] (y.2.2.2.2.2)) (fun y hy => tb_L_names_9 C   (fun b0 b1 b2 b3 b4 S z => z) (y.1) (y.2.1) (y.2.2.1) (y.2.2.2.1) (y.2.2.2.2.1) (y.2.2.2.2.2) hy)
end S_L_names
set_option maxHeartbeats 1000000 in
set_option maxRecDepth 20000 in
theorem t_L_names (l : Launch) (x0 : Nat) (x1 : Nat) (x2 : Nat) (x3 : Nat) (S : cS) (dp : Nat) {P : cS → Prop} (h : k_L_names P dp x0 x1 x2 x3 S) : cMet (cQv P) l yL_names cL_names 5 none 0 0 0 0 [.ref x0, .ref x1, .ref x2, .ref x3] S dp := by
  intro D Y tp sz
  refine cg_body (by decide +kernel) (Nat.le_of_ble_eq_true rfl) ?_
  intro p e s m args below meth c C
  generalize va_A (cWd Y S) sz = A at C ⊢
  have C : cC p s m args meth c cL_names 5 none A D Y tp dp RL := C
  refine cg_lv (lv' := [(0, .ref x0), (1, .ref x1), (2, .ref x2), (3, .ref x3)]) rfl ?_
  unfold k_L_names at h
  refine cg_aload_n C (i := 0) rfl 0 rfl dL_names_0 ?_
  refine cg_iconst C (x := nI 1) rfl dL_names_1 ?_
  refine cg_aload_n C (i := 3) rfl 3 rfl dL_names_2 ?_
  refine cg_iconst C (x := nI 3) rfl dL_names_3 ?_
  obtain ⟨hc_4, h⟩ := h
  refine cg_ialoadR C hc_4 dL_names_4 ?_
  obtain ⟨hc_5, h⟩ := h
  refine cg_iastoreR C hc_5 dL_names_5 ?_
  refine cg_nm (fun S1 e_S1 => ?_)
  have h := h S1 e_S1
  refine cg_iconst C (x := nI 0) rfl dL_names_6 ?_
  refine cg_istore C (lv' := [(4, .int ((nI 0))), (0, .ref x0), (1, .ref x1), (2, .ref x2), (3, .ref x3)]) (Nat.le_of_ble_eq_true rfl) rfl dL_names_7 ?_
  exact cg_sub [1, 2, 3, 4, 0] rfl (tl_L_names_9 C   x0 x1 x2 x3 (((nI 0))) S1 h)
section S_L_isIn
variable {p : Program} {l : Launch} {e : Env} {s : State} {m : MethodId} {args : Array Value} {below : List Frame} {meth : Method} {c : Code} {A : Nat → Prop} {D : va_G} {Y : cY} {tp dp : Nat}
set_option maxRecDepth 20000 in
theorem tb_L_isIn_35 (C : cC p s m args meth c cL_isIn 4 (some .boolean) A D Y tp dp RL) {post : Int32 → cS → Prop} {R4 : Nat → Int32 → Int32 → Int32 → cS → Prop} (hR4 : ∀ (x0 : Nat) (x1 : Int32) (x2 : Int32) (x3 : Int32) (S : cS), R4 x0 x1 x2 x3 S → cG p l e (cRm 0 0 0 0) s m args below meth c A D Y 4 (MQ below (cQi post D Y A) args s 0 0 A) 0 0 4 [(0, .ref x0), (1, .int x1), (2, .int x2), (3, .int x3)] [] S) (x0 : Nat) (x1 : Int32) (x3 : Int32) (t0 : Int32) (S : cS) (h : k_L_isIn_35 post dp R4 x0 x1 x3 t0 S) : cG p l e (cRm 0 0 0 0) s m args below meth c A D Y 4 (MQ below (cQi post D Y A) args s 0 0 A) 0 0 35 [(0, .ref x0), (1, .int x1), (3, .int x3)] [.int t0] S := by
  unfold k_L_isIn_35 at h
  refine cg_istore_n C (i := 2) (lv' := [(2, .int t0), (0, .ref x0), (1, .int x1), (3, .int x3)]) rfl (Nat.le_of_ble_eq_true rfl) rfl dL_isIn_35 ?_
  obtain ⟨x3_1, e_x3_1⟩ : ∃ z : Int32, z = x3 + nI 1 := ⟨_, rfl⟩
  have h := h x3_1 e_x3_1
  refine cg_iinc C (lv' := [(3, .int x3_1), (2, .int t0), (0, .ref x0), (1, .int x1)]) 3 rfl (by rw [e_x3_1]; rfl) (Nat.le_of_ble_eq_true rfl) rfl dL_isIn_36 ?_
  refine cg_goto C 4 (by decide) dL_isIn_39 ?_
  exact cg_sub [2, 3, 1, 0] rfl (hR4 x0 x1 t0 x3_1 S h)
set_option maxRecDepth 20000 in
theorem tb_L_isIn_4 (C : cC p s m args meth c cL_isIn 4 (some .boolean) A D Y tp dp RL) {post : Int32 → cS → Prop} {R4 : Nat → Int32 → Int32 → Int32 → cS → Prop} (hR4 : ∀ (x0 : Nat) (x1 : Int32) (x2 : Int32) (x3 : Int32) (S : cS), R4 x0 x1 x2 x3 S → cG p l e (cRm 0 0 0 0) s m args below meth c A D Y 4 (MQ below (cQi post D Y A) args s 0 0 A) 0 0 4 [(0, .ref x0), (1, .int x1), (2, .int x2), (3, .int x3)] [] S) (x0 : Nat) (x1 : Int32) (x2 : Int32) (x3 : Int32) (S : cS) (h : k_L_isIn_4 post dp R4 x0 x1 x2 x3 S) : cG p l e (cRm 0 0 0 0) s m args below meth c A D Y 4 (MQ below (cQi post D Y A) args s 0 0 A) 0 0 4 [(0, .ref x0), (1, .int x1), (2, .int x2), (3, .int x3)] [] S := by
  unfold k_L_isIn_4 at h
  refine cg_aload_n C (i := 0) rfl 0 rfl dL_isIn_4 ?_
  refine cg_iconst C (x := nI 0) rfl dL_isIn_5 ?_
  obtain ⟨hc_6, h⟩ := h
  refine cg_ialoadR C hc_6 dL_isIn_6 ?_
  refine cg_if_le C 42 (by decide) dL_isIn_7 (fun c_ => ?_) (fun c_ => ?_)
  · have h := h.1 c_
    refine cg_iload_n C (i := 2) rfl 2 rfl dL_isIn_42 ?_
    obtain ⟨hz_43, h⟩ := h
    exact cg_zret C (isZ_nar hz_43) h dL_isIn_43 (by decide) (by decide)
  · have h := h.2 c_
    refine cg_iload_n C (i := 3) rfl 3 rfl dL_isIn_10 ?_
    refine cg_aload_n C (i := 0) rfl 0 rfl dL_isIn_11 ?_
    refine cg_iconst C (x := nI 1) rfl dL_isIn_12 ?_
    obtain ⟨hc_13, h⟩ := h
    refine cg_ialoadR C hc_13 dL_isIn_13 ?_
    refine cg_icmp_ge C 42 (by decide) dL_isIn_14 (fun c_ => ?_) (fun c_ => ?_)
    · have h := h.1 c_
      refine cg_iload_n C (i := 2) rfl 2 rfl dL_isIn_42 ?_
      obtain ⟨hz_43, h⟩ := h
      exact cg_zret C (isZ_nar hz_43) h dL_isIn_43 (by decide) (by decide)
    · have h := h.2 c_
      refine cg_iload_n C (i := 2) rfl 2 rfl dL_isIn_17 ?_
      refine cg_if_ne C 30 (by decide) dL_isIn_18 (fun c_ => ?_) (fun c_ => ?_)
      · have h := h.1 c_
        refine cg_iconst C (x := nI 1) rfl dL_isIn_30 ?_
        refine cg_goto C 35 (by decide) dL_isIn_31 ?_
        exact cg_sub [0, 1, 3] rfl (tb_L_isIn_35 C  hR4 x0 x1 x3 ((nI 1)) S h)
      · have h := h.2 c_
        refine cg_aload_n C (i := 0) rfl 0 rfl dL_isIn_21 ?_
        refine cg_iconst C (x := nI 2) rfl dL_isIn_22 ?_
        refine cg_iload_n C (i := 3) rfl 3 rfl dL_isIn_23 ?_
        refine cg_iadd C dL_isIn_24 ?_
        obtain ⟨hc_25, h⟩ := h
        refine cg_ialoadR C hc_25 dL_isIn_25 ?_
        refine cg_iload_n C (i := 1) rfl 1 rfl dL_isIn_26 ?_
        refine cg_icmp_ne C 34 (by decide) dL_isIn_27 (fun c_ => ?_) (fun c_ => ?_)
        · have h := h.1 c_
          refine cg_iconst C (x := nI 0) rfl dL_isIn_34 ?_
          exact cg_sub [0, 1, 3] rfl (tb_L_isIn_35 C  hR4 x0 x1 x3 ((nI 0)) S h)
        · have h := h.2 c_
          refine cg_iconst C (x := nI 1) rfl dL_isIn_30 ?_
          refine cg_goto C 35 (by decide) dL_isIn_31 ?_
          exact cg_sub [0, 1, 3] rfl (tb_L_isIn_35 C  hR4 x0 x1 x3 ((nI 1)) S h)
set_option maxRecDepth 20000 in
theorem tl_L_isIn_4 (C : cC p s m args meth c cL_isIn 4 (some .boolean) A D Y tp dp RL) {post : Int32 → cS → Prop}   (x0 : Nat) (x1 : Int32) (x2 : Int32) (x3 : Int32) (S : cS) (h : k_L_isIn_4L post dp  x0 x1 x2 x3 S) : cG p l e (cRm 0 0 0 0) s m args below meth c A D Y 4 (MQ below (cQi post D Y A) args s 0 0 A) 0 0 4 [(0, .ref x0), (1, .int x1), (2, .int x2), (3, .int x3)] [] S :=
  h (fun y => cG p l e (cRm 0 0 0 0) s m args below meth c A D Y 4 (MQ below (cQi post D Y A) args s 0 0 A) 0 0 4 [(0, .ref (y.1)), (1, .int (y.2.1)), (2, .int (y.2.2.1)), (3, .int (y.2.2.2.1))] [] (y.2.2.2.2)) (fun y hy => tb_L_isIn_4 C   (fun b0 b1 b2 b3 S z => z) (y.1) (y.2.1) (y.2.2.1) (y.2.2.2.1) (y.2.2.2.2) hy)
end S_L_isIn
set_option maxHeartbeats 1000000 in
set_option maxRecDepth 20000 in
theorem t_L_isIn (l : Launch) (x0 : Nat) (x1 : Int32) (S : cS) (dp : Nat) {P : Int32 → cS → Prop} (h : k_L_isIn P dp x0 x1 S) : cMet (cQi P) l yL_isIn cL_isIn 4 (some .boolean) 0 0 0 0 [.ref x0, .int x1] S dp := by
  intro D Y tp sz
  refine cg_body (by decide +kernel) (Nat.le_of_ble_eq_true rfl) ?_
  intro p e s m args below meth c C
  generalize va_A (cWd Y S) sz = A at C ⊢
  have C : cC p s m args meth c cL_isIn 4 (some .boolean) A D Y tp dp RL := C
  refine cg_lv (lv' := [(0, .ref x0), (1, .int x1)]) rfl ?_
  unfold k_L_isIn at h
  refine cg_iconst C (x := nI 0) rfl dL_isIn_0 ?_
  refine cg_istore_n C (i := 2) (lv' := [(2, .int ((nI 0))), (0, .ref x0), (1, .int x1)]) rfl (Nat.le_of_ble_eq_true rfl) rfl dL_isIn_1 ?_
  refine cg_iconst C (x := nI 0) rfl dL_isIn_2 ?_
  refine cg_istore_n C (i := 3) (lv' := [(3, .int ((nI 0))), (2, .int ((nI 0))), (0, .ref x0), (1, .int x1)]) rfl (Nat.le_of_ble_eq_true rfl) rfl dL_isIn_3 ?_
  exact cg_sub [2, 3, 1, 0] rfl (tl_L_isIn_4 C   x0 x1 (((nI 0))) (((nI 0))) S h)
section S_L_files
variable {p : Program} {l : Launch} {e : Env} {s : State} {m : MethodId} {args : Array Value} {below : List Frame} {meth : Method} {c : Code} {A : Nat → Prop} {D : va_G} {Y : cY} {tp dp : Nat}
set_option maxRecDepth 20000 in
theorem tb_L_files_248 (C : cC p s m args meth c cL_files 13 (some .int) A D Y tp dp RL) {post : Int32 → cS → Prop} {R51 : Nat → Nat → Nat → Nat → Nat → Nat → Nat → Int32 → Int32 → cS → Prop} (hR51 : ∀ (x0 : Nat) (x1 : Nat) (x2 : Nat) (x3 : Nat) (x4 : Nat) (x5 : Nat) (x6 : Nat) (x7 : Int32) (x8 : Int32) (S : cS), R51 x0 x1 x2 x3 x4 x5 x6 x7 x8 S → cG p l e (cRm 1 0 0 23) s m args below meth c A D Y 13 (MQ below (cQi post D Y A) args s 0 0 A) 0 0 51 [(0, .ref x0), (1, .ref x1), (2, .ref x2), (3, .ref x3), (4, .ref x4), (5, .ref x5), (6, .ref x6), (7, .int x7), (8, .int x8)] [] S) (x0 : Nat) (x1 : Nat) (x2 : Nat) (x3 : Nat) (x4 : Nat) (x5 : Nat) (x6 : Nat) (x8 : Int32) (t0 : Int32) (t1 : Int32) (t2 : Int32) (S : cS) (h : k_L_files_248 post dp R51 x0 x1 x2 x3 x4 x5 x6 x8 t0 t1 t2 S) : cG p l e (cRm 1 0 0 23) s m args below meth c A D Y 13 (MQ below (cQi post D Y A) args s 0 0 A) 0 0 248 [(0, .ref x0), (1, .ref x1), (2, .ref x2), (3, .ref x3), (4, .ref x4), (5, .ref x5), (6, .ref x6), (8, .int x8)] [.int t0, .int t1, .int t2] S := by
  unfold k_L_files_248 at h
  refine cg_iadd C dL_files_248 ?_
  refine cg_iadd C dL_files_249 ?_
  refine cg_nmI (fun x7_6 e_x7_6 => ?_)
  have h := h x7_6 e_x7_6
  refine cg_istore C (lv' := [(7, .int x7_6), (0, .ref x0), (1, .ref x1), (2, .ref x2), (3, .ref x3), (4, .ref x4), (5, .ref x5), (6, .ref x6), (8, .int x8)]) (Nat.le_of_ble_eq_true rfl) rfl dL_files_250 ?_
  obtain ⟨x8_7, e_x8_7⟩ : ∃ z : Int32, z = x8 + nI 1 := ⟨_, rfl⟩
  have h := h x8_7 e_x8_7
  refine cg_iinc C (lv' := [(8, .int x8_7), (7, .int x7_6), (0, .ref x0), (1, .ref x1), (2, .ref x2), (3, .ref x3), (4, .ref x4), (5, .ref x5), (6, .ref x6)]) 8 rfl (by rw [e_x8_7]; rfl) (Nat.le_of_ble_eq_true rfl) rfl dL_files_252 ?_
  refine cg_goto C 51 (by decide) dL_files_255 ?_
  exact cg_sub [2, 3, 4, 5, 6, 7, 8, 1, 0] rfl (hR51 x0 x1 x2 x3 x4 x5 x6 x7_6 x8_7 S h)
set_option maxRecDepth 20000 in
theorem tb_L_files_247 (C : cC p s m args meth c cL_files 13 (some .int) A D Y tp dp RL) {post : Int32 → cS → Prop} {R51 : Nat → Nat → Nat → Nat → Nat → Nat → Nat → Int32 → Int32 → cS → Prop} (hR51 : ∀ (x0 : Nat) (x1 : Nat) (x2 : Nat) (x3 : Nat) (x4 : Nat) (x5 : Nat) (x6 : Nat) (x7 : Int32) (x8 : Int32) (S : cS), R51 x0 x1 x2 x3 x4 x5 x6 x7 x8 S → cG p l e (cRm 1 0 0 23) s m args below meth c A D Y 13 (MQ below (cQi post D Y A) args s 0 0 A) 0 0 51 [(0, .ref x0), (1, .ref x1), (2, .ref x2), (3, .ref x3), (4, .ref x4), (5, .ref x5), (6, .ref x6), (7, .int x7), (8, .int x8)] [] S) (x0 : Nat) (x1 : Nat) (x2 : Nat) (x3 : Nat) (x4 : Nat) (x5 : Nat) (x6 : Nat) (x8 : Int32) (t0 : Int32) (t1 : Int32) (S : cS) (h : k_L_files_247 post dp R51 x0 x1 x2 x3 x4 x5 x6 x8 t0 t1 S) : cG p l e (cRm 1 0 0 23) s m args below meth c A D Y 13 (MQ below (cQi post D Y A) args s 0 0 A) 0 0 247 [(0, .ref x0), (1, .ref x1), (2, .ref x2), (3, .ref x3), (4, .ref x4), (5, .ref x5), (6, .ref x6), (8, .int x8)] [.int t0, .int t1] S := by
  unfold k_L_files_247 at h
  refine cg_iconst C (x := nI 0) rfl dL_files_247 ?_
  exact cg_sub [0, 1, 2, 3, 4, 5, 6, 7] rfl (tb_L_files_248 C  hR51 x0 x1 x2 x3 x4 x5 x6 x8 ((nI 0)) t0 t1 S h)
set_option maxRecDepth 20000 in
theorem tb_L_files_230 (C : cC p s m args meth c cL_files 13 (some .int) A D Y tp dp RL) {post : Int32 → cS → Prop} {R51 : Nat → Nat → Nat → Nat → Nat → Nat → Nat → Int32 → Int32 → cS → Prop} (hR51 : ∀ (x0 : Nat) (x1 : Nat) (x2 : Nat) (x3 : Nat) (x4 : Nat) (x5 : Nat) (x6 : Nat) (x7 : Int32) (x8 : Int32) (S : cS), R51 x0 x1 x2 x3 x4 x5 x6 x7 x8 S → cG p l e (cRm 1 0 0 23) s m args below meth c A D Y 13 (MQ below (cQi post D Y A) args s 0 0 A) 0 0 51 [(0, .ref x0), (1, .ref x1), (2, .ref x2), (3, .ref x3), (4, .ref x4), (5, .ref x5), (6, .ref x6), (7, .int x7), (8, .int x8)] [] S) (x0 : Nat) (x1 : Nat) (x2 : Nat) (x3 : Nat) (x4 : Nat) (x5 : Nat) (x6 : Nat) (x8 : Int32) (x11 : Int32) (x12 : Int32) (t0 : Int32) (t1 : Int32) (t2 : Int32) (S : cS) (h : k_L_files_230 post dp R51 x0 x1 x2 x3 x4 x5 x6 x8 x11 x12 t0 t1 t2 S) : cG p l e (cRm 1 0 0 23) s m args below meth c A D Y 13 (MQ below (cQi post D Y A) args s 0 0 A) 0 0 230 [(0, .ref x0), (1, .ref x1), (2, .ref x2), (3, .ref x3), (4, .ref x4), (5, .ref x5), (6, .ref x6), (8, .int x8), (11, .int x11), (12, .int x12)] [.int t0, .int t1, .int t2] S := by
  unfold k_L_files_230 at h
  refine cg_iadd C dL_files_230 ?_
  refine cg_iload C 9 rfl dL_files_231 ?_
  refine cg_if_eq C 247 (by decide) dL_files_233 (fun c_ => ?_) (fun c_ => ?_)
  · have h := h.1 c_
    exact cg_sub [0, 1, 2, 3, 4, 5, 6, 7] rfl (tb_L_files_247 C  hR51 x0 x1 x2 x3 x4 x5 x6 x8 ((t1 + t0)) t2 S h)
  · have h := h.2 c_
    refine cg_iload C 9 rfl dL_files_236 ?_
    refine cg_iload C 8 rfl dL_files_238 ?_
    refine cg_icmp_eq C 247 (by decide) dL_files_240 (fun c_ => ?_) (fun c_ => ?_)
    · have h := h.1 c_
      exact cg_sub [0, 1, 2, 3, 4, 5, 6, 7] rfl (tb_L_files_247 C  hR51 x0 x1 x2 x3 x4 x5 x6 x8 ((t1 + t0)) t2 S h)
    · have h := h.2 c_
      refine cg_iconst C (x := nI 1) rfl dL_files_243 ?_
      refine cg_goto C 248 (by decide) dL_files_244 ?_
      exact cg_sub [0, 1, 2, 3, 4, 5, 6, 7] rfl (tb_L_files_248 C  hR51 x0 x1 x2 x3 x4 x5 x6 x8 ((nI 1)) ((t1 + t0)) t2 S h)
set_option maxRecDepth 20000 in
theorem tb_L_files_220 (C : cC p s m args meth c cL_files 13 (some .int) A D Y tp dp RL) {post : Int32 → cS → Prop} {R51 : Nat → Nat → Nat → Nat → Nat → Nat → Nat → Int32 → Int32 → cS → Prop} (hR51 : ∀ (x0 : Nat) (x1 : Nat) (x2 : Nat) (x3 : Nat) (x4 : Nat) (x5 : Nat) (x6 : Nat) (x7 : Int32) (x8 : Int32) (S : cS), R51 x0 x1 x2 x3 x4 x5 x6 x7 x8 S → cG p l e (cRm 1 0 0 23) s m args below meth c A D Y 13 (MQ below (cQi post D Y A) args s 0 0 A) 0 0 51 [(0, .ref x0), (1, .ref x1), (2, .ref x2), (3, .ref x3), (4, .ref x4), (5, .ref x5), (6, .ref x6), (7, .int x7), (8, .int x8)] [] S) (x0 : Nat) (x1 : Nat) (x2 : Nat) (x3 : Nat) (x4 : Nat) (x5 : Nat) (x6 : Nat) (x8 : Int32) (x11 : Int32) (x12 : Int32) (t0 : Int32) (t1 : Int32) (S : cS) (h : k_L_files_220 post dp R51 x0 x1 x2 x3 x4 x5 x6 x8 x11 x12 t0 t1 S) : cG p l e (cRm 1 0 0 23) s m args below meth c A D Y 13 (MQ below (cQi post D Y A) args s 0 0 A) 0 0 220 [(0, .ref x0), (1, .ref x1), (2, .ref x2), (3, .ref x3), (4, .ref x4), (5, .ref x5), (6, .ref x6), (8, .int x8), (11, .int x11), (12, .int x12)] [.int t0, .int t1] S := by
  unfold k_L_files_220 at h
  refine cg_iload C 8 rfl dL_files_220 ?_
  refine cg_if_eq C 229 (by decide) dL_files_222 (fun c_ => ?_) (fun c_ => ?_)
  · have h := h.1 c_
    refine cg_iconst C (x := nI 0) rfl dL_files_229 ?_
    exact cg_sub [0, 1, 2, 3, 4, 5, 6, 7, 8, 9] rfl (tb_L_files_230 C  hR51 x0 x1 x2 x3 x4 x5 x6 x8 x11 x12 ((nI 0)) t0 t1 S h)
  · have h := h.2 c_
    refine cg_iconst C (x := nI 1) rfl dL_files_225 ?_
    refine cg_goto C 230 (by decide) dL_files_226 ?_
    exact cg_sub [0, 1, 2, 3, 4, 5, 6, 7, 8, 9] rfl (tb_L_files_230 C  hR51 x0 x1 x2 x3 x4 x5 x6 x8 x11 x12 ((nI 1)) t0 t1 S h)
set_option maxRecDepth 20000 in
theorem tb_L_files_206 (C : cC p s m args meth c cL_files 13 (some .int) A D Y tp dp RL) {post : Int32 → cS → Prop} {R51 : Nat → Nat → Nat → Nat → Nat → Nat → Nat → Int32 → Int32 → cS → Prop} (hR51 : ∀ (x0 : Nat) (x1 : Nat) (x2 : Nat) (x3 : Nat) (x4 : Nat) (x5 : Nat) (x6 : Nat) (x7 : Int32) (x8 : Int32) (S : cS), R51 x0 x1 x2 x3 x4 x5 x6 x7 x8 S → cG p l e (cRm 1 0 0 23) s m args below meth c A D Y 13 (MQ below (cQi post D Y A) args s 0 0 A) 0 0 51 [(0, .ref x0), (1, .ref x1), (2, .ref x2), (3, .ref x3), (4, .ref x4), (5, .ref x5), (6, .ref x6), (7, .int x7), (8, .int x8)] [] S) (x0 : Nat) (x1 : Nat) (x2 : Nat) (x3 : Nat) (x4 : Nat) (x5 : Nat) (x6 : Nat) (x7 : Int32) (x8 : Int32) (x9 : Int32) (x11 : Int32) (t0 : Int32) (S : cS) (h : k_L_files_206 post dp R51 x0 x1 x2 x3 x4 x5 x6 x7 x8 x9 x11 t0 S) : cG p l e (cRm 1 0 0 23) s m args below meth c A D Y 13 (MQ below (cQi post D Y A) args s 0 0 A) 0 0 206 [(0, .ref x0), (1, .ref x1), (2, .ref x2), (3, .ref x3), (4, .ref x4), (5, .ref x5), (6, .ref x6), (7, .int x7), (8, .int x8), (9, .int x9), (11, .int x11)] [.int t0] S := by
  unfold k_L_files_206 at h
  refine cg_istore C (lv' := [(12, .int t0), (0, .ref x0), (1, .ref x1), (2, .ref x2), (3, .ref x3), (4, .ref x4), (5, .ref x5), (6, .ref x6), (7, .int x7), (8, .int x8), (9, .int x9), (11, .int x11)]) (Nat.le_of_ble_eq_true rfl) rfl dL_files_206 ?_
  refine cg_iload C 8 rfl dL_files_208 ?_
  refine cg_iload C 10 rfl dL_files_210 ?_
  refine cg_if_eq C 219 (by decide) dL_files_212 (fun c_ => ?_) (fun c_ => ?_)
  · have h := h.1 c_
    refine cg_iconst C (x := nI 0) rfl dL_files_219 ?_
    exact cg_sub [1, 2, 3, 4, 5, 6, 7, 9, 11, 0] rfl (tb_L_files_220 C  hR51 x0 x1 x2 x3 x4 x5 x6 x8 x11 t0 ((nI 0)) x7 S h)
  · have h := h.2 c_
    refine cg_iconst C (x := nI 1) rfl dL_files_215 ?_
    refine cg_goto C 220 (by decide) dL_files_216 ?_
    exact cg_sub [1, 2, 3, 4, 5, 6, 7, 9, 11, 0] rfl (tb_L_files_220 C  hR51 x0 x1 x2 x3 x4 x5 x6 x8 x11 t0 ((nI 1)) x7 S h)
set_option maxRecDepth 20000 in
theorem tb_L_files_179 (C : cC p s m args meth c cL_files 13 (some .int) A D Y tp dp RL) {post : Int32 → cS → Prop} {R51 : Nat → Nat → Nat → Nat → Nat → Nat → Nat → Int32 → Int32 → cS → Prop} (hR51 : ∀ (x0 : Nat) (x1 : Nat) (x2 : Nat) (x3 : Nat) (x4 : Nat) (x5 : Nat) (x6 : Nat) (x7 : Int32) (x8 : Int32) (S : cS), R51 x0 x1 x2 x3 x4 x5 x6 x7 x8 S → cG p l e (cRm 1 0 0 23) s m args below meth c A D Y 13 (MQ below (cQi post D Y A) args s 0 0 A) 0 0 51 [(0, .ref x0), (1, .ref x1), (2, .ref x2), (3, .ref x3), (4, .ref x4), (5, .ref x5), (6, .ref x6), (7, .int x7), (8, .int x8)] [] S) (x0 : Nat) (x1 : Nat) (x2 : Nat) (x3 : Nat) (x4 : Nat) (x5 : Nat) (x6 : Nat) (x7 : Int32) (x8 : Int32) (x9 : Int32) (x10 : Int32) (t0 : Int32) (S : cS) (h : k_L_files_179 post dp R51 x0 x1 x2 x3 x4 x5 x6 x7 x8 x9 x10 t0 S) : cG p l e (cRm 1 0 0 23) s m args below meth c A D Y 13 (MQ below (cQi post D Y A) args s 0 0 A) 0 0 179 [(0, .ref x0), (1, .ref x1), (2, .ref x2), (3, .ref x3), (4, .ref x4), (5, .ref x5), (6, .ref x6), (7, .int x7), (8, .int x8), (9, .int x9), (10, .int x10)] [.int t0] S := by
  unfold k_L_files_179 at h
  refine cg_istore C (lv' := [(11, .int t0), (0, .ref x0), (1, .ref x1), (2, .ref x2), (3, .ref x3), (4, .ref x4), (5, .ref x5), (6, .ref x6), (7, .int x7), (8, .int x8), (9, .int x9), (10, .int x10)]) (Nat.le_of_ble_eq_true rfl) rfl dL_files_179 ?_
  refine cg_aload_n C (i := 3) rfl 4 rfl dL_files_181 ?_
  refine cg_iload C 9 rfl dL_files_182 ?_
  refine cg_callsi C (t_L_isIn l x3 x8 S dp h) cc_L_64 rfl ⟨by decide, by decide⟩ ⟨by decide, by decide⟩ rfl (Nat.le_of_ble_eq_true rfl) dL_files_184 (fun r_5 S_5 h => ?_)
  refine cg_if_eq C 205 (by decide) dL_files_187 (fun c_ => ?_) (fun c_ => ?_)
  · have h := h.1 c_
    refine cg_iconst C (x := nI 0) rfl dL_files_205 ?_
    exact cg_sub [1, 2, 3, 4, 5, 6, 7, 8, 9, 10, 0] rfl (tb_L_files_206 C  hR51 x0 x1 x2 x3 x4 x5 x6 x7 x8 x9 t0 ((nI 0)) S_5 h)
  · have h := h.2 c_
    refine cg_iload C 11 rfl dL_files_190 ?_
    refine cg_aload_n C (i := 3) rfl 4 rfl dL_files_192 ?_
    refine cg_bipush C (x := nI 32) rfl dL_files_193 ?_
    refine cg_iload C 9 rfl dL_files_195 ?_
    refine cg_iadd C dL_files_197 ?_
    obtain ⟨hc_198, h⟩ := h
    refine cg_ialoadR C hc_198 dL_files_198 ?_
    refine cg_iconst C (x := (-1)) rfl dL_files_199 ?_
    refine cg_ixor C dL_files_200 ?_
    refine cg_iand C dL_files_201 ?_
    refine cg_goto C 206 (by decide) dL_files_202 ?_
    exact cg_sub [1, 2, 3, 4, 5, 6, 7, 8, 9, 10, 0] rfl (tb_L_files_206 C  hR51 x0 x1 x2 x3 x4 x5 x6 x7 x8 x9 t0 ((x10 &&& ((((cI S_5 x3 ((((nI 32)) + x8)).toNatClampNeg)) ^^^ (((-1))))))) S_5 h)
set_option maxRecDepth 20000 in
theorem tb_L_files_136 (C : cC p s m args meth c cL_files 13 (some .int) A D Y tp dp RL) {post : Int32 → cS → Prop} {R51 : Nat → Nat → Nat → Nat → Nat → Nat → Nat → Int32 → Int32 → cS → Prop} {R108 : Nat → Nat → Nat → Nat → Nat → Nat → Nat → Int32 → Int32 → Int32 → Int32 → cS → Prop} (hR51 : ∀ (x0 : Nat) (x1 : Nat) (x2 : Nat) (x3 : Nat) (x4 : Nat) (x5 : Nat) (x6 : Nat) (x7 : Int32) (x8 : Int32) (S : cS), R51 x0 x1 x2 x3 x4 x5 x6 x7 x8 S → cG p l e (cRm 1 0 0 23) s m args below meth c A D Y 13 (MQ below (cQi post D Y A) args s 0 0 A) 0 0 51 [(0, .ref x0), (1, .ref x1), (2, .ref x2), (3, .ref x3), (4, .ref x4), (5, .ref x5), (6, .ref x6), (7, .int x7), (8, .int x8)] [] S) (hR108 : ∀ (x0 : Nat) (x1 : Nat) (x2 : Nat) (x3 : Nat) (x4 : Nat) (x5 : Nat) (x6 : Nat) (x7 : Int32) (x8 : Int32) (x9 : Int32) (x10 : Int32) (S : cS), R108 x0 x1 x2 x3 x4 x5 x6 x7 x8 x9 x10 S → cG p l e (cRm 1 0 0 23) s m args below meth c A D Y 13 (MQ below (cQi post D Y A) args s 0 0 A) 0 0 108 [(0, .ref x0), (1, .ref x1), (2, .ref x2), (3, .ref x3), (4, .ref x4), (5, .ref x5), (6, .ref x6), (7, .int x7), (8, .int x8), (9, .int x9), (10, .int x10)] [] S) (x0 : Nat) (x1 : Nat) (x2 : Nat) (x3 : Nat) (x4 : Nat) (x5 : Nat) (x6 : Nat) (x7 : Int32) (x8 : Int32) (x10 : Int32) (t0 : Int32) (S : cS) (h : k_L_files_136 post dp R51 R108 x0 x1 x2 x3 x4 x5 x6 x7 x8 x10 t0 S) : cG p l e (cRm 1 0 0 23) s m args below meth c A D Y 13 (MQ below (cQi post D Y A) args s 0 0 A) 0 0 136 [(0, .ref x0), (1, .ref x1), (2, .ref x2), (3, .ref x3), (4, .ref x4), (5, .ref x5), (6, .ref x6), (7, .int x7), (8, .int x8), (10, .int x10)] [.int t0] S := by
  unfold k_L_files_136 at h
  refine cg_istore C (lv' := [(9, .int t0), (0, .ref x0), (1, .ref x1), (2, .ref x2), (3, .ref x3), (4, .ref x4), (5, .ref x5), (6, .ref x6), (7, .int x7), (8, .int x8), (10, .int x10)]) (Nat.le_of_ble_eq_true rfl) rfl dL_files_136 ?_
  obtain ⟨x10_8, e_x10_8⟩ : ∃ z : Int32, z = x10 + nI 1 := ⟨_, rfl⟩
  have h := h x10_8 e_x10_8
  refine cg_iinc C (lv' := [(10, .int x10_8), (9, .int t0), (0, .ref x0), (1, .ref x1), (2, .ref x2), (3, .ref x3), (4, .ref x4), (5, .ref x5), (6, .ref x6), (7, .int x7), (8, .int x8)]) 10 rfl (by rw [e_x10_8]; rfl) (Nat.le_of_ble_eq_true rfl) rfl dL_files_138 ?_
  refine cg_goto C 108 (by decide) dL_files_141 ?_
  exact cg_sub [2, 3, 4, 5, 6, 7, 8, 9, 10, 1, 0] rfl (hR108 x0 x1 x2 x3 x4 x5 x6 x7 x8 t0 x10_8 S h)
set_option maxRecDepth 20000 in
theorem tb_L_files_108 (C : cC p s m args meth c cL_files 13 (some .int) A D Y tp dp RL) {post : Int32 → cS → Prop} {R51 : Nat → Nat → Nat → Nat → Nat → Nat → Nat → Int32 → Int32 → cS → Prop} {R108 : Nat → Nat → Nat → Nat → Nat → Nat → Nat → Int32 → Int32 → Int32 → Int32 → cS → Prop} (hR51 : ∀ (x0 : Nat) (x1 : Nat) (x2 : Nat) (x3 : Nat) (x4 : Nat) (x5 : Nat) (x6 : Nat) (x7 : Int32) (x8 : Int32) (S : cS), R51 x0 x1 x2 x3 x4 x5 x6 x7 x8 S → cG p l e (cRm 1 0 0 23) s m args below meth c A D Y 13 (MQ below (cQi post D Y A) args s 0 0 A) 0 0 51 [(0, .ref x0), (1, .ref x1), (2, .ref x2), (3, .ref x3), (4, .ref x4), (5, .ref x5), (6, .ref x6), (7, .int x7), (8, .int x8)] [] S) (hR108 : ∀ (x0 : Nat) (x1 : Nat) (x2 : Nat) (x3 : Nat) (x4 : Nat) (x5 : Nat) (x6 : Nat) (x7 : Int32) (x8 : Int32) (x9 : Int32) (x10 : Int32) (S : cS), R108 x0 x1 x2 x3 x4 x5 x6 x7 x8 x9 x10 S → cG p l e (cRm 1 0 0 23) s m args below meth c A D Y 13 (MQ below (cQi post D Y A) args s 0 0 A) 0 0 108 [(0, .ref x0), (1, .ref x1), (2, .ref x2), (3, .ref x3), (4, .ref x4), (5, .ref x5), (6, .ref x6), (7, .int x7), (8, .int x8), (9, .int x9), (10, .int x10)] [] S) (x0 : Nat) (x1 : Nat) (x2 : Nat) (x3 : Nat) (x4 : Nat) (x5 : Nat) (x6 : Nat) (x7 : Int32) (x8 : Int32) (x9 : Int32) (x10 : Int32) (S : cS) (h : k_L_files_108 post dp R51 R108 x0 x1 x2 x3 x4 x5 x6 x7 x8 x9 x10 S) : cG p l e (cRm 1 0 0 23) s m args below meth c A D Y 13 (MQ below (cQi post D Y A) args s 0 0 A) 0 0 108 [(0, .ref x0), (1, .ref x1), (2, .ref x2), (3, .ref x3), (4, .ref x4), (5, .ref x5), (6, .ref x6), (7, .int x7), (8, .int x8), (9, .int x9), (10, .int x10)] [] S := by
  unfold k_L_files_108 at h
  refine cg_iload C 10 rfl dL_files_108 ?_
  refine cg_aload C 6 rfl dL_files_110 ?_
  refine cg_iconst C (x := nI 3) rfl dL_files_112 ?_
  obtain ⟨hc_113, h⟩ := h
  refine cg_ialoadR C hc_113 dL_files_113 ?_
  refine cg_icmp_ge C 144 (by decide) dL_files_114 (fun c_ => ?_) (fun c_ => ?_)
  · have h := h.1 c_
    refine cg_iconst C (x := nI 1) rfl dL_files_144 ?_
    refine cg_aload_n C (i := 0) rfl 0 rfl dL_files_145 ?_
    refine cg_iload C 8 rfl dL_files_146 ?_
    obtain ⟨hc_148, h⟩ := h
    refine cg_ialoadR C hc_148 dL_files_148 ?_
    refine cg_ishl C dL_files_149 ?_
    refine cg_iconst C (x := nI 1) rfl dL_files_150 ?_
    refine cg_isub C dL_files_151 ?_
    refine cg_nmI (fun x10_3 e_x10_3 => ?_)
    have h := h x10_3 e_x10_3
    refine cg_istore C (lv' := [(10, .int x10_3), (0, .ref x0), (1, .ref x1), (2, .ref x2), (3, .ref x3), (4, .ref x4), (5, .ref x5), (6, .ref x6), (7, .int x7), (8, .int x8), (9, .int x9)]) (Nat.le_of_ble_eq_true rfl) rfl dL_files_152 ?_
    refine cg_aload_n C (i := 2) rfl 3 rfl dL_files_154 ?_
    refine cg_iload C 9 rfl dL_files_155 ?_
    refine cg_callsi C (t_L_isIn l x2 x8 S dp h) cc_L_64 rfl ⟨by decide, by decide⟩ ⟨by decide, by decide⟩ rfl (Nat.le_of_ble_eq_true rfl) dL_files_157 (fun r_4 S_4 h => ?_)
    refine cg_if_eq C 178 (by decide) dL_files_160 (fun c_ => ?_) (fun c_ => ?_)
    · have h := h.1 c_
      refine cg_iconst C (x := nI 0) rfl dL_files_178 ?_
      exact cg_sub [1, 2, 3, 4, 5, 6, 7, 8, 9, 10, 0] rfl (tb_L_files_179 C  hR51 x0 x1 x2 x3 x4 x5 x6 x7 x8 x9 x10_3 ((nI 0)) S_4 h)
    · have h := h.2 c_
      refine cg_iload C 0 rfl dL_files_163 ?_
      refine cg_aload_n C (i := 2) rfl 3 rfl dL_files_165 ?_
      refine cg_bipush C (x := nI 32) rfl dL_files_166 ?_
      refine cg_iload C 9 rfl dL_files_168 ?_
      refine cg_iadd C dL_files_170 ?_
      obtain ⟨hc_171, h⟩ := h
      refine cg_ialoadR C hc_171 dL_files_171 ?_
      refine cg_iconst C (x := (-1)) rfl dL_files_172 ?_
      refine cg_ixor C dL_files_173 ?_
      refine cg_iand C dL_files_174 ?_
      refine cg_goto C 179 (by decide) dL_files_175 ?_
      exact cg_sub [1, 2, 3, 4, 5, 6, 7, 8, 9, 10, 0] rfl (tb_L_files_179 C  hR51 x0 x1 x2 x3 x4 x5 x6 x7 x8 x9 x10_3 ((x10_3 &&& ((((cI S_4 x2 ((((nI 32)) + x8)).toNatClampNeg)) ^^^ (((-1))))))) S_4 h)
  · have h := h.2 c_
    refine cg_iload C 9 rfl dL_files_117 ?_
    refine cg_if_ne C 131 (by decide) dL_files_119 (fun c_ => ?_) (fun c_ => ?_)
    · have h := h.1 c_
      refine cg_iconst C (x := nI 1) rfl dL_files_131 ?_
      refine cg_goto C 136 (by decide) dL_files_132 ?_
      exact cg_sub [0, 1, 2, 3, 4, 5, 6, 7, 8, 10] rfl (tb_L_files_136 C  hR51 hR108 x0 x1 x2 x3 x4 x5 x6 x7 x8 x10 ((nI 1)) S h)
    · have h := h.2 c_
      refine cg_aload_n C (i := 1) rfl 1 rfl dL_files_122 ?_
      refine cg_iload C 10 rfl dL_files_123 ?_
      obtain ⟨hc_125, h⟩ := h
      refine cg_ialoadR C hc_125 dL_files_125 ?_
      refine cg_iload C 8 rfl dL_files_126 ?_
      refine cg_icmp_ne C 135 (by decide) dL_files_128 (fun c_ => ?_) (fun c_ => ?_)
      · have h := h.1 c_
        refine cg_iconst C (x := nI 0) rfl dL_files_135 ?_
        exact cg_sub [0, 1, 2, 3, 4, 5, 6, 7, 8, 10] rfl (tb_L_files_136 C  hR51 hR108 x0 x1 x2 x3 x4 x5 x6 x7 x8 x10 ((nI 0)) S h)
      · have h := h.2 c_
        refine cg_iconst C (x := nI 1) rfl dL_files_131 ?_
        refine cg_goto C 136 (by decide) dL_files_132 ?_
        exact cg_sub [0, 1, 2, 3, 4, 5, 6, 7, 8, 10] rfl (tb_L_files_136 C  hR51 hR108 x0 x1 x2 x3 x4 x5 x6 x7 x8 x10 ((nI 1)) S h)
set_option maxRecDepth 20000 in
theorem tl_L_files_108 (C : cC p s m args meth c cL_files 13 (some .int) A D Y tp dp RL) {post : Int32 → cS → Prop} {R51 : Nat → Nat → Nat → Nat → Nat → Nat → Nat → Int32 → Int32 → cS → Prop} (hR51 : ∀ (x0 : Nat) (x1 : Nat) (x2 : Nat) (x3 : Nat) (x4 : Nat) (x5 : Nat) (x6 : Nat) (x7 : Int32) (x8 : Int32) (S : cS), R51 x0 x1 x2 x3 x4 x5 x6 x7 x8 S → cG p l e (cRm 1 0 0 23) s m args below meth c A D Y 13 (MQ below (cQi post D Y A) args s 0 0 A) 0 0 51 [(0, .ref x0), (1, .ref x1), (2, .ref x2), (3, .ref x3), (4, .ref x4), (5, .ref x5), (6, .ref x6), (7, .int x7), (8, .int x8)] [] S) (x0 : Nat) (x1 : Nat) (x2 : Nat) (x3 : Nat) (x4 : Nat) (x5 : Nat) (x6 : Nat) (x7 : Int32) (x8 : Int32) (x9 : Int32) (x10 : Int32) (S : cS) (h : k_L_files_108L post dp R51 x0 x1 x2 x3 x4 x5 x6 x7 x8 x9 x10 S) : cG p l e (cRm 1 0 0 23) s m args below meth c A D Y 13 (MQ below (cQi post D Y A) args s 0 0 A) 0 0 108 [(0, .ref x0), (1, .ref x1), (2, .ref x2), (3, .ref x3), (4, .ref x4), (5, .ref x5), (6, .ref x6), (7, .int x7), (8, .int x8), (9, .int x9), (10, .int x10)] [] S :=
  h (fun y => cG p l e (cRm 1 0 0 23) s m args below meth c A D Y 13 (MQ below (cQi post D Y A) args s 0 0 A) 0 0 108 [(0, .ref (y.1)), (1, .ref (y.2.1)), (2, .ref (y.2.2.1)), (3, .ref (y.2.2.2.1)), (4, .ref (y.2.2.2.2.1)), (5, .ref (y.2.2.2.2.2.1)), (6, .ref (y.2.2.2.2.2.2.1)), (7, .int (y.2.2.2.2.2.2.2.1)), (8, .int (y.2.2.2.2.2.2.2.2.1)), (9, .int (y.2.2.2.2.2.2.2.2.2.1)), (10, .int (y.2.2.2.2.2.2.2.2.2.2.1))] [] (y.2.2.2.2.2.2.2.2.2.2.2)) (fun y hy => tb_L_files_108 C  hR51 (fun b0 b1 b2 b3 b4 b5 b6 b7 b8 b9 b10 S z => z) (y.1) (y.2.1) (y.2.2.1) (y.2.2.2.1) (y.2.2.2.2.1) (y.2.2.2.2.2.1) (y.2.2.2.2.2.2.1) (y.2.2.2.2.2.2.2.1) (y.2.2.2.2.2.2.2.2.1) (y.2.2.2.2.2.2.2.2.2.1) (y.2.2.2.2.2.2.2.2.2.2.1) (y.2.2.2.2.2.2.2.2.2.2.2) hy)
set_option maxRecDepth 20000 in
theorem tb_L_files_103 (C : cC p s m args meth c cL_files 13 (some .int) A D Y tp dp RL) {post : Int32 → cS → Prop} {R51 : Nat → Nat → Nat → Nat → Nat → Nat → Nat → Int32 → Int32 → cS → Prop} (hR51 : ∀ (x0 : Nat) (x1 : Nat) (x2 : Nat) (x3 : Nat) (x4 : Nat) (x5 : Nat) (x6 : Nat) (x7 : Int32) (x8 : Int32) (S : cS), R51 x0 x1 x2 x3 x4 x5 x6 x7 x8 S → cG p l e (cRm 1 0 0 23) s m args below meth c A D Y 13 (MQ below (cQi post D Y A) args s 0 0 A) 0 0 51 [(0, .ref x0), (1, .ref x1), (2, .ref x2), (3, .ref x3), (4, .ref x4), (5, .ref x5), (6, .ref x6), (7, .int x7), (8, .int x8)] [] S) (x0 : Nat) (x1 : Nat) (x2 : Nat) (x3 : Nat) (x4 : Nat) (x5 : Nat) (x6 : Nat) (x7 : Int32) (x8 : Int32) (t0 : Int32) (S : cS) (h : k_L_files_103 post dp R51 x0 x1 x2 x3 x4 x5 x6 x7 x8 t0 S) : cG p l e (cRm 1 0 0 23) s m args below meth c A D Y 13 (MQ below (cQi post D Y A) args s 0 0 A) 0 0 103 [(0, .ref x0), (1, .ref x1), (2, .ref x2), (3, .ref x3), (4, .ref x4), (5, .ref x5), (6, .ref x6), (7, .int x7), (8, .int x8)] [.int t0] S := by
  unfold k_L_files_103 at h
  refine cg_istore C (lv' := [(9, .int t0), (0, .ref x0), (1, .ref x1), (2, .ref x2), (3, .ref x3), (4, .ref x4), (5, .ref x5), (6, .ref x6), (7, .int x7), (8, .int x8)]) (Nat.le_of_ble_eq_true rfl) rfl dL_files_103 ?_
  refine cg_iconst C (x := nI 0) rfl dL_files_105 ?_
  refine cg_istore C (lv' := [(10, .int ((nI 0))), (9, .int t0), (0, .ref x0), (1, .ref x1), (2, .ref x2), (3, .ref x3), (4, .ref x4), (5, .ref x5), (6, .ref x6), (7, .int x7), (8, .int x8)]) (Nat.le_of_ble_eq_true rfl) rfl dL_files_106 ?_
  exact cg_sub [2, 3, 4, 5, 6, 7, 8, 9, 10, 1, 0] rfl (tl_L_files_108 C  hR51 x0 x1 x2 x3 x4 x5 x6 x7 x8 t0 (((nI 0))) S h)
set_option maxRecDepth 20000 in
theorem tb_L_files_51 (C : cC p s m args meth c cL_files 13 (some .int) A D Y tp dp RL) {post : Int32 → cS → Prop} {R51 : Nat → Nat → Nat → Nat → Nat → Nat → Nat → Int32 → Int32 → cS → Prop} (hR51 : ∀ (x0 : Nat) (x1 : Nat) (x2 : Nat) (x3 : Nat) (x4 : Nat) (x5 : Nat) (x6 : Nat) (x7 : Int32) (x8 : Int32) (S : cS), R51 x0 x1 x2 x3 x4 x5 x6 x7 x8 S → cG p l e (cRm 1 0 0 23) s m args below meth c A D Y 13 (MQ below (cQi post D Y A) args s 0 0 A) 0 0 51 [(0, .ref x0), (1, .ref x1), (2, .ref x2), (3, .ref x3), (4, .ref x4), (5, .ref x5), (6, .ref x6), (7, .int x7), (8, .int x8)] [] S) (x0 : Nat) (x1 : Nat) (x2 : Nat) (x3 : Nat) (x4 : Nat) (x5 : Nat) (x6 : Nat) (x7 : Int32) (x8 : Int32) (S : cS) (h : k_L_files_51 post dp R51 x0 x1 x2 x3 x4 x5 x6 x7 x8 S) : cG p l e (cRm 1 0 0 23) s m args below meth c A D Y 13 (MQ below (cQi post D Y A) args s 0 0 A) 0 0 51 [(0, .ref x0), (1, .ref x1), (2, .ref x2), (3, .ref x3), (4, .ref x4), (5, .ref x5), (6, .ref x6), (7, .int x7), (8, .int x8)] [] S := by
  unfold k_L_files_51 at h
  refine cg_iload C 8 rfl dL_files_51 ?_
  refine cg_aload C 6 rfl dL_files_53 ?_
  refine cg_iconst C (x := nI 2) rfl dL_files_55 ?_
  obtain ⟨hc_56, h⟩ := h
  refine cg_ialoadR C hc_56 dL_files_56 ?_
  refine cg_icmp_ge C 258 (by decide) dL_files_57 (fun c_ => ?_) (fun c_ => ?_)
  · have h := h.1 c_
    refine cg_iload C 7 rfl dL_files_258 ?_
    exact cg_iret C h dL_files_260 (by decide) (by decide)
  · have h := h.2 c_
    refine cg_aload_n C (i := 2) rfl 2 rfl dL_files_60 ?_
    refine cg_iload C 8 rfl dL_files_61 ?_
    refine cg_callsi C (t_L_isIn l x2 x8 S dp h) cc_L_64 rfl ⟨by decide, by decide⟩ ⟨by decide, by decide⟩ rfl (Nat.le_of_ble_eq_true rfl) dL_files_63 (fun r_2 S_2 h => ?_)
    refine cg_if_ne C 98 (by decide) dL_files_66 (fun c_ => ?_) (fun c_ => ?_)
    · have h := h.1 c_
      refine cg_iconst C (x := nI 1) rfl dL_files_98 ?_
      refine cg_goto C 103 (by decide) dL_files_99 ?_
      exact cg_sub [0, 1, 2, 3, 4, 5, 6, 7, 8] rfl (tb_L_files_103 C  hR51 x0 x1 x2 x3 x4 x5 x6 x7 x8 ((nI 1)) S_2 h)
    · have h := h.2 c_
      refine cg_aload_n C (i := 3) rfl 3 rfl dL_files_69 ?_
      refine cg_iload C 8 rfl dL_files_70 ?_
      refine cg_callsi C (t_L_isIn l x3 x8 S_2 dp h) cc_L_64 rfl ⟨by decide, by decide⟩ ⟨by decide, by decide⟩ rfl (Nat.le_of_ble_eq_true rfl) dL_files_72 (fun r_9 S_9 h => ?_)
      refine cg_if_ne C 98 (by decide) dL_files_75 (fun c_ => ?_) (fun c_ => ?_)
      · have h := h.1 c_
        refine cg_iconst C (x := nI 1) rfl dL_files_98 ?_
        refine cg_goto C 103 (by decide) dL_files_99 ?_
        exact cg_sub [0, 1, 2, 3, 4, 5, 6, 7, 8] rfl (tb_L_files_103 C  hR51 x0 x1 x2 x3 x4 x5 x6 x7 x8 ((nI 1)) S_9 h)
      · have h := h.2 c_
        refine cg_aload C 4 rfl dL_files_78 ?_
        refine cg_iload C 8 rfl dL_files_80 ?_
        refine cg_callsi C (t_L_isIn l x4 x8 S_9 dp h) cc_L_64 rfl ⟨by decide, by decide⟩ ⟨by decide, by decide⟩ rfl (Nat.le_of_ble_eq_true rfl) dL_files_82 (fun r_10 S_10 h => ?_)
        refine cg_if_ne C 98 (by decide) dL_files_85 (fun c_ => ?_) (fun c_ => ?_)
        · have h := h.1 c_
          refine cg_iconst C (x := nI 1) rfl dL_files_98 ?_
          refine cg_goto C 103 (by decide) dL_files_99 ?_
          exact cg_sub [0, 1, 2, 3, 4, 5, 6, 7, 8] rfl (tb_L_files_103 C  hR51 x0 x1 x2 x3 x4 x5 x6 x7 x8 ((nI 1)) S_10 h)
        · have h := h.2 c_
          refine cg_aload C 5 rfl dL_files_88 ?_
          refine cg_iload C 8 rfl dL_files_90 ?_
          refine cg_callsi C (t_L_isIn l x5 x8 S_10 dp h) cc_L_64 rfl ⟨by decide, by decide⟩ ⟨by decide, by decide⟩ rfl (Nat.le_of_ble_eq_true rfl) dL_files_92 (fun r_11 S_11 h => ?_)
          refine cg_if_eq C 102 (by decide) dL_files_95 (fun c_ => ?_) (fun c_ => ?_)
          · have h := h.1 c_
            refine cg_iconst C (x := nI 0) rfl dL_files_102 ?_
            exact cg_sub [0, 1, 2, 3, 4, 5, 6, 7, 8] rfl (tb_L_files_103 C  hR51 x0 x1 x2 x3 x4 x5 x6 x7 x8 ((nI 0)) S_11 h)
          · have h := h.2 c_
            refine cg_iconst C (x := nI 1) rfl dL_files_98 ?_
            refine cg_goto C 103 (by decide) dL_files_99 ?_
            exact cg_sub [0, 1, 2, 3, 4, 5, 6, 7, 8] rfl (tb_L_files_103 C  hR51 x0 x1 x2 x3 x4 x5 x6 x7 x8 ((nI 1)) S_11 h)
set_option maxRecDepth 20000 in
theorem tl_L_files_51 (C : cC p s m args meth c cL_files 13 (some .int) A D Y tp dp RL) {post : Int32 → cS → Prop}   (x0 : Nat) (x1 : Nat) (x2 : Nat) (x3 : Nat) (x4 : Nat) (x5 : Nat) (x6 : Nat) (x7 : Int32) (x8 : Int32) (S : cS) (h : k_L_files_51L post dp  x0 x1 x2 x3 x4 x5 x6 x7 x8 S) : cG p l e (cRm 1 0 0 23) s m args below meth c A D Y 13 (MQ below (cQi post D Y A) args s 0 0 A) 0 0 51 [(0, .ref x0), (1, .ref x1), (2, .ref x2), (3, .ref x3), (4, .ref x4), (5, .ref x5), (6, .ref x6), (7, .int x7), (8, .int x8)] [] S :=
  h (fun y => cG p l e (cRm 1 0 0 23) s m args below meth c A D Y 13 (MQ below (cQi post D Y A) args s 0 0 A) 0 0 51 [(0, .ref (y.1)), (1, .ref (y.2.1)), (2, .ref (y.2.2.1)), (3, .ref (y.2.2.2.1)), (4, .ref (y.2.2.2.2.1)), (5, .ref (y.2.2.2.2.2.1)), (6, .ref (y.2.2.2.2.2.2.1)), (7, .int (y.2.2.2.2.2.2.2.1)), (8, .int (y.2.2.2.2.2.2.2.2.1))] [] (y.2.2.2.2.2.2.2.2.2)) (fun y hy => tb_L_files_51 C   (fun b0 b1 b2 b3 b4 b5 b6 b7 b8 S z => z) (y.1) (y.2.1) (y.2.2.1) (y.2.2.2.1) (y.2.2.2.2.1) (y.2.2.2.2.2.1) (y.2.2.2.2.2.2.1) (y.2.2.2.2.2.2.2.1) (y.2.2.2.2.2.2.2.2.1) (y.2.2.2.2.2.2.2.2.2) hy)
set_option maxRecDepth 20000 in
theorem tb_L_files_45 (C : cC p s m args meth c cL_files 13 (some .int) A D Y tp dp RL) {post : Int32 → cS → Prop}   (x0 : Nat) (x1 : Nat) (x2 : Nat) (x3 : Nat) (x4 : Nat) (x5 : Nat) (x6 : Nat) (t0 : Int32) (t1 : Int32) (S : cS) (h : k_L_files_45 post dp  x0 x1 x2 x3 x4 x5 x6 t0 t1 S) : cG p l e (cRm 1 0 0 23) s m args below meth c A D Y 13 (MQ below (cQi post D Y A) args s 0 0 A) 0 0 45 [(0, .ref x0), (1, .ref x1), (2, .ref x2), (3, .ref x3), (4, .ref x4), (5, .ref x5), (6, .ref x6)] [.int t0, .int t1] S := by
  unfold k_L_files_45 at h
  refine cg_iadd C dL_files_45 ?_
  refine cg_nmI (fun x7_1 e_x7_1 => ?_)
  have h := h x7_1 e_x7_1
  refine cg_istore C (lv' := [(7, .int x7_1), (0, .ref x0), (1, .ref x1), (2, .ref x2), (3, .ref x3), (4, .ref x4), (5, .ref x5), (6, .ref x6)]) (Nat.le_of_ble_eq_true rfl) rfl dL_files_46 ?_
  refine cg_iconst C (x := nI 0) rfl dL_files_48 ?_
  refine cg_istore C (lv' := [(8, .int ((nI 0))), (7, .int x7_1), (0, .ref x0), (1, .ref x1), (2, .ref x2), (3, .ref x3), (4, .ref x4), (5, .ref x5), (6, .ref x6)]) (Nat.le_of_ble_eq_true rfl) rfl dL_files_49 ?_
  exact cg_sub [2, 3, 4, 5, 6, 7, 8, 1, 0] rfl (tl_L_files_51 C   x0 x1 x2 x3 x4 x5 x6 x7_1 (((nI 0))) S h)
set_option maxRecDepth 20000 in
theorem tb_L_files_44 (C : cC p s m args meth c cL_files 13 (some .int) A D Y tp dp RL) {post : Int32 → cS → Prop}   (x0 : Nat) (x1 : Nat) (x2 : Nat) (x3 : Nat) (x4 : Nat) (x5 : Nat) (x6 : Nat) (t0 : Int32) (S : cS) (h : k_L_files_44 post dp  x0 x1 x2 x3 x4 x5 x6 t0 S) : cG p l e (cRm 1 0 0 23) s m args below meth c A D Y 13 (MQ below (cQi post D Y A) args s 0 0 A) 0 0 44 [(0, .ref x0), (1, .ref x1), (2, .ref x2), (3, .ref x3), (4, .ref x4), (5, .ref x5), (6, .ref x6)] [.int t0] S := by
  unfold k_L_files_44 at h
  refine cg_iconst C (x := nI 0) rfl dL_files_44 ?_
  exact cg_sub [0, 1, 2, 3, 4, 5, 6] rfl (tb_L_files_45 C   x0 x1 x2 x3 x4 x5 x6 ((nI 0)) t0 S h)
set_option maxRecDepth 20000 in
theorem tb_L_files_22 (C : cC p s m args meth c cL_files 13 (some .int) A D Y tp dp RL) {post : Int32 → cS → Prop}   (x0 : Nat) (x1 : Nat) (x2 : Nat) (x3 : Nat) (x4 : Nat) (x5 : Nat) (x6 : Nat) (t0 : Int32) (t1 : Int32) (S : cS) (h : k_L_files_22 post dp  x0 x1 x2 x3 x4 x5 x6 t0 t1 S) : cG p l e (cRm 1 0 0 23) s m args below meth c A D Y 13 (MQ below (cQi post D Y A) args s 0 0 A) 0 0 22 [(0, .ref x0), (1, .ref x1), (2, .ref x2), (3, .ref x3), (4, .ref x4), (5, .ref x5), (6, .ref x6)] [.int t0, .int t1] S := by
  unfold k_L_files_22 at h
  refine cg_iadd C dL_files_22 ?_
  refine cg_aload C 6 rfl dL_files_23 ?_
  refine cg_bipush C (x := nI 9) rfl dL_files_25 ?_
  obtain ⟨hc_27, h⟩ := h
  refine cg_ialoadR C hc_27 dL_files_27 ?_
  refine cg_iconst C (x := nI 1) rfl dL_files_28 ?_
  refine cg_icmp_ne C 44 (by decide) dL_files_29 (fun c_ => ?_) (fun c_ => ?_)
  · have h := h.1 c_
    exact cg_sub [0, 1, 2, 3, 4, 5, 6] rfl (tb_L_files_44 C   x0 x1 x2 x3 x4 x5 x6 ((t1 + t0)) S h)
  · have h := h.2 c_
    refine cg_aload C 6 rfl dL_files_32 ?_
    refine cg_bipush C (x := nI 11) rfl dL_files_34 ?_
    obtain ⟨hc_36, h⟩ := h
    refine cg_ialoadR C hc_36 dL_files_36 ?_
    refine cg_if_le C 44 (by decide) dL_files_37 (fun c_ => ?_) (fun c_ => ?_)
    · have h := h.1 c_
      exact cg_sub [0, 1, 2, 3, 4, 5, 6] rfl (tb_L_files_44 C   x0 x1 x2 x3 x4 x5 x6 ((t1 + t0)) S h)
    · have h := h.2 c_
      refine cg_iconst C (x := nI 1) rfl dL_files_40 ?_
      refine cg_goto C 45 (by decide) dL_files_41 ?_
      exact cg_sub [0, 1, 2, 3, 4, 5, 6] rfl (tb_L_files_45 C   x0 x1 x2 x3 x4 x5 x6 ((nI 1)) ((t1 + t0)) S h)
set_option maxRecDepth 20000 in
theorem tb_L_files_11 (C : cC p s m args meth c cL_files 13 (some .int) A D Y tp dp RL) {post : Int32 → cS → Prop}   (x0 : Nat) (x1 : Nat) (x2 : Nat) (x3 : Nat) (x4 : Nat) (x5 : Nat) (x6 : Nat) (t0 : Int32) (S : cS) (h : k_L_files_11 post dp  x0 x1 x2 x3 x4 x5 x6 t0 S) : cG p l e (cRm 1 0 0 23) s m args below meth c A D Y 13 (MQ below (cQi post D Y A) args s 0 0 A) 0 0 11 [(0, .ref x0), (1, .ref x1), (2, .ref x2), (3, .ref x3), (4, .ref x4), (5, .ref x5), (6, .ref x6)] [.int t0] S := by
  unfold k_L_files_11 at h
  refine cg_aload_n C (i := 3) rfl 3 rfl dL_files_11 ?_
  refine cg_iconst C (x := nI 0) rfl dL_files_12 ?_
  obtain ⟨hc_13, h⟩ := h
  refine cg_ialoadR C hc_13 dL_files_13 ?_
  refine cg_if_le C 21 (by decide) dL_files_14 (fun c_ => ?_) (fun c_ => ?_)
  · have h := h.1 c_
    refine cg_iconst C (x := nI 0) rfl dL_files_21 ?_
    exact cg_sub [0, 1, 2, 3, 4, 5, 6] rfl (tb_L_files_22 C   x0 x1 x2 x3 x4 x5 x6 ((nI 0)) t0 S h)
  · have h := h.2 c_
    refine cg_iconst C (x := nI 1) rfl dL_files_17 ?_
    refine cg_goto C 22 (by decide) dL_files_18 ?_
    exact cg_sub [0, 1, 2, 3, 4, 5, 6] rfl (tb_L_files_22 C   x0 x1 x2 x3 x4 x5 x6 ((nI 1)) t0 S h)
end S_L_files
set_option maxHeartbeats 1000000 in
set_option maxRecDepth 20000 in
theorem t_L_files (l : Launch) (x0 : Nat) (x1 : Nat) (x2 : Nat) (x3 : Nat) (x4 : Nat) (x5 : Nat) (x6 : Nat) (S : cS) (dp : Nat) {P : Int32 → cS → Prop} (h : k_L_files P dp x0 x1 x2 x3 x4 x5 x6 S) : cMet (cQi P) l yL_files cL_files 13 (some .int) 1 0 0 23 [.ref x0, .ref x1, .ref x2, .ref x3, .ref x4, .ref x5, .ref x6] S dp := by
  intro D Y tp sz
  refine cg_body (by decide +kernel) (Nat.le_of_ble_eq_true rfl) ?_
  intro p e s m args below meth c C
  generalize va_A (cWd Y S) sz = A at C ⊢
  have C : cC p s m args meth c cL_files 13 (some .int) A D Y tp dp RL := C
  refine cg_lv (lv' := [(0, .ref x0), (1, .ref x1), (2, .ref x2), (3, .ref x3), (4, .ref x4), (5, .ref x5), (6, .ref x6)]) rfl ?_
  unfold k_L_files at h
  refine cg_aload_n C (i := 2) rfl 2 rfl dL_files_0 ?_
  refine cg_iconst C (x := nI 0) rfl dL_files_1 ?_
  obtain ⟨hc_2, h⟩ := h
  refine cg_ialoadR C hc_2 dL_files_2 ?_
  refine cg_if_le C 10 (by decide) dL_files_3 (fun c_ => ?_) (fun c_ => ?_)
  · have h := h.1 c_
    refine cg_iconst C (x := nI 0) rfl dL_files_10 ?_
    exact cg_sub [0, 1, 2, 3, 4, 5, 6] rfl (tb_L_files_11 C   x0 x1 x2 x3 x4 x5 x6 ((nI 0)) S h)
  · have h := h.2 c_
    refine cg_iconst C (x := nI 1) rfl dL_files_6 ?_
    refine cg_goto C 11 (by decide) dL_files_7 ?_
    exact cg_sub [0, 1, 2, 3, 4, 5, 6] rfl (tb_L_files_11 C   x0 x1 x2 x3 x4 x5 x6 ((nI 1)) S h)
section S_L_ones
variable {p : Program} {l : Launch} {e : Env} {s : State} {m : MethodId} {args : Array Value} {below : List Frame} {meth : Method} {c : Code} {A : Nat → Prop} {D : va_G} {Y : cY} {tp dp : Nat}
set_option maxRecDepth 20000 in
theorem tb_L_ones_4 (C : cC p s m args meth c cL_ones 3 (some .int) A D Y tp dp RL) {post : Int32 → cS → Prop} {R4 : Int32 → Int32 → cS → Prop} (hR4 : ∀ (x1 : Int32) (x2 : Int32) (S : cS), R4 x1 x2 S → cG p l e (cRm 0 0 0 0) s m args below meth c A D Y 3 (MQ below (cQi post D Y A) args s 0 0 A) 0 0 4 [(1, .int x1), (2, .int x2)] [] S) (x1 : Int32) (x2 : Int32) (S : cS) (h : k_L_ones_4 post dp R4 x1 x2 S) : cG p l e (cRm 0 0 0 0) s m args below meth c A D Y 3 (MQ below (cQi post D Y A) args s 0 0 A) 0 0 4 [(1, .int x1), (2, .int x2)] [] S := by
  unfold k_L_ones_4 at h
  refine cg_iload_n C (i := 2) rfl 1 rfl dL_ones_4 ?_
  refine cg_if_eq C 20 (by decide) dL_ones_5 (fun c_ => ?_) (fun c_ => ?_)
  · have h := h.1 c_
    refine cg_iload_n C (i := 1) rfl 0 rfl dL_ones_20 ?_
    exact cg_iret C h dL_ones_21 (by decide) (by decide)
  · have h := h.2 c_
    obtain ⟨x1_1, e_x1_1⟩ : ∃ z : Int32, z = x1 + nI 1 := ⟨_, rfl⟩
    have h := h x1_1 e_x1_1
    refine cg_iinc C (lv' := [(1, .int x1_1), (2, .int x2)]) 0 rfl (by rw [e_x1_1]; rfl) (Nat.le_of_ble_eq_true rfl) rfl dL_ones_8 ?_
    refine cg_iload_n C (i := 2) rfl 1 rfl dL_ones_11 ?_
    refine cg_iload_n C (i := 2) rfl 1 rfl dL_ones_12 ?_
    refine cg_iconst C (x := nI 1) rfl dL_ones_13 ?_
    refine cg_isub C dL_ones_14 ?_
    refine cg_iand C dL_ones_15 ?_
    refine cg_nmI (fun x2_2 e_x2_2 => ?_)
    have h := h x2_2 e_x2_2
    refine cg_istore_n C (i := 2) (lv' := [(2, .int x2_2), (1, .int x1_1)]) rfl (Nat.le_of_ble_eq_true rfl) rfl dL_ones_16 ?_
    refine cg_goto C 4 (by decide) dL_ones_17 ?_
    exact cg_sub [1, 0] rfl (hR4 x1_1 x2_2 S h)
set_option maxRecDepth 20000 in
theorem tl_L_ones_4 (C : cC p s m args meth c cL_ones 3 (some .int) A D Y tp dp RL) {post : Int32 → cS → Prop}   (x1 : Int32) (x2 : Int32) (S : cS) (h : k_L_ones_4L post dp  x1 x2 S) : cG p l e (cRm 0 0 0 0) s m args below meth c A D Y 3 (MQ below (cQi post D Y A) args s 0 0 A) 0 0 4 [(1, .int x1), (2, .int x2)] [] S :=
  h (fun y => cG p l e (cRm 0 0 0 0) s m args below meth c A D Y 3 (MQ below (cQi post D Y A) args s 0 0 A) 0 0 4 [(1, .int (y.1)), (2, .int (y.2.1))] [] (y.2.2)) (fun y hy => tb_L_ones_4 C   (fun b0 b1 S z => z) (y.1) (y.2.1) (y.2.2) hy)
end S_L_ones
set_option maxHeartbeats 1000000 in
set_option maxRecDepth 20000 in
theorem t_L_ones (l : Launch) (x0 : Int32) (S : cS) (dp : Nat) {P : Int32 → cS → Prop} (h : k_L_ones P dp x0 S) : cMet (cQi P) l yL_ones cL_ones 3 (some .int) 0 0 0 0 [.int x0] S dp := by
  intro D Y tp sz
  refine cg_body (by decide +kernel) (Nat.le_of_ble_eq_true rfl) ?_
  intro p e s m args below meth c C
  generalize va_A (cWd Y S) sz = A at C ⊢
  have C : cC p s m args meth c cL_ones 3 (some .int) A D Y tp dp RL := C
  refine cg_lv (lv' := [(0, .int x0)]) rfl ?_
  unfold k_L_ones at h
  refine cg_iconst C (x := nI 0) rfl dL_ones_0 ?_
  refine cg_istore_n C (i := 1) (lv' := [(1, .int ((nI 0))), (0, .int x0)]) rfl (Nat.le_of_ble_eq_true rfl) rfl dL_ones_1 ?_
  refine cg_iload_n C (i := 0) rfl 1 rfl dL_ones_2 ?_
  refine cg_istore_n C (i := 2) (lv' := [(2, .int x0), (1, .int ((nI 0))), (0, .int x0)]) rfl (Nat.le_of_ble_eq_true rfl) rfl dL_ones_3 ?_
  exact cg_sub [1, 0] rfl (tl_L_ones_4 C   (((nI 0))) x0 S h)
section S_L_types
variable {p : Program} {l : Launch} {e : Env} {s : State} {m : MethodId} {args : Array Value} {below : List Frame} {meth : Method} {c : Code} {A : Nat → Prop} {D : va_G} {Y : cY} {tp dp : Nat}
set_option maxRecDepth 20000 in
theorem tb_L_types_229 (C : cC p s m args meth c cL_types 2 none A D Y tp dp RL) {post : cS → Prop}   (t0 : Int32) (t1 : Nat) (S : cS) (h : k_L_types_229 post dp  t0 t1 S) : cG p l e (cRm 2 0 0 42) s m args below meth c A D Y 2 (MQ below (cQv post D Y A) args s 0 0 A) 0 0 229 [] [.int t0, .ref t1] S := by
  unfold k_L_types_229 at h
  obtain ⟨hc_229, h⟩ := h
  refine cg_calli C (t_X11_type l t1 t0 S dp h) cc_L_114 hc_229.1 hc_229.2 (by decide) rfl rfl ⟨by decide, by decide⟩ ⟨by decide, by decide⟩ rfl (Nat.le_of_ble_eq_true rfl) dL_types_229 (fun r_7 S_7 h => ?_)
  refine cg_pop C rfl dL_types_232 ?_
  exact cg_vret C h dL_types_233 (by decide) (by decide)
set_option maxRecDepth 20000 in
theorem tb_L_types_216 (C : cC p s m args meth c cL_types 2 none A D Y tp dp RL) {post : cS → Prop}   (x0 : Nat) (x1 : Int32) (S : cS) (h : k_L_types_216 post dp  x0 x1 S) : cG p l e (cRm 2 0 0 42) s m args below meth c A D Y 2 (MQ below (cQv post D Y A) args s 0 0 A) 0 0 216 [(0, .ref x0), (1, .int x1)] [] S := by
  unfold k_L_types_216 at h
  refine cg_aload_n C (i := 0) rfl 0 rfl dL_types_216 ?_
  refine cg_iload_n C (i := 1) rfl 1 rfl dL_types_217 ?_
  refine cg_iconst C (x := nI 4) rfl dL_types_218 ?_
  refine cg_icmp_ne C 227 (by decide) dL_types_219 (fun c_ => ?_) (fun c_ => ?_)
  · have h := h.1 c_
    refine cg_bipush C (x := nI 32) rfl dL_types_227 ?_
    exact cg_sub [] rfl (tb_L_types_229 C   ((nI 32)) x0 S h)
  · have h := h.2 c_
    refine cg_bipush C (x := nI 45) rfl dL_types_222 ?_
    refine cg_goto C 229 (by decide) dL_types_224 ?_
    exact cg_sub [] rfl (tb_L_types_229 C   ((nI 45)) x0 S h)
set_option maxRecDepth 20000 in
theorem tb_L_types_189 (C : cC p s m args meth c cL_types 2 none A D Y tp dp RL) {post : cS → Prop}   (x0 : Nat) (x1 : Int32) (S : cS) (h : k_L_types_189 post dp  x0 x1 S) : cG p l e (cRm 2 0 0 42) s m args below meth c A D Y 2 (MQ below (cQv post D Y A) args s 0 0 A) 0 0 189 [(0, .ref x0), (1, .int x1)] [] S := by
  unfold k_L_types_189 at h
  refine cg_iload_n C (i := 1) rfl 1 rfl dL_types_189 ?_
  refine cg_bipush C (x := nI 7) rfl dL_types_190 ?_
  refine cg_icmp_ne C 216 (by decide) dL_types_192 (fun c_ => ?_) (fun c_ => ?_)
  · have h := h.1 c_
    exact cg_sub [0, 1] rfl (tb_L_types_216 C   x0 x1 S h)
  · have h := h.2 c_
    refine cg_aload_n C (i := 0) rfl 0 rfl dL_types_195 ?_
    refine cg_bipush C (x := nI 116) rfl dL_types_196 ?_
    obtain ⟨hc_198, h⟩ := h
    refine cg_calli C (t_X11_type l x0 ((nI 116)) S dp h) cc_L_114 hc_198.1 hc_198.2 (by decide) rfl rfl ⟨by decide, by decide⟩ ⟨by decide, by decide⟩ rfl (Nat.le_of_ble_eq_true rfl) dL_types_198 (fun r_8 S_8 h => ?_)
    refine cg_pop C rfl dL_types_201 ?_
    refine cg_aload_n C (i := 0) rfl 0 rfl dL_types_202 ?_
    refine cg_bipush C (x := nI 104) rfl dL_types_203 ?_
    obtain ⟨hc_205, h⟩ := h
    refine cg_calli C (t_X11_type l x0 ((nI 104)) S_8 dp h) cc_L_114 hc_205.1 hc_205.2 (by decide) rfl rfl ⟨by decide, by decide⟩ ⟨by decide, by decide⟩ rfl (Nat.le_of_ble_eq_true rfl) dL_types_205 (fun r_9 S_9 h => ?_)
    refine cg_pop C rfl dL_types_208 ?_
    refine cg_aload_n C (i := 0) rfl 0 rfl dL_types_209 ?_
    refine cg_bipush C (x := nI 101) rfl dL_types_210 ?_
    obtain ⟨hc_212, h⟩ := h
    refine cg_calli C (t_X11_type l x0 ((nI 101)) S_9 dp h) cc_L_114 hc_212.1 hc_212.2 (by decide) rfl rfl ⟨by decide, by decide⟩ ⟨by decide, by decide⟩ rfl (Nat.le_of_ble_eq_true rfl) dL_types_212 (fun r_10 S_10 h => ?_)
    refine cg_pop C rfl dL_types_215 ?_
    exact cg_sub [0, 1] rfl (tb_L_types_216 C   x0 x1 S_10 h)
set_option maxRecDepth 20000 in
theorem tb_L_types_155 (C : cC p s m args meth c cL_types 2 none A D Y tp dp RL) {post : cS → Prop}   (x0 : Nat) (x1 : Int32) (S : cS) (h : k_L_types_155 post dp  x0 x1 S) : cG p l e (cRm 2 0 0 42) s m args below meth c A D Y 2 (MQ below (cQv post D Y A) args s 0 0 A) 0 0 155 [(0, .ref x0), (1, .int x1)] [] S := by
  unfold k_L_types_155 at h
  refine cg_iload_n C (i := 1) rfl 1 rfl dL_types_155 ?_
  refine cg_bipush C (x := nI 6) rfl dL_types_156 ?_
  refine cg_icmp_ne C 189 (by decide) dL_types_158 (fun c_ => ?_) (fun c_ => ?_)
  · have h := h.1 c_
    exact cg_sub [0, 1] rfl (tb_L_types_189 C   x0 x1 S h)
  · have h := h.2 c_
    refine cg_aload_n C (i := 0) rfl 0 rfl dL_types_161 ?_
    refine cg_bipush C (x := nI 98) rfl dL_types_162 ?_
    obtain ⟨hc_164, h⟩ := h
    refine cg_calli C (t_X11_type l x0 ((nI 98)) S dp h) cc_L_114 hc_164.1 hc_164.2 (by decide) rfl rfl ⟨by decide, by decide⟩ ⟨by decide, by decide⟩ rfl (Nat.le_of_ble_eq_true rfl) dL_types_164 (fun r_11 S_11 h => ?_)
    refine cg_pop C rfl dL_types_167 ?_
    refine cg_aload_n C (i := 0) rfl 0 rfl dL_types_168 ?_
    refine cg_bipush C (x := nI 111) rfl dL_types_169 ?_
    obtain ⟨hc_171, h⟩ := h
    refine cg_calli C (t_X11_type l x0 ((nI 111)) S_11 dp h) cc_L_114 hc_171.1 hc_171.2 (by decide) rfl rfl ⟨by decide, by decide⟩ ⟨by decide, by decide⟩ rfl (Nat.le_of_ble_eq_true rfl) dL_types_171 (fun r_12 S_12 h => ?_)
    refine cg_pop C rfl dL_types_174 ?_
    refine cg_aload_n C (i := 0) rfl 0 rfl dL_types_175 ?_
    refine cg_bipush C (x := nI 115) rfl dL_types_176 ?_
    obtain ⟨hc_178, h⟩ := h
    refine cg_calli C (t_X11_type l x0 ((nI 115)) S_12 dp h) cc_L_114 hc_178.1 hc_178.2 (by decide) rfl rfl ⟨by decide, by decide⟩ ⟨by decide, by decide⟩ rfl (Nat.le_of_ble_eq_true rfl) dL_types_178 (fun r_13 S_13 h => ?_)
    refine cg_pop C rfl dL_types_181 ?_
    refine cg_aload_n C (i := 0) rfl 0 rfl dL_types_182 ?_
    refine cg_bipush C (x := nI 115) rfl dL_types_183 ?_
    obtain ⟨hc_185, h⟩ := h
    refine cg_calli C (t_X11_type l x0 ((nI 115)) S_13 dp h) cc_L_114 hc_185.1 hc_185.2 (by decide) rfl rfl ⟨by decide, by decide⟩ ⟨by decide, by decide⟩ rfl (Nat.le_of_ble_eq_true rfl) dL_types_185 (fun r_14 S_14 h => ?_)
    refine cg_pop C rfl dL_types_188 ?_
    exact cg_sub [0, 1] rfl (tb_L_types_189 C   x0 x1 S_14 h)
set_option maxRecDepth 20000 in
theorem tb_L_types_134 (C : cC p s m args meth c cL_types 2 none A D Y tp dp RL) {post : cS → Prop}   (x0 : Nat) (x1 : Int32) (S : cS) (h : k_L_types_134 post dp  x0 x1 S) : cG p l e (cRm 2 0 0 42) s m args below meth c A D Y 2 (MQ below (cQv post D Y A) args s 0 0 A) 0 0 134 [(0, .ref x0), (1, .int x1)] [] S := by
  unfold k_L_types_134 at h
  refine cg_aload_n C (i := 0) rfl 0 rfl dL_types_134 ?_
  refine cg_bipush C (x := nI 105) rfl dL_types_135 ?_
  obtain ⟨hc_137, h⟩ := h
  refine cg_calli C (t_X11_type l x0 ((nI 105)) S dp h) cc_L_114 hc_137.1 hc_137.2 (by decide) rfl rfl ⟨by decide, by decide⟩ ⟨by decide, by decide⟩ rfl (Nat.le_of_ble_eq_true rfl) dL_types_137 (fun r_4 S_4 h => ?_)
  refine cg_pop C rfl dL_types_140 ?_
  refine cg_aload_n C (i := 0) rfl 0 rfl dL_types_141 ?_
  refine cg_bipush C (x := nI 110) rfl dL_types_142 ?_
  obtain ⟨hc_144, h⟩ := h
  refine cg_calli C (t_X11_type l x0 ((nI 110)) S_4 dp h) cc_L_114 hc_144.1 hc_144.2 (by decide) rfl rfl ⟨by decide, by decide⟩ ⟨by decide, by decide⟩ rfl (Nat.le_of_ble_eq_true rfl) dL_types_144 (fun r_5 S_5 h => ?_)
  refine cg_pop C rfl dL_types_147 ?_
  refine cg_aload_n C (i := 0) rfl 0 rfl dL_types_148 ?_
  refine cg_bipush C (x := nI 103) rfl dL_types_149 ?_
  obtain ⟨hc_151, h⟩ := h
  refine cg_calli C (t_X11_type l x0 ((nI 103)) S_5 dp h) cc_L_114 hc_151.1 hc_151.2 (by decide) rfl rfl ⟨by decide, by decide⟩ ⟨by decide, by decide⟩ rfl (Nat.le_of_ble_eq_true rfl) dL_types_151 (fun r_6 S_6 h => ?_)
  refine cg_pop C rfl dL_types_154 ?_
  exact cg_sub [0, 1] rfl (tb_L_types_155 C   x0 x1 S_6 h)
set_option maxRecDepth 20000 in
theorem tb_L_types_124 (C : cC p s m args meth c cL_types 2 none A D Y tp dp RL) {post : cS → Prop}   (x0 : Nat) (x1 : Int32) (S : cS) (h : k_L_types_124 post dp  x0 x1 S) : cG p l e (cRm 2 0 0 42) s m args below meth c A D Y 2 (MQ below (cQv post D Y A) args s 0 0 A) 0 0 124 [(0, .ref x0), (1, .int x1)] [] S := by
  unfold k_L_types_124 at h
  refine cg_iload_n C (i := 1) rfl 1 rfl dL_types_124 ?_
  refine cg_iconst C (x := nI 3) rfl dL_types_125 ?_
  refine cg_icmp_eq C 134 (by decide) dL_types_126 (fun c_ => ?_) (fun c_ => ?_)
  · have h := h.1 c_
    exact cg_sub [0, 1] rfl (tb_L_types_134 C   x0 x1 S h)
  · have h := h.2 c_
    refine cg_iload_n C (i := 1) rfl 1 rfl dL_types_129 ?_
    refine cg_iconst C (x := nI 5) rfl dL_types_130 ?_
    refine cg_icmp_ne C 155 (by decide) dL_types_131 (fun c_ => ?_) (fun c_ => ?_)
    · have h := h.1 c_
      exact cg_sub [0, 1] rfl (tb_L_types_155 C   x0 x1 S h)
    · have h := h.2 c_
      exact cg_sub [0, 1] rfl (tb_L_types_134 C   x0 x1 S h)
set_option maxRecDepth 20000 in
theorem tb_L_types_112 (C : cC p s m args meth c cL_types 2 none A D Y tp dp RL) {post : cS → Prop}   (x0 : Nat) (x1 : Int32) (S : cS) (h : k_L_types_112 post dp  x0 x1 S) : cG p l e (cRm 2 0 0 42) s m args below meth c A D Y 2 (MQ below (cQv post D Y A) args s 0 0 A) 0 0 112 [(0, .ref x0), (1, .int x1)] [] S := by
  unfold k_L_types_112 at h
  refine cg_iload_n C (i := 1) rfl 1 rfl dL_types_112 ?_
  refine cg_iconst C (x := nI 5) rfl dL_types_113 ?_
  refine cg_icmp_ne C 124 (by decide) dL_types_114 (fun c_ => ?_) (fun c_ => ?_)
  · have h := h.1 c_
    exact cg_sub [0, 1] rfl (tb_L_types_124 C   x0 x1 S h)
  · have h := h.2 c_
    refine cg_aload_n C (i := 0) rfl 0 rfl dL_types_117 ?_
    refine cg_bipush C (x := nI 115) rfl dL_types_118 ?_
    obtain ⟨hc_120, h⟩ := h
    refine cg_calli C (t_X11_type l x0 ((nI 115)) S dp h) cc_L_114 hc_120.1 hc_120.2 (by decide) rfl rfl ⟨by decide, by decide⟩ ⟨by decide, by decide⟩ rfl (Nat.le_of_ble_eq_true rfl) dL_types_120 (fun r_15 S_15 h => ?_)
    refine cg_pop C rfl dL_types_123 ?_
    exact cg_sub [0, 1] rfl (tb_L_types_124 C   x0 x1 S_15 h)
set_option maxRecDepth 20000 in
theorem tb_L_types_86 (C : cC p s m args meth c cL_types 2 none A D Y tp dp RL) {post : cS → Prop}   (x0 : Nat) (x1 : Int32) (S : cS) (h : k_L_types_86 post dp  x0 x1 S) : cG p l e (cRm 2 0 0 42) s m args below meth c A D Y 2 (MQ below (cQv post D Y A) args s 0 0 A) 0 0 86 [(0, .ref x0), (1, .int x1)] [] S := by
  unfold k_L_types_86 at h
  refine cg_iload_n C (i := 1) rfl 1 rfl dL_types_86 ?_
  refine cg_iconst C (x := nI 4) rfl dL_types_87 ?_
  refine cg_icmp_ne C 112 (by decide) dL_types_88 (fun c_ => ?_) (fun c_ => ?_)
  · have h := h.1 c_
    exact cg_sub [0, 1] rfl (tb_L_types_112 C   x0 x1 S h)
  · have h := h.2 c_
    refine cg_aload_n C (i := 0) rfl 0 rfl dL_types_91 ?_
    refine cg_bipush C (x := nI 82) rfl dL_types_92 ?_
    obtain ⟨hc_94, h⟩ := h
    refine cg_calli C (t_X11_type l x0 ((nI 82)) S dp h) cc_L_114 hc_94.1 hc_94.2 (by decide) rfl rfl ⟨by decide, by decide⟩ ⟨by decide, by decide⟩ rfl (Nat.le_of_ble_eq_true rfl) dL_types_94 (fun r_16 S_16 h => ?_)
    refine cg_pop C rfl dL_types_97 ?_
    refine cg_aload_n C (i := 0) rfl 0 rfl dL_types_98 ?_
    refine cg_bipush C (x := nI 101) rfl dL_types_99 ?_
    obtain ⟨hc_101, h⟩ := h
    refine cg_calli C (t_X11_type l x0 ((nI 101)) S_16 dp h) cc_L_114 hc_101.1 hc_101.2 (by decide) rfl rfl ⟨by decide, by decide⟩ ⟨by decide, by decide⟩ rfl (Nat.le_of_ble_eq_true rfl) dL_types_101 (fun r_17 S_17 h => ?_)
    refine cg_pop C rfl dL_types_104 ?_
    refine cg_aload_n C (i := 0) rfl 0 rfl dL_types_105 ?_
    refine cg_bipush C (x := nI 100) rfl dL_types_106 ?_
    obtain ⟨hc_108, h⟩ := h
    refine cg_calli C (t_X11_type l x0 ((nI 100)) S_17 dp h) cc_L_114 hc_108.1 hc_108.2 (by decide) rfl rfl ⟨by decide, by decide⟩ ⟨by decide, by decide⟩ rfl (Nat.le_of_ble_eq_true rfl) dL_types_108 (fun r_18 S_18 h => ?_)
    refine cg_pop C rfl dL_types_111 ?_
    exact cg_sub [0, 1] rfl (tb_L_types_112 C   x0 x1 S_18 h)
set_option maxRecDepth 20000 in
theorem tb_L_types_53 (C : cC p s m args meth c cL_types 2 none A D Y tp dp RL) {post : cS → Prop}   (x0 : Nat) (x1 : Int32) (S : cS) (h : k_L_types_53 post dp  x0 x1 S) : cG p l e (cRm 2 0 0 42) s m args below meth c A D Y 2 (MQ below (cQv post D Y A) args s 0 0 A) 0 0 53 [(0, .ref x0), (1, .int x1)] [] S := by
  unfold k_L_types_53 at h
  refine cg_iload_n C (i := 1) rfl 1 rfl dL_types_53 ?_
  refine cg_iconst C (x := nI 3) rfl dL_types_54 ?_
  refine cg_icmp_ne C 86 (by decide) dL_types_55 (fun c_ => ?_) (fun c_ => ?_)
  · have h := h.1 c_
    exact cg_sub [0, 1] rfl (tb_L_types_86 C   x0 x1 S h)
  · have h := h.2 c_
    refine cg_aload_n C (i := 0) rfl 0 rfl dL_types_58 ?_
    refine cg_bipush C (x := nI 114) rfl dL_types_59 ?_
    obtain ⟨hc_61, h⟩ := h
    refine cg_calli C (t_X11_type l x0 ((nI 114)) S dp h) cc_L_114 hc_61.1 hc_61.2 (by decide) rfl rfl ⟨by decide, by decide⟩ ⟨by decide, by decide⟩ rfl (Nat.le_of_ble_eq_true rfl) dL_types_61 (fun r_19 S_19 h => ?_)
    refine cg_pop C rfl dL_types_64 ?_
    refine cg_aload_n C (i := 0) rfl 0 rfl dL_types_65 ?_
    refine cg_bipush C (x := nI 117) rfl dL_types_66 ?_
    obtain ⟨hc_68, h⟩ := h
    refine cg_calli C (t_X11_type l x0 ((nI 117)) S_19 dp h) cc_L_114 hc_68.1 hc_68.2 (by decide) rfl rfl ⟨by decide, by decide⟩ ⟨by decide, by decide⟩ rfl (Nat.le_of_ble_eq_true rfl) dL_types_68 (fun r_20 S_20 h => ?_)
    refine cg_pop C rfl dL_types_71 ?_
    refine cg_aload_n C (i := 0) rfl 0 rfl dL_types_72 ?_
    refine cg_bipush C (x := nI 110) rfl dL_types_73 ?_
    obtain ⟨hc_75, h⟩ := h
    refine cg_calli C (t_X11_type l x0 ((nI 110)) S_20 dp h) cc_L_114 hc_75.1 hc_75.2 (by decide) rfl rfl ⟨by decide, by decide⟩ ⟨by decide, by decide⟩ rfl (Nat.le_of_ble_eq_true rfl) dL_types_75 (fun r_21 S_21 h => ?_)
    refine cg_pop C rfl dL_types_78 ?_
    refine cg_aload_n C (i := 0) rfl 0 rfl dL_types_79 ?_
    refine cg_bipush C (x := nI 110) rfl dL_types_80 ?_
    obtain ⟨hc_82, h⟩ := h
    refine cg_calli C (t_X11_type l x0 ((nI 110)) S_21 dp h) cc_L_114 hc_82.1 hc_82.2 (by decide) rfl rfl ⟨by decide, by decide⟩ ⟨by decide, by decide⟩ rfl (Nat.le_of_ble_eq_true rfl) dL_types_82 (fun r_22 S_22 h => ?_)
    refine cg_pop C rfl dL_types_85 ?_
    exact cg_sub [0, 1] rfl (tb_L_types_86 C   x0 x1 S_22 h)
set_option maxRecDepth 20000 in
theorem tb_L_types_41 (C : cC p s m args meth c cL_types 2 none A D Y tp dp RL) {post : cS → Prop}   (x0 : Nat) (x1 : Int32) (S : cS) (h : k_L_types_41 post dp  x0 x1 S) : cG p l e (cRm 2 0 0 42) s m args below meth c A D Y 2 (MQ below (cQv post D Y A) args s 0 0 A) 0 0 41 [(0, .ref x0), (1, .int x1)] [] S := by
  unfold k_L_types_41 at h
  refine cg_iload_n C (i := 1) rfl 1 rfl dL_types_41 ?_
  refine cg_iconst C (x := nI 2) rfl dL_types_42 ?_
  refine cg_icmp_ne C 53 (by decide) dL_types_43 (fun c_ => ?_) (fun c_ => ?_)
  · have h := h.1 c_
    exact cg_sub [0, 1] rfl (tb_L_types_53 C   x0 x1 S h)
  · have h := h.2 c_
    refine cg_aload_n C (i := 0) rfl 0 rfl dL_types_46 ?_
    refine cg_bipush C (x := nI 83) rfl dL_types_47 ?_
    obtain ⟨hc_49, h⟩ := h
    refine cg_calli C (t_X11_type l x0 ((nI 83)) S dp h) cc_L_114 hc_49.1 hc_49.2 (by decide) rfl rfl ⟨by decide, by decide⟩ ⟨by decide, by decide⟩ rfl (Nat.le_of_ble_eq_true rfl) dL_types_49 (fun r_23 S_23 h => ?_)
    refine cg_pop C rfl dL_types_52 ?_
    exact cg_sub [0, 1] rfl (tb_L_types_53 C   x0 x1 S_23 h)
set_option maxRecDepth 20000 in
theorem tb_L_types_23 (C : cC p s m args meth c cL_types 2 none A D Y tp dp RL) {post : cS → Prop}   (x0 : Nat) (x1 : Int32) (t0 : Int32) (t1 : Nat) (S : cS) (h : k_L_types_23 post dp  x0 x1 t0 t1 S) : cG p l e (cRm 2 0 0 42) s m args below meth c A D Y 2 (MQ below (cQv post D Y A) args s 0 0 A) 0 0 23 [(0, .ref x0), (1, .int x1)] [.int t0, .ref t1] S := by
  unfold k_L_types_23 at h
  obtain ⟨hc_23, h⟩ := h
  refine cg_calli C (t_X11_type l t1 t0 S dp h) cc_L_114 hc_23.1 hc_23.2 (by decide) rfl rfl ⟨by decide, by decide⟩ ⟨by decide, by decide⟩ rfl (Nat.le_of_ble_eq_true rfl) dL_types_23 (fun r_1 S_1 h => ?_)
  refine cg_pop C rfl dL_types_26 ?_
  refine cg_aload_n C (i := 0) rfl 0 rfl dL_types_27 ?_
  refine cg_bipush C (x := nI 97) rfl dL_types_28 ?_
  obtain ⟨hc_30, h⟩ := h
  refine cg_calli C (t_X11_type l x0 ((nI 97)) S_1 dp h) cc_L_114 hc_30.1 hc_30.2 (by decide) rfl rfl ⟨by decide, by decide⟩ ⟨by decide, by decide⟩ rfl (Nat.le_of_ble_eq_true rfl) dL_types_30 (fun r_2 S_2 h => ?_)
  refine cg_pop C rfl dL_types_33 ?_
  refine cg_aload_n C (i := 0) rfl 0 rfl dL_types_34 ?_
  refine cg_bipush C (x := nI 116) rfl dL_types_35 ?_
  obtain ⟨hc_37, h⟩ := h
  refine cg_calli C (t_X11_type l x0 ((nI 116)) S_2 dp h) cc_L_114 hc_37.1 hc_37.2 (by decide) rfl rfl ⟨by decide, by decide⟩ ⟨by decide, by decide⟩ rfl (Nat.le_of_ble_eq_true rfl) dL_types_37 (fun r_3 S_3 h => ?_)
  refine cg_pop C rfl dL_types_40 ?_
  exact cg_sub [0, 1] rfl (tb_L_types_41 C   x0 x1 S_3 h)
set_option maxRecDepth 20000 in
theorem tb_L_types_10 (C : cC p s m args meth c cL_types 2 none A D Y tp dp RL) {post : cS → Prop}   (x0 : Nat) (x1 : Int32) (S : cS) (h : k_L_types_10 post dp  x0 x1 S) : cG p l e (cRm 2 0 0 42) s m args below meth c A D Y 2 (MQ below (cQv post D Y A) args s 0 0 A) 0 0 10 [(0, .ref x0), (1, .int x1)] [] S := by
  unfold k_L_types_10 at h
  refine cg_aload_n C (i := 0) rfl 0 rfl dL_types_10 ?_
  refine cg_iload_n C (i := 1) rfl 1 rfl dL_types_11 ?_
  refine cg_iconst C (x := nI 1) rfl dL_types_12 ?_
  refine cg_icmp_ne C 21 (by decide) dL_types_13 (fun c_ => ?_) (fun c_ => ?_)
  · have h := h.1 c_
    refine cg_bipush C (x := nI 67) rfl dL_types_21 ?_
    exact cg_sub [0, 1] rfl (tb_L_types_23 C   x0 x1 ((nI 67)) x0 S h)
  · have h := h.2 c_
    refine cg_bipush C (x := nI 99) rfl dL_types_16 ?_
    refine cg_goto C 23 (by decide) dL_types_18 ?_
    exact cg_sub [0, 1] rfl (tb_L_types_23 C   x0 x1 ((nI 99)) x0 S h)
end S_L_types
set_option maxHeartbeats 1000000 in
set_option maxRecDepth 20000 in
theorem t_L_types (l : Launch) (x0 : Nat) (x1 : Int32) (S : cS) (dp : Nat) {P : cS → Prop} (h : k_L_types P dp x0 x1 S) : cMet (cQv P) l yL_types cL_types 2 none 2 0 0 42 [.ref x0, .int x1] S dp := by
  intro D Y tp sz
  refine cg_body (by decide +kernel) (Nat.le_of_ble_eq_true rfl) ?_
  intro p e s m args below meth c C
  generalize va_A (cWd Y S) sz = A at C ⊢
  have C : cC p s m args meth c cL_types 2 none A D Y tp dp RL := C
  refine cg_lv (lv' := [(0, .ref x0), (1, .int x1)]) rfl ?_
  unfold k_L_types at h
  refine cg_iload_n C (i := 1) rfl 1 rfl dL_types_0 ?_
  refine cg_iconst C (x := nI 1) rfl dL_types_1 ?_
  refine cg_icmp_eq C 10 (by decide) dL_types_2 (fun c_ => ?_) (fun c_ => ?_)
  · have h := h.1 c_
    exact cg_sub [0, 1] rfl (tb_L_types_10 C   x0 x1 S h)
  · have h := h.2 c_
    refine cg_iload_n C (i := 1) rfl 1 rfl dL_types_5 ?_
    refine cg_iconst C (x := nI 2) rfl dL_types_6 ?_
    refine cg_icmp_ne C 41 (by decide) dL_types_7 (fun c_ => ?_) (fun c_ => ?_)
    · have h := h.1 c_
      exact cg_sub [0, 1] rfl (tb_L_types_41 C   x0 x1 S h)
    · have h := h.2 c_
      exact cg_sub [0, 1] rfl (tb_L_types_10 C   x0 x1 S h)
section S_L_isReady
variable {p : Program} {l : Launch} {e : Env} {s : State} {m : MethodId} {args : Array Value} {below : List Frame} {meth : Method} {c : Code} {A : Nat → Prop} {D : va_G} {Y : cY} {tp dp : Nat}
set_option maxRecDepth 20000 in
theorem tb_L_isReady_486 {mc ms : Nat} (C : cC p s m args meth c cL_isReady 2 (some .boolean) A D Y tp dp RL) {post : Int32 → cS → Prop}   (x0 : Nat) (t0 : Int32) (cd dd : Nat) (S : cS) (h : k_L_isReady_486 post dp mc ms  x0 t0 cd dd S) : cG p l e (cRm 10 mc ms 233) s m args below meth c A D Y 2 (MQ below (cQi post D Y A) args s mc ms A) cd dd 486 [(0, .ref x0)] [.int t0] S := by
  unfold k_L_isReady_486 at h
  refine cg_istore_n C (i := 1) (lv' := [(1, .int t0), (0, .ref x0)]) rfl (Nat.le_of_ble_eq_true rfl) rfl dL_isReady_486 ?_
  refine cg_aload_n C (i := 0) rfl 1 rfl dL_isReady_487 ?_
  refine cg_iconst C (x := nI 4) rfl dL_isReady_488 ?_
  obtain ⟨hb_489, h⟩ := h
  refine cg_callsv C (t_L_types l x0 ((nI 4)) S dp h) cc_L_118 rfl ⟨by decide, by decide⟩ hb_489 rfl (Nat.le_of_ble_eq_true rfl) dL_isReady_489 (fun S_19 h => ?_)
  simp only [Nat.add_zero]
  refine cg_iload_n C (i := 1) rfl 0 rfl dL_isReady_492 ?_
  refine cg_if_eq C 526 (by decide) dL_isReady_493 (fun c_ => ?_) (fun c_ => ?_)
  · have h := h.1 c_
    refine cg_iconst C (x := nI 0) rfl dL_isReady_526 ?_
    obtain ⟨hb_527, h⟩ := h
    refine cg_cast (.int (bI false)) rfl ?_
    exact cg_zret C (bI_nar _) h dL_isReady_527 hb_527.1 hb_527.2
  · have h := h.2 c_
    refine cg_aload_n C (i := 0) rfl 1 rfl dL_isReady_496 ?_
    refine cg_iconst C (x := nI 1) rfl dL_isReady_497 ?_
    obtain ⟨hc_498, h⟩ := h
    obtain ⟨mc20, ms21, hm_1, hm_2, h⟩ := h
    refine cg_calli C (t_X11_term l mc20 ms21 x0 ((nI 1)) S_19 dp h) cc_L_128 hc_498.1 hc_498.2 (by decide) rfl rfl ⟨by decide, by decide⟩ ⟨hm_1, hm_2⟩ rfl (Nat.le_of_ble_eq_true rfl) dL_isReady_498 (fun r_22 S_22 h => ?_)
    refine cg_iconst C (x := nI 2) rfl dL_isReady_501 ?_
    refine cg_icmp_ne C 526 (by decide) dL_isReady_502 (fun c_ => ?_) (fun c_ => ?_)
    · have h := h.1 c_
      refine cg_iconst C (x := nI 0) rfl dL_isReady_526 ?_
      obtain ⟨hb_527, h⟩ := h
      refine cg_cast (.int (bI false)) rfl ?_
      exact cg_zret C (bI_nar _) h dL_isReady_527 hb_527.1 hb_527.2
    · have h := h.2 c_
      refine cg_aload_n C (i := 0) rfl 1 rfl dL_isReady_505 ?_
      obtain ⟨hc_506, h⟩ := h
      obtain ⟨mc23, ms24, hm_1, hm_2, h⟩ := h
      refine cg_calli C (t_X11_but l mc23 ms24 x0 S_22 dp h) cc_L_154 hc_506.1 hc_506.2 (by decide) rfl rfl ⟨by decide, by decide⟩ ⟨hm_1, hm_2⟩ rfl (Nat.le_of_ble_eq_true rfl) dL_isReady_506 (fun r_25 S_25 h => ?_)
      refine cg_iconst C (x := nI 1) rfl dL_isReady_509 ?_
      refine cg_icmp_ne C 526 (by decide) dL_isReady_510 (fun c_ => ?_) (fun c_ => ?_)
      · have h := h.1 c_
        refine cg_iconst C (x := nI 0) rfl dL_isReady_526 ?_
        obtain ⟨hb_527, h⟩ := h
        refine cg_cast (.int (bI false)) rfl ?_
        exact cg_zret C (bI_nar _) h dL_isReady_527 hb_527.1 hb_527.2
      · have h := h.2 c_
        refine cg_aload_n C (i := 0) rfl 1 rfl dL_isReady_513 ?_
        obtain ⟨hc_514, h⟩ := h
        obtain ⟨mc26, ms27, hm_1, hm_2, h⟩ := h
        refine cg_calli C (t_X11_query l mc26 ms27 x0 S_25 dp h) cc_L_131 hc_514.1 hc_514.2 (by decide) rfl rfl ⟨by decide, by decide⟩ ⟨hm_1, hm_2⟩ rfl (Nat.le_of_ble_eq_true rfl) dL_isReady_514 (fun r_28 S_28 h => ?_)
        refine cg_bipush C (x := nI 8) rfl dL_isReady_517 ?_
        refine cg_icmp_ne C 526 (by decide) dL_isReady_519 (fun c_ => ?_) (fun c_ => ?_)
        · have h := h.1 c_
          refine cg_iconst C (x := nI 0) rfl dL_isReady_526 ?_
          obtain ⟨hb_527, h⟩ := h
          refine cg_cast (.int (bI false)) rfl ?_
          exact cg_zret C (bI_nar _) h dL_isReady_527 hb_527.1 hb_527.2
        · have h := h.2 c_
          refine cg_iconst C (x := nI 1) rfl dL_isReady_522 ?_
          refine cg_goto C 527 (by decide) dL_isReady_523 ?_
          obtain ⟨hb_527, h⟩ := h
          refine cg_cast (.int (bI true)) rfl ?_
          exact cg_zret C (bI_nar _) h dL_isReady_527 hb_527.1 hb_527.2
set_option maxRecDepth 20000 in
theorem tb_L_isReady_485 {mc ms : Nat} (C : cC p s m args meth c cL_isReady 2 (some .boolean) A D Y tp dp RL) {post : Int32 → cS → Prop}   (x0 : Nat) (cd dd : Nat) (S : cS) (h : k_L_isReady_485 post dp mc ms  x0 cd dd S) : cG p l e (cRm 10 mc ms 233) s m args below meth c A D Y 2 (MQ below (cQi post D Y A) args s mc ms A) cd dd 485 [(0, .ref x0)] [] S := by
  unfold k_L_isReady_485 at h
  refine cg_iconst C (x := nI 0) rfl dL_isReady_485 ?_
  exact cg_sub [0] rfl (tb_L_isReady_486 C   x0 ((nI 0)) cd dd S h)
set_option maxRecDepth 20000 in
theorem tb_L_isReady_451 {mc ms : Nat} (C : cC p s m args meth c cL_isReady 2 (some .boolean) A D Y tp dp RL) {post : Int32 → cS → Prop}   (x0 : Nat) (t0 : Int32) (cd dd : Nat) (S : cS) (h : k_L_isReady_451 post dp mc ms  x0 t0 cd dd S) : cG p l e (cRm 10 mc ms 233) s m args below meth c A D Y 2 (MQ below (cQi post D Y A) args s mc ms A) cd dd 451 [(0, .ref x0)] [.int t0] S := by
  unfold k_L_isReady_451 at h
  refine cg_istore_n C (i := 1) (lv' := [(1, .int t0), (0, .ref x0)]) rfl (Nat.le_of_ble_eq_true rfl) rfl dL_isReady_451 ?_
  refine cg_aload_n C (i := 0) rfl 1 rfl dL_isReady_452 ?_
  refine cg_bipush C (x := nI 6) rfl dL_isReady_453 ?_
  obtain ⟨hb_455, h⟩ := h
  refine cg_callsv C (t_L_types l x0 ((nI 6)) S dp h) cc_L_118 rfl ⟨by decide, by decide⟩ hb_455 rfl (Nat.le_of_ble_eq_true rfl) dL_isReady_455 (fun S_18 h => ?_)
  simp only [Nat.add_zero]
  refine cg_iload_n C (i := 1) rfl 0 rfl dL_isReady_458 ?_
  refine cg_if_eq C 485 (by decide) dL_isReady_459 (fun c_ => ?_) (fun c_ => ?_)
  · have h := h.1 c_
    exact cg_sub [1] rfl (tb_L_isReady_485 C   x0 cd dd S_18 h)
  · have h := h.2 c_
    refine cg_aload_n C (i := 0) rfl 1 rfl dL_isReady_462 ?_
    refine cg_iconst C (x := nI 0) rfl dL_isReady_463 ?_
    obtain ⟨hc_464, h⟩ := h
    obtain ⟨mc29, ms30, hm_1, hm_2, h⟩ := h
    refine cg_calli C (t_X11_term l mc29 ms30 x0 ((nI 0)) S_18 dp h) cc_L_128 hc_464.1 hc_464.2 (by decide) rfl rfl ⟨by decide, by decide⟩ ⟨hm_1, hm_2⟩ rfl (Nat.le_of_ble_eq_true rfl) dL_isReady_464 (fun r_31 S_31 h => ?_)
    refine cg_iconst C (x := nI 2) rfl dL_isReady_467 ?_
    refine cg_icmp_ne C 485 (by decide) dL_isReady_468 (fun c_ => ?_) (fun c_ => ?_)
    · have h := h.1 c_
      exact cg_sub [1] rfl (tb_L_isReady_485 C   x0 (cd + mc29) (dd + ms30) S_31 h)
    · have h := h.2 c_
      refine cg_aload_n C (i := 0) rfl 1 rfl dL_isReady_471 ?_
      refine cg_iconst C (x := nI 2) rfl dL_isReady_472 ?_
      refine cg_iconst C (x := nI 2) rfl dL_isReady_473 ?_
      obtain ⟨hc_474, h⟩ := h
      obtain ⟨mc32, ms33, hm_1, hm_2, h⟩ := h
      refine cg_calli C (t_X11_least l mc32 ms33 x0 ((nI 2)) ((nI 2)) S_31 dp h) cc_L_151 hc_474.1 hc_474.2 (by decide) rfl rfl ⟨by decide, by decide⟩ ⟨hm_1, hm_2⟩ rfl (Nat.le_of_ble_eq_true rfl) dL_isReady_474 (fun r_34 S_34 h => ?_)
      refine cg_iconst C (x := nI 1) rfl dL_isReady_477 ?_
      refine cg_icmp_ne C 485 (by decide) dL_isReady_478 (fun c_ => ?_) (fun c_ => ?_)
      · have h := h.1 c_
        exact cg_sub [1] rfl (tb_L_isReady_485 C   x0 (cd + mc29 + mc32) (dd + ms30 + ms33) S_34 h)
      · have h := h.2 c_
        refine cg_iconst C (x := nI 1) rfl dL_isReady_481 ?_
        refine cg_goto C 486 (by decide) dL_isReady_482 ?_
        exact cg_sub [1] rfl (tb_L_isReady_486 C   x0 ((nI 1)) (cd + mc29 + mc32) (dd + ms30 + ms33) S_34 h)
set_option maxRecDepth 20000 in
theorem tb_L_isReady_450 {mc ms : Nat} (C : cC p s m args meth c cL_isReady 2 (some .boolean) A D Y tp dp RL) {post : Int32 → cS → Prop}   (x0 : Nat) (cd dd : Nat) (S : cS) (h : k_L_isReady_450 post dp mc ms  x0 cd dd S) : cG p l e (cRm 10 mc ms 233) s m args below meth c A D Y 2 (MQ below (cQi post D Y A) args s mc ms A) cd dd 450 [(0, .ref x0)] [] S := by
  unfold k_L_isReady_450 at h
  refine cg_iconst C (x := nI 0) rfl dL_isReady_450 ?_
  exact cg_sub [0] rfl (tb_L_isReady_451 C   x0 ((nI 0)) cd dd S h)
set_option maxRecDepth 20000 in
theorem tb_L_isReady_427 {mc ms : Nat} (C : cC p s m args meth c cL_isReady 2 (some .boolean) A D Y tp dp RL) {post : Int32 → cS → Prop}   (x0 : Nat) (t0 : Int32) (cd dd : Nat) (S : cS) (h : k_L_isReady_427 post dp mc ms  x0 t0 cd dd S) : cG p l e (cRm 10 mc ms 233) s m args below meth c A D Y 2 (MQ below (cQi post D Y A) args s mc ms A) cd dd 427 [(0, .ref x0)] [.int t0] S := by
  unfold k_L_isReady_427 at h
  refine cg_istore_n C (i := 1) (lv' := [(1, .int t0), (0, .ref x0)]) rfl (Nat.le_of_ble_eq_true rfl) rfl dL_isReady_427 ?_
  refine cg_aload_n C (i := 0) rfl 1 rfl dL_isReady_428 ?_
  refine cg_iconst C (x := nI 1) rfl dL_isReady_429 ?_
  obtain ⟨hb_430, h⟩ := h
  refine cg_callsv C (t_L_types l x0 ((nI 1)) S dp h) cc_L_118 rfl ⟨by decide, by decide⟩ hb_430 rfl (Nat.le_of_ble_eq_true rfl) dL_isReady_430 (fun S_17 h => ?_)
  simp only [Nat.add_zero]
  refine cg_iload_n C (i := 1) rfl 0 rfl dL_isReady_433 ?_
  refine cg_if_eq C 450 (by decide) dL_isReady_434 (fun c_ => ?_) (fun c_ => ?_)
  · have h := h.1 c_
    exact cg_sub [1] rfl (tb_L_isReady_450 C   x0 cd dd S_17 h)
  · have h := h.2 c_
    refine cg_aload_n C (i := 0) rfl 1 rfl dL_isReady_437 ?_
    refine cg_iconst C (x := nI 0) rfl dL_isReady_438 ?_
    obtain ⟨hc_439, h⟩ := h
    obtain ⟨mc35, ms36, hm_1, hm_2, h⟩ := h
    refine cg_calli C (t_X11_term l mc35 ms36 x0 ((nI 0)) S_17 dp h) cc_L_128 hc_439.1 hc_439.2 (by decide) rfl rfl ⟨by decide, by decide⟩ ⟨hm_1, hm_2⟩ rfl (Nat.le_of_ble_eq_true rfl) dL_isReady_439 (fun r_37 S_37 h => ?_)
    refine cg_iconst C (x := nI 1) rfl dL_isReady_442 ?_
    refine cg_icmp_ne C 450 (by decide) dL_isReady_443 (fun c_ => ?_) (fun c_ => ?_)
    · have h := h.1 c_
      exact cg_sub [1] rfl (tb_L_isReady_450 C   x0 (cd + mc35) (dd + ms36) S_37 h)
    · have h := h.2 c_
      refine cg_iconst C (x := nI 1) rfl dL_isReady_446 ?_
      refine cg_goto C 451 (by decide) dL_isReady_447 ?_
      exact cg_sub [1] rfl (tb_L_isReady_451 C   x0 ((nI 1)) (cd + mc35) (dd + ms36) S_37 h)
set_option maxRecDepth 20000 in
theorem tb_L_isReady_426 {mc ms : Nat} (C : cC p s m args meth c cL_isReady 2 (some .boolean) A D Y tp dp RL) {post : Int32 → cS → Prop}   (x0 : Nat) (cd dd : Nat) (S : cS) (h : k_L_isReady_426 post dp mc ms  x0 cd dd S) : cG p l e (cRm 10 mc ms 233) s m args below meth c A D Y 2 (MQ below (cQi post D Y A) args s mc ms A) cd dd 426 [(0, .ref x0)] [] S := by
  unfold k_L_isReady_426 at h
  refine cg_iconst C (x := nI 0) rfl dL_isReady_426 ?_
  exact cg_sub [0] rfl (tb_L_isReady_427 C   x0 ((nI 0)) cd dd S h)
set_option maxRecDepth 20000 in
theorem tb_L_isReady_384 {mc ms : Nat} (C : cC p s m args meth c cL_isReady 2 (some .boolean) A D Y tp dp RL) {post : Int32 → cS → Prop}   (x0 : Nat) (t0 : Int32) (cd dd : Nat) (S : cS) (h : k_L_isReady_384 post dp mc ms  x0 t0 cd dd S) : cG p l e (cRm 10 mc ms 233) s m args below meth c A D Y 2 (MQ below (cQi post D Y A) args s mc ms A) cd dd 384 [(0, .ref x0)] [.int t0] S := by
  unfold k_L_isReady_384 at h
  refine cg_istore_n C (i := 1) (lv' := [(1, .int t0), (0, .ref x0)]) rfl (Nat.le_of_ble_eq_true rfl) rfl dL_isReady_384 ?_
  refine cg_aload_n C (i := 0) rfl 1 rfl dL_isReady_385 ?_
  refine cg_iconst C (x := nI 5) rfl dL_isReady_386 ?_
  obtain ⟨hb_387, h⟩ := h
  refine cg_callsv C (t_L_types l x0 ((nI 5)) S dp h) cc_L_118 rfl ⟨by decide, by decide⟩ hb_387 rfl (Nat.le_of_ble_eq_true rfl) dL_isReady_387 (fun S_16 h => ?_)
  simp only [Nat.add_zero]
  refine cg_iload_n C (i := 1) rfl 0 rfl dL_isReady_390 ?_
  refine cg_if_eq C 426 (by decide) dL_isReady_391 (fun c_ => ?_) (fun c_ => ?_)
  · have h := h.1 c_
    exact cg_sub [1] rfl (tb_L_isReady_426 C   x0 cd dd S_16 h)
  · have h := h.2 c_
    refine cg_aload_n C (i := 0) rfl 1 rfl dL_isReady_394 ?_
    refine cg_iconst C (x := nI 0) rfl dL_isReady_395 ?_
    obtain ⟨hc_396, h⟩ := h
    obtain ⟨mc38, ms39, hm_1, hm_2, h⟩ := h
    refine cg_calli C (t_X11_term l mc38 ms39 x0 ((nI 0)) S_16 dp h) cc_L_128 hc_396.1 hc_396.2 (by decide) rfl rfl ⟨by decide, by decide⟩ ⟨hm_1, hm_2⟩ rfl (Nat.le_of_ble_eq_true rfl) dL_isReady_396 (fun r_40 S_40 h => ?_)
    refine cg_iconst C (x := nI 3) rfl dL_isReady_399 ?_
    refine cg_icmp_ne C 426 (by decide) dL_isReady_400 (fun c_ => ?_) (fun c_ => ?_)
    · have h := h.1 c_
      exact cg_sub [1] rfl (tb_L_isReady_426 C   x0 (cd + mc38) (dd + ms39) S_40 h)
    · have h := h.2 c_
      refine cg_aload_n C (i := 0) rfl 1 rfl dL_isReady_403 ?_
      refine cg_iconst C (x := nI 3) rfl dL_isReady_404 ?_
      refine cg_iconst C (x := nI 1) rfl dL_isReady_405 ?_
      obtain ⟨hc_406, h⟩ := h
      obtain ⟨mc41, ms42, hm_1, hm_2, h⟩ := h
      refine cg_calli C (t_X11_least l mc41 ms42 x0 ((nI 3)) ((nI 1)) S_40 dp h) cc_L_151 hc_406.1 hc_406.2 (by decide) rfl rfl ⟨by decide, by decide⟩ ⟨hm_1, hm_2⟩ rfl (Nat.le_of_ble_eq_true rfl) dL_isReady_406 (fun r_43 S_43 h => ?_)
      refine cg_iconst C (x := nI 1) rfl dL_isReady_409 ?_
      refine cg_icmp_ne C 426 (by decide) dL_isReady_410 (fun c_ => ?_) (fun c_ => ?_)
      · have h := h.1 c_
        exact cg_sub [1] rfl (tb_L_isReady_426 C   x0 (cd + mc38 + mc41) (dd + ms39 + ms42) S_43 h)
      · have h := h.2 c_
        refine cg_aload_n C (i := 0) rfl 1 rfl dL_isReady_413 ?_
        obtain ⟨hc_414, h⟩ := h
        obtain ⟨mc44, ms45, hm_1, hm_2, h⟩ := h
        refine cg_calli C (t_X11_query l mc44 ms45 x0 S_43 dp h) cc_L_131 hc_414.1 hc_414.2 (by decide) rfl rfl ⟨by decide, by decide⟩ ⟨hm_1, hm_2⟩ rfl (Nat.le_of_ble_eq_true rfl) dL_isReady_414 (fun r_46 S_46 h => ?_)
        refine cg_bipush C (x := nI 7) rfl dL_isReady_417 ?_
        refine cg_icmp_ne C 426 (by decide) dL_isReady_419 (fun c_ => ?_) (fun c_ => ?_)
        · have h := h.1 c_
          exact cg_sub [1] rfl (tb_L_isReady_426 C   x0 (cd + mc38 + mc41 + mc44) (dd + ms39 + ms42 + ms45) S_46 h)
        · have h := h.2 c_
          refine cg_iconst C (x := nI 1) rfl dL_isReady_422 ?_
          refine cg_goto C 427 (by decide) dL_isReady_423 ?_
          exact cg_sub [1] rfl (tb_L_isReady_427 C   x0 ((nI 1)) (cd + mc38 + mc41 + mc44) (dd + ms39 + ms42 + ms45) S_46 h)
set_option maxRecDepth 20000 in
theorem tb_L_isReady_383 {mc ms : Nat} (C : cC p s m args meth c cL_isReady 2 (some .boolean) A D Y tp dp RL) {post : Int32 → cS → Prop}   (x0 : Nat) (cd dd : Nat) (S : cS) (h : k_L_isReady_383 post dp mc ms  x0 cd dd S) : cG p l e (cRm 10 mc ms 233) s m args below meth c A D Y 2 (MQ below (cQi post D Y A) args s mc ms A) cd dd 383 [(0, .ref x0)] [] S := by
  unfold k_L_isReady_383 at h
  refine cg_iconst C (x := nI 0) rfl dL_isReady_383 ?_
  exact cg_sub [0] rfl (tb_L_isReady_384 C   x0 ((nI 0)) cd dd S h)
set_option maxRecDepth 20000 in
theorem tb_L_isReady_360 {mc ms : Nat} (C : cC p s m args meth c cL_isReady 2 (some .boolean) A D Y tp dp RL) {post : Int32 → cS → Prop}   (x0 : Nat) (t0 : Int32) (cd dd : Nat) (S : cS) (h : k_L_isReady_360 post dp mc ms  x0 t0 cd dd S) : cG p l e (cRm 10 mc ms 233) s m args below meth c A D Y 2 (MQ below (cQi post D Y A) args s mc ms A) cd dd 360 [(0, .ref x0)] [.int t0] S := by
  unfold k_L_isReady_360 at h
  refine cg_istore_n C (i := 1) (lv' := [(1, .int t0), (0, .ref x0)]) rfl (Nat.le_of_ble_eq_true rfl) rfl dL_isReady_360 ?_
  refine cg_aload_n C (i := 0) rfl 1 rfl dL_isReady_361 ?_
  refine cg_iconst C (x := nI 4) rfl dL_isReady_362 ?_
  obtain ⟨hb_363, h⟩ := h
  refine cg_callsv C (t_L_types l x0 ((nI 4)) S dp h) cc_L_118 rfl ⟨by decide, by decide⟩ hb_363 rfl (Nat.le_of_ble_eq_true rfl) dL_isReady_363 (fun S_15 h => ?_)
  simp only [Nat.add_zero]
  refine cg_iload_n C (i := 1) rfl 0 rfl dL_isReady_366 ?_
  refine cg_if_eq C 383 (by decide) dL_isReady_367 (fun c_ => ?_) (fun c_ => ?_)
  · have h := h.1 c_
    exact cg_sub [1] rfl (tb_L_isReady_383 C   x0 cd dd S_15 h)
  · have h := h.2 c_
    refine cg_aload_n C (i := 0) rfl 1 rfl dL_isReady_370 ?_
    refine cg_iconst C (x := nI 1) rfl dL_isReady_371 ?_
    obtain ⟨hc_372, h⟩ := h
    obtain ⟨mc47, ms48, hm_1, hm_2, h⟩ := h
    refine cg_calli C (t_X11_term l mc47 ms48 x0 ((nI 1)) S_15 dp h) cc_L_128 hc_372.1 hc_372.2 (by decide) rfl rfl ⟨by decide, by decide⟩ ⟨hm_1, hm_2⟩ rfl (Nat.le_of_ble_eq_true rfl) dL_isReady_372 (fun r_49 S_49 h => ?_)
    refine cg_iconst C (x := nI 2) rfl dL_isReady_375 ?_
    refine cg_icmp_ne C 383 (by decide) dL_isReady_376 (fun c_ => ?_) (fun c_ => ?_)
    · have h := h.1 c_
      exact cg_sub [1] rfl (tb_L_isReady_383 C   x0 (cd + mc47) (dd + ms48) S_49 h)
    · have h := h.2 c_
      refine cg_iconst C (x := nI 1) rfl dL_isReady_379 ?_
      refine cg_goto C 384 (by decide) dL_isReady_380 ?_
      exact cg_sub [1] rfl (tb_L_isReady_384 C   x0 ((nI 1)) (cd + mc47) (dd + ms48) S_49 h)
set_option maxRecDepth 20000 in
theorem tb_L_isReady_359 {mc ms : Nat} (C : cC p s m args meth c cL_isReady 2 (some .boolean) A D Y tp dp RL) {post : Int32 → cS → Prop}   (x0 : Nat) (cd dd : Nat) (S : cS) (h : k_L_isReady_359 post dp mc ms  x0 cd dd S) : cG p l e (cRm 10 mc ms 233) s m args below meth c A D Y 2 (MQ below (cQi post D Y A) args s mc ms A) cd dd 359 [(0, .ref x0)] [] S := by
  unfold k_L_isReady_359 at h
  refine cg_iconst C (x := nI 0) rfl dL_isReady_359 ?_
  exact cg_sub [0] rfl (tb_L_isReady_360 C   x0 ((nI 0)) cd dd S h)
set_option maxRecDepth 20000 in
theorem tb_L_isReady_336 {mc ms : Nat} (C : cC p s m args meth c cL_isReady 2 (some .boolean) A D Y tp dp RL) {post : Int32 → cS → Prop}   (x0 : Nat) (t0 : Int32) (cd dd : Nat) (S : cS) (h : k_L_isReady_336 post dp mc ms  x0 t0 cd dd S) : cG p l e (cRm 10 mc ms 233) s m args below meth c A D Y 2 (MQ below (cQi post D Y A) args s mc ms A) cd dd 336 [(0, .ref x0)] [.int t0] S := by
  unfold k_L_isReady_336 at h
  refine cg_istore_n C (i := 1) (lv' := [(1, .int t0), (0, .ref x0)]) rfl (Nat.le_of_ble_eq_true rfl) rfl dL_isReady_336 ?_
  refine cg_aload_n C (i := 0) rfl 1 rfl dL_isReady_337 ?_
  refine cg_iconst C (x := nI 1) rfl dL_isReady_338 ?_
  obtain ⟨hb_339, h⟩ := h
  refine cg_callsv C (t_L_types l x0 ((nI 1)) S dp h) cc_L_118 rfl ⟨by decide, by decide⟩ hb_339 rfl (Nat.le_of_ble_eq_true rfl) dL_isReady_339 (fun S_14 h => ?_)
  simp only [Nat.add_zero]
  refine cg_iload_n C (i := 1) rfl 0 rfl dL_isReady_342 ?_
  refine cg_if_eq C 359 (by decide) dL_isReady_343 (fun c_ => ?_) (fun c_ => ?_)
  · have h := h.1 c_
    exact cg_sub [1] rfl (tb_L_isReady_359 C   x0 cd dd S_14 h)
  · have h := h.2 c_
    refine cg_aload_n C (i := 0) rfl 1 rfl dL_isReady_346 ?_
    refine cg_iconst C (x := nI 0) rfl dL_isReady_347 ?_
    obtain ⟨hc_348, h⟩ := h
    obtain ⟨mc50, ms51, hm_1, hm_2, h⟩ := h
    refine cg_calli C (t_X11_term l mc50 ms51 x0 ((nI 0)) S_14 dp h) cc_L_128 hc_348.1 hc_348.2 (by decide) rfl rfl ⟨by decide, by decide⟩ ⟨hm_1, hm_2⟩ rfl (Nat.le_of_ble_eq_true rfl) dL_isReady_348 (fun r_52 S_52 h => ?_)
    refine cg_iconst C (x := nI 1) rfl dL_isReady_351 ?_
    refine cg_icmp_ne C 359 (by decide) dL_isReady_352 (fun c_ => ?_) (fun c_ => ?_)
    · have h := h.1 c_
      exact cg_sub [1] rfl (tb_L_isReady_359 C   x0 (cd + mc50) (dd + ms51) S_52 h)
    · have h := h.2 c_
      refine cg_iconst C (x := nI 1) rfl dL_isReady_355 ?_
      refine cg_goto C 360 (by decide) dL_isReady_356 ?_
      exact cg_sub [1] rfl (tb_L_isReady_360 C   x0 ((nI 1)) (cd + mc50) (dd + ms51) S_52 h)
set_option maxRecDepth 20000 in
theorem tb_L_isReady_335 {mc ms : Nat} (C : cC p s m args meth c cL_isReady 2 (some .boolean) A D Y tp dp RL) {post : Int32 → cS → Prop}   (x0 : Nat) (cd dd : Nat) (S : cS) (h : k_L_isReady_335 post dp mc ms  x0 cd dd S) : cG p l e (cRm 10 mc ms 233) s m args below meth c A D Y 2 (MQ below (cQi post D Y A) args s mc ms A) cd dd 335 [(0, .ref x0)] [] S := by
  unfold k_L_isReady_335 at h
  refine cg_iconst C (x := nI 0) rfl dL_isReady_335 ?_
  exact cg_sub [0] rfl (tb_L_isReady_336 C   x0 ((nI 0)) cd dd S h)
set_option maxRecDepth 20000 in
theorem tb_L_isReady_154 {mc ms : Nat} (C : cC p s m args meth c cL_isReady 2 (some .boolean) A D Y tp dp RL) {post : Int32 → cS → Prop}   (x0 : Nat) (t0 : Int32) (cd dd : Nat) (S : cS) (h : k_L_isReady_154 post dp mc ms  x0 t0 cd dd S) : cG p l e (cRm 10 mc ms 233) s m args below meth c A D Y 2 (MQ below (cQi post D Y A) args s mc ms A) cd dd 154 [(0, .ref x0)] [.int t0] S := by
  unfold k_L_isReady_154 at h
  refine cg_istore_n C (i := 1) (lv' := [(1, .int t0), (0, .ref x0)]) rfl (Nat.le_of_ble_eq_true rfl) rfl dL_isReady_154 ?_
  refine cg_aload_n C (i := 0) rfl 1 rfl dL_isReady_155 ?_
  refine cg_iconst C (x := nI 2) rfl dL_isReady_156 ?_
  obtain ⟨hb_157, h⟩ := h
  refine cg_callsv C (t_L_types l x0 ((nI 2)) S dp h) cc_L_118 rfl ⟨by decide, by decide⟩ hb_157 rfl (Nat.le_of_ble_eq_true rfl) dL_isReady_157 (fun S_12 h => ?_)
  simp only [Nat.add_zero]
  refine cg_aload_n C (i := 0) rfl 1 rfl dL_isReady_160 ?_
  refine cg_iconst C (x := nI 5) rfl dL_isReady_161 ?_
  obtain ⟨hb_162, h⟩ := h
  refine cg_callsv C (t_L_types l x0 ((nI 5)) S_12 dp h) cc_L_118 rfl ⟨by decide, by decide⟩ hb_162 rfl (Nat.le_of_ble_eq_true rfl) dL_isReady_162 (fun S_13 h => ?_)
  simp only [Nat.add_zero]
  refine cg_iload_n C (i := 1) rfl 0 rfl dL_isReady_165 ?_
  refine cg_if_eq C 335 (by decide) dL_isReady_166 (fun c_ => ?_) (fun c_ => ?_)
  · have h := h.1 c_
    exact cg_sub [1] rfl (tb_L_isReady_335 C   x0 cd dd S_13 h)
  · have h := h.2 c_
    refine cg_aload_n C (i := 0) rfl 1 rfl dL_isReady_169 ?_
    refine cg_iconst C (x := nI 0) rfl dL_isReady_170 ?_
    refine cg_iconst C (x := nI 2) rfl dL_isReady_171 ?_
    refine cg_iconst C (x := nI 0) rfl dL_isReady_172 ?_
    obtain ⟨hc_173, h⟩ := h
    obtain ⟨mc53, ms54, hm_1, hm_2, h⟩ := h
    refine cg_calli C (t_X11_near l mc53 ms54 x0 ((nI 0)) ((nI 2)) ((nI 0)) S_13 dp h) cc_L_138 hc_173.1 hc_173.2 (by decide) rfl rfl ⟨by decide, by decide⟩ ⟨hm_1, hm_2⟩ rfl (Nat.le_of_ble_eq_true rfl) dL_isReady_173 (fun r_55 S_55 h => ?_)
    refine cg_iconst C (x := nI 1) rfl dL_isReady_176 ?_
    refine cg_icmp_ne C 335 (by decide) dL_isReady_177 (fun c_ => ?_) (fun c_ => ?_)
    · have h := h.1 c_
      exact cg_sub [1] rfl (tb_L_isReady_335 C   x0 (cd + mc53) (dd + ms54) S_55 h)
    · have h := h.2 c_
      refine cg_aload_n C (i := 0) rfl 1 rfl dL_isReady_180 ?_
      obtain ⟨hc_181, h⟩ := h
      obtain ⟨mc56, ms57, hm_1, hm_2, h⟩ := h
      refine cg_calli C (t_X11_query l mc56 ms57 x0 S_55 dp h) cc_L_131 hc_181.1 hc_181.2 (by decide) rfl rfl ⟨by decide, by decide⟩ ⟨hm_1, hm_2⟩ rfl (Nat.le_of_ble_eq_true rfl) dL_isReady_181 (fun r_58 S_58 h => ?_)
      refine cg_iconst C (x := nI 3) rfl dL_isReady_184 ?_
      refine cg_icmp_ne C 335 (by decide) dL_isReady_185 (fun c_ => ?_) (fun c_ => ?_)
      · have h := h.1 c_
        exact cg_sub [1] rfl (tb_L_isReady_335 C   x0 (cd + mc53 + mc56) (dd + ms54 + ms57) S_58 h)
      · have h := h.2 c_
        refine cg_aload_n C (i := 0) rfl 1 rfl dL_isReady_188 ?_
        refine cg_bipush C (x := nI 114) rfl dL_isReady_189 ?_
        obtain ⟨hc_191, h⟩ := h
        obtain ⟨hb_191, h⟩ := h
        refine cg_calli C (t_X11_type l x0 ((nI 114)) S_58 dp h) cc_L_114 hc_191.1 hc_191.2 (by decide) rfl rfl ⟨by decide, by decide⟩ hb_191 rfl (Nat.le_of_ble_eq_true rfl) dL_isReady_191 (fun r_59 S_59 h => ?_)
        simp only [Nat.add_zero]
        refine cg_iconst C (x := nI 1) rfl dL_isReady_194 ?_
        refine cg_icmp_ne C 335 (by decide) dL_isReady_195 (fun c_ => ?_) (fun c_ => ?_)
        · have h := h.1 c_
          exact cg_sub [1] rfl (tb_L_isReady_335 C   x0 (cd + mc53 + mc56) (dd + ms54 + ms57) S_59 h)
        · have h := h.2 c_
          refine cg_aload_n C (i := 0) rfl 1 rfl dL_isReady_198 ?_
          refine cg_bipush C (x := nI 85) rfl dL_isReady_199 ?_
          obtain ⟨hc_201, h⟩ := h
          obtain ⟨hb_201, h⟩ := h
          refine cg_calli C (t_X11_type l x0 ((nI 85)) S_59 dp h) cc_L_114 hc_201.1 hc_201.2 (by decide) rfl rfl ⟨by decide, by decide⟩ hb_201 rfl (Nat.le_of_ble_eq_true rfl) dL_isReady_201 (fun r_60 S_60 h => ?_)
          simp only [Nat.add_zero]
          refine cg_iconst C (x := nI 2) rfl dL_isReady_204 ?_
          refine cg_icmp_ne C 335 (by decide) dL_isReady_205 (fun c_ => ?_) (fun c_ => ?_)
          · have h := h.1 c_
            exact cg_sub [1] rfl (tb_L_isReady_335 C   x0 (cd + mc53 + mc56) (dd + ms54 + ms57) S_60 h)
          · have h := h.2 c_
            refine cg_aload_n C (i := 0) rfl 1 rfl dL_isReady_208 ?_
            refine cg_iconst C (x := nI 0) rfl dL_isReady_209 ?_
            obtain ⟨hc_210, h⟩ := h
            obtain ⟨mc61, ms62, hm_1, hm_2, h⟩ := h
            refine cg_calli C (t_X11_prefix l mc61 ms62 x0 ((nI 0)) S_60 dp h) cc_L_142 hc_210.1 hc_210.2 (by decide) rfl rfl ⟨by decide, by decide⟩ ⟨hm_1, hm_2⟩ rfl (Nat.le_of_ble_eq_true rfl) dL_isReady_210 (fun r_63 S_63 h => ?_)
            refine cg_iconst C (x := nI 1) rfl dL_isReady_213 ?_
            refine cg_icmp_ne C 335 (by decide) dL_isReady_214 (fun c_ => ?_) (fun c_ => ?_)
            · have h := h.1 c_
              exact cg_sub [1] rfl (tb_L_isReady_335 C   x0 (cd + mc53 + mc56 + mc61) (dd + ms54 + ms57 + ms62) S_63 h)
            · have h := h.2 c_
              refine cg_aload_n C (i := 0) rfl 1 rfl dL_isReady_217 ?_
              obtain ⟨hc_218, h⟩ := h
              obtain ⟨mc64, ms65, hm_1, hm_2, h⟩ := h
              refine cg_calli C (t_X11_query l mc64 ms65 x0 S_63 dp h) cc_L_131 hc_218.1 hc_218.2 (by decide) rfl rfl ⟨by decide, by decide⟩ ⟨hm_1, hm_2⟩ rfl (Nat.le_of_ble_eq_true rfl) dL_isReady_218 (fun r_66 S_66 h => ?_)
              refine cg_iconst C (x := nI 4) rfl dL_isReady_221 ?_
              refine cg_icmp_ne C 335 (by decide) dL_isReady_222 (fun c_ => ?_) (fun c_ => ?_)
              · have h := h.1 c_
                exact cg_sub [1] rfl (tb_L_isReady_335 C   x0 (cd + mc53 + mc56 + mc61 + mc64) (dd + ms54 + ms57 + ms62 + ms65) S_66 h)
              · have h := h.2 c_
                refine cg_aload_n C (i := 0) rfl 1 rfl dL_isReady_225 ?_
                refine cg_bipush C (x := nI 63) rfl dL_isReady_226 ?_
                obtain ⟨hc_228, h⟩ := h
                obtain ⟨hb_228, h⟩ := h
                refine cg_calli C (t_X11_type l x0 ((nI 63)) S_66 dp h) cc_L_114 hc_228.1 hc_228.2 (by decide) rfl rfl ⟨by decide, by decide⟩ hb_228 rfl (Nat.le_of_ble_eq_true rfl) dL_isReady_228 (fun r_67 S_67 h => ?_)
                simp only [Nat.add_zero]
                refine cg_iconst C (x := nI 1) rfl dL_isReady_231 ?_
                refine cg_icmp_ne C 335 (by decide) dL_isReady_232 (fun c_ => ?_) (fun c_ => ?_)
                · have h := h.1 c_
                  exact cg_sub [1] rfl (tb_L_isReady_335 C   x0 (cd + mc53 + mc56 + mc61 + mc64) (dd + ms54 + ms57 + ms62 + ms65) S_67 h)
                · have h := h.2 c_
                  refine cg_aload_n C (i := 0) rfl 1 rfl dL_isReady_235 ?_
                  refine cg_bipush C (x := nI 111) rfl dL_isReady_236 ?_
                  obtain ⟨hc_238, h⟩ := h
                  obtain ⟨hb_238, h⟩ := h
                  refine cg_calli C (t_X11_type l x0 ((nI 111)) S_67 dp h) cc_L_114 hc_238.1 hc_238.2 (by decide) rfl rfl ⟨by decide, by decide⟩ hb_238 rfl (Nat.le_of_ble_eq_true rfl) dL_isReady_238 (fun r_68 S_68 h => ?_)
                  simp only [Nat.add_zero]
                  refine cg_iconst C (x := nI 2) rfl dL_isReady_241 ?_
                  refine cg_icmp_ne C 335 (by decide) dL_isReady_242 (fun c_ => ?_) (fun c_ => ?_)
                  · have h := h.1 c_
                    exact cg_sub [1] rfl (tb_L_isReady_335 C   x0 (cd + mc53 + mc56 + mc61 + mc64) (dd + ms54 + ms57 + ms62 + ms65) S_68 h)
                  · have h := h.2 c_
                    refine cg_aload_n C (i := 0) rfl 1 rfl dL_isReady_245 ?_
                    refine cg_bipush C (x := nI 42) rfl dL_isReady_246 ?_
                    obtain ⟨hc_248, h⟩ := h
                    obtain ⟨hb_248, h⟩ := h
                    refine cg_calli C (t_X11_type l x0 ((nI 42)) S_68 dp h) cc_L_114 hc_248.1 hc_248.2 (by decide) rfl rfl ⟨by decide, by decide⟩ hb_248 rfl (Nat.le_of_ble_eq_true rfl) dL_isReady_248 (fun r_69 S_69 h => ?_)
                    simp only [Nat.add_zero]
                    refine cg_iconst C (x := nI 3) rfl dL_isReady_251 ?_
                    refine cg_icmp_ne C 335 (by decide) dL_isReady_252 (fun c_ => ?_) (fun c_ => ?_)
                    · have h := h.1 c_
                      exact cg_sub [1] rfl (tb_L_isReady_335 C   x0 (cd + mc53 + mc56 + mc61 + mc64) (dd + ms54 + ms57 + ms62 + ms65) S_69 h)
                    · have h := h.2 c_
                      refine cg_aload_n C (i := 0) rfl 1 rfl dL_isReady_255 ?_
                      refine cg_bipush C (x := nI 115) rfl dL_isReady_256 ?_
                      obtain ⟨hc_258, h⟩ := h
                      obtain ⟨hb_258, h⟩ := h
                      refine cg_calli C (t_X11_type l x0 ((nI 115)) S_69 dp h) cc_L_114 hc_258.1 hc_258.2 (by decide) rfl rfl ⟨by decide, by decide⟩ hb_258 rfl (Nat.le_of_ble_eq_true rfl) dL_isReady_258 (fun r_70 S_70 h => ?_)
                      simp only [Nat.add_zero]
                      refine cg_iconst C (x := nI 4) rfl dL_isReady_261 ?_
                      refine cg_icmp_ne C 335 (by decide) dL_isReady_262 (fun c_ => ?_) (fun c_ => ?_)
                      · have h := h.1 c_
                        exact cg_sub [1] rfl (tb_L_isReady_335 C   x0 (cd + mc53 + mc56 + mc61 + mc64) (dd + ms54 + ms57 + ms62 + ms65) S_70 h)
                      · have h := h.2 c_
                        refine cg_aload_n C (i := 0) rfl 1 rfl dL_isReady_265 ?_
                        refine cg_iconst C (x := nI 1) rfl dL_isReady_266 ?_
                        obtain ⟨hc_267, h⟩ := h
                        obtain ⟨mc71, ms72, hm_1, hm_2, h⟩ := h
                        refine cg_calli C (t_X11_wild l mc71 ms72 x0 ((nI 1)) S_70 dp h) cc_L_145 hc_267.1 hc_267.2 (by decide) rfl rfl ⟨by decide, by decide⟩ ⟨hm_1, hm_2⟩ rfl (Nat.le_of_ble_eq_true rfl) dL_isReady_267 (fun r_73 S_73 h => ?_)
                        refine cg_iconst C (x := nI 1) rfl dL_isReady_270 ?_
                        refine cg_icmp_ne C 335 (by decide) dL_isReady_271 (fun c_ => ?_) (fun c_ => ?_)
                        · have h := h.1 c_
                          exact cg_sub [1] rfl (tb_L_isReady_335 C   x0 (cd + mc53 + mc56 + mc61 + mc64 + mc71) (dd + ms54 + ms57 + ms62 + ms65 + ms72) S_73 h)
                        · have h := h.2 c_
                          refine cg_aload_n C (i := 0) rfl 1 rfl dL_isReady_274 ?_
                          obtain ⟨hc_275, h⟩ := h
                          obtain ⟨mc74, ms75, hm_1, hm_2, h⟩ := h
                          refine cg_calli C (t_X11_query l mc74 ms75 x0 S_73 dp h) cc_L_131 hc_275.1 hc_275.2 (by decide) rfl rfl ⟨by decide, by decide⟩ ⟨hm_1, hm_2⟩ rfl (Nat.le_of_ble_eq_true rfl) dL_isReady_275 (fun r_76 S_76 h => ?_)
                          refine cg_iconst C (x := nI 5) rfl dL_isReady_278 ?_
                          refine cg_icmp_ne C 335 (by decide) dL_isReady_279 (fun c_ => ?_) (fun c_ => ?_)
                          · have h := h.1 c_
                            exact cg_sub [1] rfl (tb_L_isReady_335 C   x0 (cd + mc53 + mc56 + mc61 + mc64 + mc71 + mc74) (dd + ms54 + ms57 + ms62 + ms65 + ms72 + ms75) S_76 h)
                          · have h := h.2 c_
                            refine cg_aload_n C (i := 0) rfl 1 rfl dL_isReady_282 ?_
                            refine cg_bipush C (x := nI 99) rfl dL_isReady_283 ?_
                            obtain ⟨hc_285, h⟩ := h
                            obtain ⟨hb_285, h⟩ := h
                            refine cg_calli C (t_X11_type l x0 ((nI 99)) S_76 dp h) cc_L_114 hc_285.1 hc_285.2 (by decide) rfl rfl ⟨by decide, by decide⟩ hb_285 rfl (Nat.le_of_ble_eq_true rfl) dL_isReady_285 (fun r_77 S_77 h => ?_)
                            simp only [Nat.add_zero]
                            refine cg_iconst C (x := nI 1) rfl dL_isReady_288 ?_
                            refine cg_icmp_ne C 335 (by decide) dL_isReady_289 (fun c_ => ?_) (fun c_ => ?_)
                            · have h := h.1 c_
                              exact cg_sub [1] rfl (tb_L_isReady_335 C   x0 (cd + mc53 + mc56 + mc61 + mc64 + mc71 + mc74) (dd + ms54 + ms57 + ms62 + ms65 + ms72 + ms75) S_77 h)
                            · have h := h.2 c_
                              refine cg_aload_n C (i := 0) rfl 1 rfl dL_isReady_292 ?_
                              refine cg_bipush C (x := nI 111) rfl dL_isReady_293 ?_
                              obtain ⟨hc_295, h⟩ := h
                              obtain ⟨hb_295, h⟩ := h
                              refine cg_calli C (t_X11_type l x0 ((nI 111)) S_77 dp h) cc_L_114 hc_295.1 hc_295.2 (by decide) rfl rfl ⟨by decide, by decide⟩ hb_295 rfl (Nat.le_of_ble_eq_true rfl) dL_isReady_295 (fun r_78 S_78 h => ?_)
                              simp only [Nat.add_zero]
                              refine cg_iconst C (x := nI 2) rfl dL_isReady_298 ?_
                              refine cg_icmp_ne C 335 (by decide) dL_isReady_299 (fun c_ => ?_) (fun c_ => ?_)
                              · have h := h.1 c_
                                exact cg_sub [1] rfl (tb_L_isReady_335 C   x0 (cd + mc53 + mc56 + mc61 + mc64 + mc71 + mc74) (dd + ms54 + ms57 + ms62 + ms65 + ms72 + ms75) S_78 h)
                              · have h := h.2 c_
                                refine cg_aload_n C (i := 0) rfl 1 rfl dL_isReady_302 ?_
                                refine cg_bipush C (x := nI 116) rfl dL_isReady_303 ?_
                                obtain ⟨hc_305, h⟩ := h
                                obtain ⟨hb_305, h⟩ := h
                                refine cg_calli C (t_X11_type l x0 ((nI 116)) S_78 dp h) cc_L_114 hc_305.1 hc_305.2 (by decide) rfl rfl ⟨by decide, by decide⟩ hb_305 rfl (Nat.le_of_ble_eq_true rfl) dL_isReady_305 (fun r_79 S_79 h => ?_)
                                simp only [Nat.add_zero]
                                refine cg_iconst C (x := nI 3) rfl dL_isReady_308 ?_
                                refine cg_icmp_ne C 335 (by decide) dL_isReady_309 (fun c_ => ?_) (fun c_ => ?_)
                                · have h := h.1 c_
                                  exact cg_sub [1] rfl (tb_L_isReady_335 C   x0 (cd + mc53 + mc56 + mc61 + mc64 + mc71 + mc74) (dd + ms54 + ms57 + ms62 + ms65 + ms72 + ms75) S_79 h)
                                · have h := h.2 c_
                                  refine cg_aload_n C (i := 0) rfl 1 rfl dL_isReady_312 ?_
                                  refine cg_iconst C (x := nI 0) rfl dL_isReady_313 ?_
                                  refine cg_iconst C (x := nI 1) rfl dL_isReady_314 ?_
                                  obtain ⟨hc_315, h⟩ := h
                                  obtain ⟨mc80, ms81, hm_1, hm_2, h⟩ := h
                                  refine cg_calli C (t_X11_fuzzy l mc80 ms81 x0 ((nI 0)) ((nI 1)) S_79 dp h) cc_L_148 hc_315.1 hc_315.2 (by decide) rfl rfl ⟨by decide, by decide⟩ ⟨hm_1, hm_2⟩ rfl (Nat.le_of_ble_eq_true rfl) dL_isReady_315 (fun r_82 S_82 h => ?_)
                                  refine cg_iconst C (x := nI 1) rfl dL_isReady_318 ?_
                                  refine cg_icmp_ne C 335 (by decide) dL_isReady_319 (fun c_ => ?_) (fun c_ => ?_)
                                  · have h := h.1 c_
                                    exact cg_sub [1] rfl (tb_L_isReady_335 C   x0 (cd + mc53 + mc56 + mc61 + mc64 + mc71 + mc74 + mc80) (dd + ms54 + ms57 + ms62 + ms65 + ms72 + ms75 + ms81) S_82 h)
                                  · have h := h.2 c_
                                    refine cg_aload_n C (i := 0) rfl 1 rfl dL_isReady_322 ?_
                                    obtain ⟨hc_323, h⟩ := h
                                    obtain ⟨mc83, ms84, hm_1, hm_2, h⟩ := h
                                    refine cg_calli C (t_X11_query l mc83 ms84 x0 S_82 dp h) cc_L_131 hc_323.1 hc_323.2 (by decide) rfl rfl ⟨by decide, by decide⟩ ⟨hm_1, hm_2⟩ rfl (Nat.le_of_ble_eq_true rfl) dL_isReady_323 (fun r_85 S_85 h => ?_)
                                    refine cg_bipush C (x := nI 6) rfl dL_isReady_326 ?_
                                    refine cg_icmp_ne C 335 (by decide) dL_isReady_328 (fun c_ => ?_) (fun c_ => ?_)
                                    · have h := h.1 c_
                                      exact cg_sub [1] rfl (tb_L_isReady_335 C   x0 (cd + mc53 + mc56 + mc61 + mc64 + mc71 + mc74 + mc80 + mc83) (dd + ms54 + ms57 + ms62 + ms65 + ms72 + ms75 + ms81 + ms84) S_85 h)
                                    · have h := h.2 c_
                                      refine cg_iconst C (x := nI 1) rfl dL_isReady_331 ?_
                                      refine cg_goto C 336 (by decide) dL_isReady_332 ?_
                                      exact cg_sub [1] rfl (tb_L_isReady_336 C   x0 ((nI 1)) (cd + mc53 + mc56 + mc61 + mc64 + mc71 + mc74 + mc80 + mc83) (dd + ms54 + ms57 + ms62 + ms65 + ms72 + ms75 + ms81 + ms84) S_85 h)
set_option maxRecDepth 20000 in
theorem tb_L_isReady_153 {mc ms : Nat} (C : cC p s m args meth c cL_isReady 2 (some .boolean) A D Y tp dp RL) {post : Int32 → cS → Prop}   (x0 : Nat) (cd dd : Nat) (S : cS) (h : k_L_isReady_153 post dp mc ms  x0 cd dd S) : cG p l e (cRm 10 mc ms 233) s m args below meth c A D Y 2 (MQ below (cQi post D Y A) args s mc ms A) cd dd 153 [(0, .ref x0)] [] S := by
  unfold k_L_isReady_153 at h
  refine cg_iconst C (x := nI 0) rfl dL_isReady_153 ?_
  exact cg_sub [0] rfl (tb_L_isReady_154 C   x0 ((nI 0)) cd dd S h)
set_option maxRecDepth 20000 in
theorem tb_L_isReady_110 {mc ms : Nat} (C : cC p s m args meth c cL_isReady 2 (some .boolean) A D Y tp dp RL) {post : Int32 → cS → Prop}   (x0 : Nat) (t0 : Int32) (cd dd : Nat) (S : cS) (h : k_L_isReady_110 post dp mc ms  x0 t0 cd dd S) : cG p l e (cRm 10 mc ms 233) s m args below meth c A D Y 2 (MQ below (cQi post D Y A) args s mc ms A) cd dd 110 [(0, .ref x0)] [.int t0] S := by
  unfold k_L_isReady_110 at h
  refine cg_istore_n C (i := 1) (lv' := [(1, .int t0), (0, .ref x0)]) rfl (Nat.le_of_ble_eq_true rfl) rfl dL_isReady_110 ?_
  refine cg_aload_n C (i := 0) rfl 1 rfl dL_isReady_111 ?_
  refine cg_iconst C (x := nI 1) rfl dL_isReady_112 ?_
  obtain ⟨hb_113, h⟩ := h
  refine cg_callsv C (t_L_types l x0 ((nI 1)) S dp h) cc_L_118 rfl ⟨by decide, by decide⟩ hb_113 rfl (Nat.le_of_ble_eq_true rfl) dL_isReady_113 (fun S_9 h => ?_)
  simp only [Nat.add_zero]
  refine cg_aload_n C (i := 0) rfl 1 rfl dL_isReady_116 ?_
  refine cg_bipush C (x := nI 7) rfl dL_isReady_117 ?_
  obtain ⟨hb_119, h⟩ := h
  refine cg_callsv C (t_L_types l x0 ((nI 7)) S_9 dp h) cc_L_118 rfl ⟨by decide, by decide⟩ hb_119 rfl (Nat.le_of_ble_eq_true rfl) dL_isReady_119 (fun S_10 h => ?_)
  simp only [Nat.add_zero]
  refine cg_aload_n C (i := 0) rfl 1 rfl dL_isReady_122 ?_
  refine cg_iconst C (x := nI 4) rfl dL_isReady_123 ?_
  obtain ⟨hb_124, h⟩ := h
  refine cg_callsv C (t_L_types l x0 ((nI 4)) S_10 dp h) cc_L_118 rfl ⟨by decide, by decide⟩ hb_124 rfl (Nat.le_of_ble_eq_true rfl) dL_isReady_124 (fun S_11 h => ?_)
  simp only [Nat.add_zero]
  refine cg_iload_n C (i := 1) rfl 0 rfl dL_isReady_127 ?_
  refine cg_if_eq C 153 (by decide) dL_isReady_128 (fun c_ => ?_) (fun c_ => ?_)
  · have h := h.1 c_
    exact cg_sub [1] rfl (tb_L_isReady_153 C   x0 cd dd S_11 h)
  · have h := h.2 c_
    refine cg_aload_n C (i := 0) rfl 1 rfl dL_isReady_131 ?_
    refine cg_iconst C (x := nI 0) rfl dL_isReady_132 ?_
    refine cg_iconst C (x := nI 1) rfl dL_isReady_133 ?_
    obtain ⟨hc_134, h⟩ := h
    obtain ⟨mc86, ms87, hm_1, hm_2, h⟩ := h
    refine cg_calli C (t_X11_phrase l mc86 ms87 x0 ((nI 0)) ((nI 1)) S_11 dp h) cc_L_134 hc_134.1 hc_134.2 (by decide) rfl rfl ⟨by decide, by decide⟩ ⟨hm_1, hm_2⟩ rfl (Nat.le_of_ble_eq_true rfl) dL_isReady_134 (fun r_88 S_88 h => ?_)
    refine cg_iconst C (x := nI 1) rfl dL_isReady_137 ?_
    refine cg_icmp_ne C 153 (by decide) dL_isReady_138 (fun c_ => ?_) (fun c_ => ?_)
    · have h := h.1 c_
      exact cg_sub [1] rfl (tb_L_isReady_153 C   x0 (cd + mc86) (dd + ms87) S_88 h)
    · have h := h.2 c_
      refine cg_aload_n C (i := 0) rfl 1 rfl dL_isReady_141 ?_
      obtain ⟨hc_142, h⟩ := h
      obtain ⟨mc89, ms90, hm_1, hm_2, h⟩ := h
      refine cg_calli C (t_X11_query l mc89 ms90 x0 S_88 dp h) cc_L_131 hc_142.1 hc_142.2 (by decide) rfl rfl ⟨by decide, by decide⟩ ⟨hm_1, hm_2⟩ rfl (Nat.le_of_ble_eq_true rfl) dL_isReady_142 (fun r_91 S_91 h => ?_)
      refine cg_iconst C (x := nI 2) rfl dL_isReady_145 ?_
      refine cg_icmp_ne C 153 (by decide) dL_isReady_146 (fun c_ => ?_) (fun c_ => ?_)
      · have h := h.1 c_
        exact cg_sub [1] rfl (tb_L_isReady_153 C   x0 (cd + mc86 + mc89) (dd + ms87 + ms90) S_91 h)
      · have h := h.2 c_
        refine cg_iconst C (x := nI 1) rfl dL_isReady_149 ?_
        refine cg_goto C 154 (by decide) dL_isReady_150 ?_
        exact cg_sub [1] rfl (tb_L_isReady_154 C   x0 ((nI 1)) (cd + mc86 + mc89) (dd + ms87 + ms90) S_91 h)
set_option maxRecDepth 20000 in
theorem tb_L_isReady_109 {mc ms : Nat} (C : cC p s m args meth c cL_isReady 2 (some .boolean) A D Y tp dp RL) {post : Int32 → cS → Prop}   (x0 : Nat) (cd dd : Nat) (S : cS) (h : k_L_isReady_109 post dp mc ms  x0 cd dd S) : cG p l e (cRm 10 mc ms 233) s m args below meth c A D Y 2 (MQ below (cQi post D Y A) args s mc ms A) cd dd 109 [(0, .ref x0)] [] S := by
  unfold k_L_isReady_109 at h
  refine cg_iconst C (x := nI 0) rfl dL_isReady_109 ?_
  exact cg_sub [0] rfl (tb_L_isReady_110 C   x0 ((nI 0)) cd dd S h)
set_option maxRecDepth 20000 in
theorem tb_L_isReady_78 {mc ms : Nat} (C : cC p s m args meth c cL_isReady 2 (some .boolean) A D Y tp dp RL) {post : Int32 → cS → Prop}   (x0 : Nat) (t0 : Int32) (cd dd : Nat) (S : cS) (h : k_L_isReady_78 post dp mc ms  x0 t0 cd dd S) : cG p l e (cRm 10 mc ms 233) s m args below meth c A D Y 2 (MQ below (cQi post D Y A) args s mc ms A) cd dd 78 [(0, .ref x0)] [.int t0] S := by
  unfold k_L_isReady_78 at h
  refine cg_istore_n C (i := 1) (lv' := [(1, .int t0), (0, .ref x0)]) rfl (Nat.le_of_ble_eq_true rfl) rfl dL_isReady_78 ?_
  refine cg_aload_n C (i := 0) rfl 1 rfl dL_isReady_79 ?_
  refine cg_iconst C (x := nI 4) rfl dL_isReady_80 ?_
  obtain ⟨hb_81, h⟩ := h
  refine cg_callsv C (t_L_types l x0 ((nI 4)) S dp h) cc_L_118 rfl ⟨by decide, by decide⟩ hb_81 rfl (Nat.le_of_ble_eq_true rfl) dL_isReady_81 (fun S_8 h => ?_)
  simp only [Nat.add_zero]
  refine cg_iload_n C (i := 1) rfl 0 rfl dL_isReady_84 ?_
  refine cg_if_eq C 109 (by decide) dL_isReady_85 (fun c_ => ?_) (fun c_ => ?_)
  · have h := h.1 c_
    exact cg_sub [1] rfl (tb_L_isReady_109 C   x0 cd dd S_8 h)
  · have h := h.2 c_
    refine cg_aload_n C (i := 0) rfl 1 rfl dL_isReady_88 ?_
    refine cg_iconst C (x := nI 1) rfl dL_isReady_89 ?_
    obtain ⟨hc_90, h⟩ := h
    obtain ⟨mc92, ms93, hm_1, hm_2, h⟩ := h
    refine cg_calli C (t_X11_term l mc92 ms93 x0 ((nI 1)) S_8 dp h) cc_L_128 hc_90.1 hc_90.2 (by decide) rfl rfl ⟨by decide, by decide⟩ ⟨hm_1, hm_2⟩ rfl (Nat.le_of_ble_eq_true rfl) dL_isReady_90 (fun r_94 S_94 h => ?_)
    refine cg_iconst C (x := nI 1) rfl dL_isReady_93 ?_
    refine cg_icmp_ne C 109 (by decide) dL_isReady_94 (fun c_ => ?_) (fun c_ => ?_)
    · have h := h.1 c_
      exact cg_sub [1] rfl (tb_L_isReady_109 C   x0 (cd + mc92) (dd + ms93) S_94 h)
    · have h := h.2 c_
      refine cg_aload_n C (i := 0) rfl 1 rfl dL_isReady_97 ?_
      obtain ⟨hc_98, h⟩ := h
      obtain ⟨mc95, ms96, hm_1, hm_2, h⟩ := h
      refine cg_calli C (t_X11_query l mc95 ms96 x0 S_94 dp h) cc_L_131 hc_98.1 hc_98.2 (by decide) rfl rfl ⟨by decide, by decide⟩ ⟨hm_1, hm_2⟩ rfl (Nat.le_of_ble_eq_true rfl) dL_isReady_98 (fun r_97 S_97 h => ?_)
      refine cg_iconst C (x := nI 1) rfl dL_isReady_101 ?_
      refine cg_icmp_ne C 109 (by decide) dL_isReady_102 (fun c_ => ?_) (fun c_ => ?_)
      · have h := h.1 c_
        exact cg_sub [1] rfl (tb_L_isReady_109 C   x0 (cd + mc92 + mc95) (dd + ms93 + ms96) S_97 h)
      · have h := h.2 c_
        refine cg_iconst C (x := nI 1) rfl dL_isReady_105 ?_
        refine cg_goto C 110 (by decide) dL_isReady_106 ?_
        exact cg_sub [1] rfl (tb_L_isReady_110 C   x0 ((nI 1)) (cd + mc92 + mc95) (dd + ms93 + ms96) S_97 h)
set_option maxRecDepth 20000 in
theorem tb_L_isReady_77 {mc ms : Nat} (C : cC p s m args meth c cL_isReady 2 (some .boolean) A D Y tp dp RL) {post : Int32 → cS → Prop}   (x0 : Nat) (cd dd : Nat) (S : cS) (h : k_L_isReady_77 post dp mc ms  x0 cd dd S) : cG p l e (cRm 10 mc ms 233) s m args below meth c A D Y 2 (MQ below (cQi post D Y A) args s mc ms A) cd dd 77 [(0, .ref x0)] [] S := by
  unfold k_L_isReady_77 at h
  refine cg_iconst C (x := nI 0) rfl dL_isReady_77 ?_
  exact cg_sub [0] rfl (tb_L_isReady_78 C   x0 ((nI 0)) cd dd S h)
set_option maxRecDepth 20000 in
theorem tb_L_isReady_47 {mc ms : Nat} (C : cC p s m args meth c cL_isReady 2 (some .boolean) A D Y tp dp RL) {post : Int32 → cS → Prop}   (x0 : Nat) (t0 : Int32) (cd dd : Nat) (S : cS) (h : k_L_isReady_47 post dp mc ms  x0 t0 cd dd S) : cG p l e (cRm 10 mc ms 233) s m args below meth c A D Y 2 (MQ below (cQi post D Y A) args s mc ms A) cd dd 47 [(0, .ref x0)] [.int t0] S := by
  unfold k_L_isReady_47 at h
  refine cg_istore_n C (i := 1) (lv' := [(1, .int t0), (0, .ref x0)]) rfl (Nat.le_of_ble_eq_true rfl) rfl dL_isReady_47 ?_
  refine cg_aload_n C (i := 0) rfl 1 rfl dL_isReady_48 ?_
  refine cg_iconst C (x := nI 1) rfl dL_isReady_49 ?_
  obtain ⟨hb_50, h⟩ := h
  refine cg_callsv C (t_L_types l x0 ((nI 1)) S dp h) cc_L_118 rfl ⟨by decide, by decide⟩ hb_50 rfl (Nat.le_of_ble_eq_true rfl) dL_isReady_50 (fun S_7 h => ?_)
  simp only [Nat.add_zero]
  refine cg_iload_n C (i := 1) rfl 0 rfl dL_isReady_53 ?_
  refine cg_if_eq C 77 (by decide) dL_isReady_54 (fun c_ => ?_) (fun c_ => ?_)
  · have h := h.1 c_
    exact cg_sub [1] rfl (tb_L_isReady_77 C   x0 cd dd S_7 h)
  · have h := h.2 c_
    refine cg_aload_n C (i := 0) rfl 1 rfl dL_isReady_57 ?_
    refine cg_iconst C (x := nI 0) rfl dL_isReady_58 ?_
    obtain ⟨hc_59, h⟩ := h
    obtain ⟨mc98, ms99, hm_1, hm_2, h⟩ := h
    refine cg_calli C (t_X11_term l mc98 ms99 x0 ((nI 0)) S_7 dp h) cc_L_128 hc_59.1 hc_59.2 (by decide) rfl rfl ⟨by decide, by decide⟩ ⟨hm_1, hm_2⟩ rfl (Nat.le_of_ble_eq_true rfl) dL_isReady_59 (fun r_100 S_100 h => ?_)
    refine cg_iconst C (x := nI 1) rfl dL_isReady_62 ?_
    refine cg_icmp_ne C 77 (by decide) dL_isReady_63 (fun c_ => ?_) (fun c_ => ?_)
    · have h := h.1 c_
      exact cg_sub [1] rfl (tb_L_isReady_77 C   x0 (cd + mc98) (dd + ms99) S_100 h)
    · have h := h.2 c_
      refine cg_aload_n C (i := 0) rfl 1 rfl dL_isReady_66 ?_
      obtain ⟨hc_67, h⟩ := h
      obtain ⟨mc101, ms102, hm_1, hm_2, h⟩ := h
      refine cg_calli C (t_X11_query l mc101 ms102 x0 S_100 dp h) cc_L_131 hc_67.1 hc_67.2 (by decide) rfl rfl ⟨by decide, by decide⟩ ⟨hm_1, hm_2⟩ rfl (Nat.le_of_ble_eq_true rfl) dL_isReady_67 (fun r_103 S_103 h => ?_)
      refine cg_if_ne C 77 (by decide) dL_isReady_70 (fun c_ => ?_) (fun c_ => ?_)
      · have h := h.1 c_
        exact cg_sub [1] rfl (tb_L_isReady_77 C   x0 (cd + mc98 + mc101) (dd + ms99 + ms102) S_103 h)
      · have h := h.2 c_
        refine cg_iconst C (x := nI 1) rfl dL_isReady_73 ?_
        refine cg_goto C 78 (by decide) dL_isReady_74 ?_
        exact cg_sub [1] rfl (tb_L_isReady_78 C   x0 ((nI 1)) (cd + mc98 + mc101) (dd + ms99 + ms102) S_103 h)
set_option maxRecDepth 20000 in
theorem tb_L_isReady_46 {mc ms : Nat} (C : cC p s m args meth c cL_isReady 2 (some .boolean) A D Y tp dp RL) {post : Int32 → cS → Prop}   (x0 : Nat) (cd dd : Nat) (S : cS) (h : k_L_isReady_46 post dp mc ms  x0 cd dd S) : cG p l e (cRm 10 mc ms 233) s m args below meth c A D Y 2 (MQ below (cQi post D Y A) args s mc ms A) cd dd 46 [(0, .ref x0)] [] S := by
  unfold k_L_isReady_46 at h
  refine cg_iconst C (x := nI 0) rfl dL_isReady_46 ?_
  exact cg_sub [0] rfl (tb_L_isReady_47 C   x0 ((nI 0)) cd dd S h)
set_option maxRecDepth 20000 in
theorem tb_L_isReady_19 {mc ms : Nat} (C : cC p s m args meth c cL_isReady 2 (some .boolean) A D Y tp dp RL) {post : Int32 → cS → Prop}   (x0 : Nat) (t0 : Int32) (cd dd : Nat) (S : cS) (h : k_L_isReady_19 post dp mc ms  x0 t0 cd dd S) : cG p l e (cRm 10 mc ms 233) s m args below meth c A D Y 2 (MQ below (cQi post D Y A) args s mc ms A) cd dd 19 [(0, .ref x0)] [.int t0] S := by
  unfold k_L_isReady_19 at h
  refine cg_istore_n C (i := 1) (lv' := [(1, .int t0), (0, .ref x0)]) rfl (Nat.le_of_ble_eq_true rfl) rfl dL_isReady_19 ?_
  refine cg_aload_n C (i := 0) rfl 1 rfl dL_isReady_20 ?_
  refine cg_iconst C (x := nI 2) rfl dL_isReady_21 ?_
  obtain ⟨hb_22, h⟩ := h
  refine cg_callsv C (t_L_types l x0 ((nI 2)) S dp h) cc_L_118 rfl ⟨by decide, by decide⟩ hb_22 rfl (Nat.le_of_ble_eq_true rfl) dL_isReady_22 (fun S_5 h => ?_)
  simp only [Nat.add_zero]
  refine cg_aload_n C (i := 0) rfl 1 rfl dL_isReady_25 ?_
  refine cg_iconst C (x := nI 4) rfl dL_isReady_26 ?_
  obtain ⟨hb_27, h⟩ := h
  refine cg_callsv C (t_L_types l x0 ((nI 4)) S_5 dp h) cc_L_118 rfl ⟨by decide, by decide⟩ hb_27 rfl (Nat.le_of_ble_eq_true rfl) dL_isReady_27 (fun S_6 h => ?_)
  simp only [Nat.add_zero]
  refine cg_iload_n C (i := 1) rfl 0 rfl dL_isReady_30 ?_
  refine cg_if_eq C 46 (by decide) dL_isReady_31 (fun c_ => ?_) (fun c_ => ?_)
  · have h := h.1 c_
    exact cg_sub [1] rfl (tb_L_isReady_46 C   x0 cd dd S_6 h)
  · have h := h.2 c_
    refine cg_aload_n C (i := 0) rfl 1 rfl dL_isReady_34 ?_
    obtain ⟨hc_35, h⟩ := h
    obtain ⟨mc104, ms105, hm_1, hm_2, h⟩ := h
    refine cg_calli C (t_X11_synonym l mc104 ms105 x0 S_6 dp h) cc_L_125 hc_35.1 hc_35.2 (by decide) rfl rfl ⟨by decide, by decide⟩ ⟨hm_1, hm_2⟩ rfl (Nat.le_of_ble_eq_true rfl) dL_isReady_35 (fun r_106 S_106 h => ?_)
    refine cg_iconst C (x := nI 1) rfl dL_isReady_38 ?_
    refine cg_icmp_ne C 46 (by decide) dL_isReady_39 (fun c_ => ?_) (fun c_ => ?_)
    · have h := h.1 c_
      exact cg_sub [1] rfl (tb_L_isReady_46 C   x0 (cd + mc104) (dd + ms105) S_106 h)
    · have h := h.2 c_
      refine cg_iconst C (x := nI 1) rfl dL_isReady_42 ?_
      refine cg_goto C 47 (by decide) dL_isReady_43 ?_
      exact cg_sub [1] rfl (tb_L_isReady_47 C   x0 ((nI 1)) (cd + mc104) (dd + ms105) S_106 h)
end S_L_isReady
set_option maxHeartbeats 1000000 in
set_option maxRecDepth 20000 in
theorem t_L_isReady (l : Launch) (mc ms : Nat) (x0 : Nat) (S : cS) (dp : Nat) {P : Int32 → cS → Prop} (h : k_L_isReady P dp mc ms x0 S) : cMet (cQi P) l yL_isReady cL_isReady 2 (some .boolean) 10 mc ms 233 [.ref x0] S dp := by
  intro D Y tp sz
  refine cg_body (by decide +kernel) (Nat.le_of_ble_eq_true rfl) ?_
  intro p e s m args below meth c C
  generalize va_A (cWd Y S) sz = A at C ⊢
  have C : cC p s m args meth c cL_isReady 2 (some .boolean) A D Y tp dp RL := C
  refine cg_lv (lv' := [(0, .ref x0)]) rfl ?_
  unfold k_L_isReady at h
  refine cg_aload_n C (i := 0) rfl 0 rfl dL_isReady_0 ?_
  refine cg_bipush C (x := nI 7) rfl dL_isReady_1 ?_
  obtain ⟨hb_3, h⟩ := h
  refine cg_callsv C (t_L_types l x0 ((nI 7)) S dp h) cc_L_118 rfl ⟨by decide, by decide⟩ hb_3 rfl (Nat.le_of_ble_eq_true rfl) dL_isReady_3 (fun S_1 h => ?_)
  simp only [Nat.add_zero]
  refine cg_aload_n C (i := 0) rfl 0 rfl dL_isReady_6 ?_
  obtain ⟨hc_7, h⟩ := h
  obtain ⟨mc2, ms3, hm_1, hm_2, h⟩ := h
  refine cg_calli C (t_X11_stop l mc2 ms3 x0 S_1 dp h) cc_L_122 hc_7.1 hc_7.2 (by decide) rfl rfl ⟨by decide, by decide⟩ ⟨hm_1, hm_2⟩ rfl (Nat.le_of_ble_eq_true rfl) dL_isReady_7 (fun r_4 S_4 h => ?_)
  refine cg_iconst C (x := nI 1) rfl dL_isReady_10 ?_
  refine cg_icmp_ne C 18 (by decide) dL_isReady_11 (fun c_ => ?_) (fun c_ => ?_)
  · have h := h.1 c_
    refine cg_iconst C (x := nI 0) rfl dL_isReady_18 ?_
    exact cg_sub [0] rfl (tb_L_isReady_19 C   x0 ((nI 0)) (0 + mc2) (0 + ms3) S_4 h)
  · have h := h.2 c_
    refine cg_iconst C (x := nI 1) rfl dL_isReady_14 ?_
    refine cg_goto C 19 (by decide) dL_isReady_15 ?_
    exact cg_sub [0] rfl (tb_L_isReady_19 C   x0 ((nI 1)) (0 + mc2) (0 + ms3) S_4 h)
