/-! the reference's methods as predicates, and their contracts -/
def r_wild_185 (Q : Int32 → (Nat → Int32) → (Nat → Nat → Int32) → (Nat → Nat → Int64) → Prop) (R123 : Int32 → Int32 → Int32 → Int32 → (Nat → Int32) → (Nat → Nat → Int32) → (Nat → Nat → Int64) → Prop) (x1 : Int32) (x3 : Int32) (x4 : Int32) (x5 : Int32) (t0 : Int32) (t1 : Int32) (v : Nat → Int32) (f : Nat → Nat → Int32) (g : Nat → Nat → Int64) : Prop :=
vp_in t1 23616 ∧ (∀ f10 : Nat → Nat → Int32, f10 = mU f 47 (t1).toNatClampNeg t0 → ∀ x5_11 : Int32, x5_11 = x5 + nI 1 → R123 x1 x3 x4 x5_11 v f10 g)
def r_wild_123 (Q : Int32 → (Nat → Int32) → (Nat → Nat → Int32) → (Nat → Nat → Int64) → Prop) (R123 : Int32 → Int32 → Int32 → Int32 → (Nat → Int32) → (Nat → Nat → Int32) → (Nat → Nat → Int64) → Prop) (x1 : Int32) (x3 : Int32) (x4 : Int32) (x5 : Int32) (v : Nat → Int32) (f : Nat → Nat → Int32) (g : Nat → Nat → Int64) : Prop :=
((x4 ≤ x5 →
  r_reads (fun v_7 f_7 g_7 => 
  r_leaf (fun r_8 v_8 f_8 g_8 => 
  Q r_8 v_8 f_8 g_8) ((nI 4)) x1 x4 ((nI 0)) v_7 f_7 g_7)  v f g) ∧
 (¬ x4 ≤ x5 →
  vp_in x5 40 ∧ (((¬ ((f 2 (x5).toNatClampNeg)) = ((nI 63)) →
    vp_in x5 40 ∧ (((¬ ((f 2 (x5).toNatClampNeg)) = ((nI 42)) →
      vp_in x5 40 ∧ (r_figure (fun r_9 v_9 f_9 g_9 => 
      r_wild_185 Q R123 x1 x3 x4 x5 r_9 ((((((nI 12)) * x3)) + x5)) v_9 f_9 g_9) ((f 2 (x5).toNatClampNeg)) v f g)) ∧
     (((f 2 (x5).toNatClampNeg)) = ((nI 42)) →
      r_wild_185 Q R123 x1 x3 x4 x5 ((nI 38)) ((((((nI 12)) * x3)) + x5)) v f g)))) ∧
   (((f 2 (x5).toNatClampNeg)) = ((nI 63)) →
    r_wild_185 Q R123 x1 x3 x4 x5 ((nI 37)) ((((((nI 12)) * x3)) + x5)) v f g)))))
def r_wild_123L (Q : Int32 → (Nat → Int32) → (Nat → Nat → Int32) → (Nat → Nat → Int64) → Prop)  (x1 : Int32) (x3 : Int32) (x4 : Int32) (x5 : Int32) (v : Nat → Int32) (f : Nat → Nat → Int32) (g : Nat → Nat → Int64) : Prop :=
  lfp (X := Int32 × Int32 × Int32 × Int32 × (Nat → Int32) × (Nat → Nat → Int32) × (Nat → Nat → Int64)) (fun P y => r_wild_123 Q  (fun b0 b1 b2 b3 v f g => P (b0, b1, b2, b3, v, f, g)) y.1 y.2.1 y.2.2.1 y.2.2.2.1 y.2.2.2.2.1 y.2.2.2.2.2.1 y.2.2.2.2.2.2) (x1, x3, x4, x5, v, f, g)
def r_wild_93 (Q : Int32 → (Nat → Int32) → (Nat → Nat → Int32) → (Nat → Nat → Int64) → Prop)  (x1 : Int32) (t0 : Int32) (t1 : Int32) (v : Nat → Int32) (f : Nat → Nat → Int32) (g : Nat → Nat → Int64) : Prop :=
r_goes (fun r_3 v_3 f_3 g_3 => 
((¬ r_3 = 0 →
  r_draftAt (fun r_4 v_4 f_4 g_4 => 
  vp_in ((nI 40)) 41 ∧ (∀ x3_5 : Int32, x3_5 = (r_4 + ((f_4 48 ((nI 40)).toNatClampNeg))) → ∀ x4_6 : Int32, x4_6 = (v_4 2) → r_wild_123L Q  x1 x3_5 x4_6 (((nI 0))) v_4 f_4 g_4))  v_3 f_3 g_3) ∧
 (r_3 = 0 →
  Q ((nI 0)) v_3 f_3 g_3))) t1 t0 ((nI 1)) v f g
def r_wild_92 (Q : Int32 → (Nat → Int32) → (Nat → Nat → Int32) → (Nat → Nat → Int64) → Prop)  (x1 : Int32) (t0 : Int32) (v : Nat → Int32) (f : Nat → Nat → Int32) (g : Nat → Nat → Int64) : Prop :=
r_wild_93 Q  x1 ((nI 0)) t0 v f g
def r_wild_64 (Q : Int32 → (Nat → Int32) → (Nat → Nat → Int32) → (Nat → Nat → Int64) → Prop) (R13 : Int32 → Int32 → Int32 → (Nat → Int32) → (Nat → Nat → Int32) → (Nat → Nat → Int64) → Prop) (x1 : Int32) (x3 : Int32) (t0 : Int32) (v : Nat → Int32) (f : Nat → Nat → Int32) (g : Nat → Nat → Int64) : Prop :=
∀ x3_13 : Int32, x3_13 = x3 + nI 1 → R13 x1 t0 x3_13 v f g
def r_wild_63 (Q : Int32 → (Nat → Int32) → (Nat → Nat → Int32) → (Nat → Nat → Int64) → Prop) (R13 : Int32 → Int32 → Int32 → (Nat → Int32) → (Nat → Nat → Int32) → (Nat → Nat → Int64) → Prop) (x1 : Int32) (x3 : Int32) (v : Nat → Int32) (f : Nat → Nat → Int32) (g : Nat → Nat → Int64) : Prop :=
r_wild_64 Q R13 x1 x3 ((nI 0)) v f g
def r_wild_13 (Q : Int32 → (Nat → Int32) → (Nat → Nat → Int32) → (Nat → Nat → Int64) → Prop) (R13 : Int32 → Int32 → Int32 → (Nat → Int32) → (Nat → Nat → Int32) → (Nat → Nat → Int64) → Prop) (x1 : Int32) (x2 : Int32) (x3 : Int32) (v : Nat → Int32) (f : Nat → Nat → Int32) (g : Nat → Nat → Int64) : Prop :=
((((v 2)) ≤ x3 →
  r_isField (fun r_2 v_2 f_2 g_2 => 
  ((x2 = 0 →
    r_wild_92 Q  x1 r_2 v_2 f_2 g_2) ∧
   (¬ x2 = 0 →
    r_hasRoom (fun r_12 v_12 f_12 g_12 => 
    ((r_12 = 0 →
      r_wild_92 Q  x1 r_2 v_12 f_12 g_12) ∧
     (¬ r_12 = 0 →
      r_wild_93 Q  x1 ((nI 1)) r_2 v_12 f_12 g_12)))  v_2 f_2 g_2))) x1 v f g) ∧
 (¬ ((v 2)) ≤ x3 →
  ((x2 = 0 →
    r_wild_63 Q R13 x1 x3 v f g) ∧
   (¬ x2 = 0 →
    vp_in x3 40 ∧ (r_figure (fun r_14 v_14 f_14 g_14 => 
    ((0 < r_14 →
      r_wild_64 Q R13 x1 x3 ((nI 1)) v_14 f_14 g_14) ∧
     (¬ 0 < r_14 →
      vp_in x3 40 ∧ (((((f_14 2 (x3).toNatClampNeg)) = ((nI 63)) →
        r_wild_64 Q R13 x1 x3 ((nI 1)) v_14 f_14 g_14) ∧
       (¬ ((f_14 2 (x3).toNatClampNeg)) = ((nI 63)) →
        vp_in x3 40 ∧ (((¬ ((f_14 2 (x3).toNatClampNeg)) = ((nI 42)) →
          r_wild_63 Q R13 x1 x3 v_14 f_14 g_14) ∧
         (((f_14 2 (x3).toNatClampNeg)) = ((nI 42)) →
          r_wild_64 Q R13 x1 x3 ((nI 1)) v_14 f_14 g_14))))))))) ((f 2 (x3).toNatClampNeg)) v f g)))))
def r_wild_13L (Q : Int32 → (Nat → Int32) → (Nat → Nat → Int32) → (Nat → Nat → Int64) → Prop)  (x1 : Int32) (x2 : Int32) (x3 : Int32) (v : Nat → Int32) (f : Nat → Nat → Int32) (g : Nat → Nat → Int64) : Prop :=
  lfp (X := Int32 × Int32 × Int32 × (Nat → Int32) × (Nat → Nat → Int32) × (Nat → Nat → Int64)) (fun P y => r_wild_13 Q  (fun b0 b1 b2 v f g => P (b0, b1, b2, v, f, g)) y.1 y.2.1 y.2.2.1 y.2.2.2.1 y.2.2.2.2.1 y.2.2.2.2.2) (x1, x2, x3, v, f, g)
def r_wild (Q : Int32 → (Nat → Int32) → (Nat → Nat → Int32) → (Nat → Nat → Int64) → Prop) (x1 : Int32) (v : Nat → Int32) (f : Nat → Nat → Int32) (g : Nat → Nat → Int64) : Prop :=
r_in (fun r_1 v_1 f_1 g_1 => 
r_wild_13L Q  x1 r_1 (((nI 0))) v_1 f_1 g_1) ((v 2)) ((nI 1)) ((nI 12)) v f g
section S_wild
variable {p : Program} {l : Launch} {e : Env} {s : State} {m : MethodId} {args : Array Value} {below : List Frame} {meth : Method} {c : Code} {A : Nat → Prop} {D : va_G} {cI cJ cZ : ClassId} {a : Nat → Nat}
set_option maxRecDepth 20000 in
theorem sb_wild_185 (C : mC p s m args meth c cX12_wild 6 (some .int) A D cI cJ cZ) {post : Int32 → mS → Prop} {R123 : Int32 → Int32 → Int32 → Int32 → (Nat → Int32) → (Nat → Nat → Int32) → (Nat → Nat → Int64) → Prop} (hR123 : ∀ (x1 : Int32) (x3 : Int32) (x4 : Int32) (x5 : Int32) (v : Nat → Int32) (f : Nat → Nat → Int32) (g : Nat → Nat → Int64), R123 x1 x3 x4 x5 v f g → mG p l e (mRm 3 65) s m args below meth c A D cI cJ cZ a 6 (MQ below (va_Qi post (mB D cI cJ cZ a) A) args s 0 0 A) 123 [(0, .ref (a 0)), (1, .int x1), (3, .int x3), (4, .int x4), (5, .int x5)] [] v f g) (x1 : Int32) (x3 : Int32) (x4 : Int32) (x5 : Int32) (t0 : Int32) (t1 : Int32) (v : Nat → Int32) (f : Nat → Nat → Int32) (g : Nat → Nat → Int64) (h : r_wild_185 (fun r v f g => post r (v, f, g)) R123 x1 x3 x4 x5 t0 t1 v f g) : mG p l e (mRm 3 65) s m args below meth c A D cI cJ cZ a 6 (MQ below (va_Qi post (mB D cI cJ cZ a) A) args s 0 0 A) 185 [(0, .ref (a 0)), (1, .int x1), (3, .int x3), (4, .int x4), (5, .int x5)] [.int t0, .int t1, .ref (a 47)] v f g := by
  unfold r_wild_185 at h
  obtain ⟨hc_185, h⟩ := h
  refine mg_iastoreR C (n := 23616) 47 (by decide) (by decide) rfl rfl hc_185 dX12_wild_185 ?_
  refine mg_nmF (fun f10 e_f10 => ?_)
  have h := h f10 e_f10
  obtain ⟨x5_11, e_x5_11⟩ : ∃ z : Int32, z = x5 + nI 1 := ⟨_, rfl⟩
  have h := h x5_11 e_x5_11
  refine mg_iinc C (lv' := [(5, .int x5_11), (0, .ref (a 0)), (1, .int x1), (3, .int x3), (4, .int x4)]) 4 rfl (by rw [e_x5_11]; rfl) (Nat.le_of_ble_eq_true rfl) rfl dX12_wild_186 ?_
  refine mg_goto C 123 (by decide) dX12_wild_189 ?_
  exact mg_sub [1, 2, 3, 4, 0] rfl (hR123 x1 x3 x4 x5_11 v f10 g h)
set_option maxRecDepth 20000 in
theorem sb_wild_123 (C : mC p s m args meth c cX12_wild 6 (some .int) A D cI cJ cZ) {post : Int32 → mS → Prop} {R123 : Int32 → Int32 → Int32 → Int32 → (Nat → Int32) → (Nat → Nat → Int32) → (Nat → Nat → Int64) → Prop} (hR123 : ∀ (x1 : Int32) (x3 : Int32) (x4 : Int32) (x5 : Int32) (v : Nat → Int32) (f : Nat → Nat → Int32) (g : Nat → Nat → Int64), R123 x1 x3 x4 x5 v f g → mG p l e (mRm 3 65) s m args below meth c A D cI cJ cZ a 6 (MQ below (va_Qi post (mB D cI cJ cZ a) A) args s 0 0 A) 123 [(0, .ref (a 0)), (1, .int x1), (3, .int x3), (4, .int x4), (5, .int x5)] [] v f g) (x1 : Int32) (x3 : Int32) (x4 : Int32) (x5 : Int32) (v : Nat → Int32) (f : Nat → Nat → Int32) (g : Nat → Nat → Int64) (h : r_wild_123 (fun r v f g => post r (v, f, g)) R123 x1 x3 x4 x5 v f g) : mG p l e (mRm 3 65) s m args below meth c A D cI cJ cZ a 6 (MQ below (va_Qi post (mB D cI cJ cZ a) A) args s 0 0 A) 123 [(0, .ref (a 0)), (1, .int x1), (3, .int x3), (4, .int x4), (5, .int x5)] [] v f g := by
  unfold r_wild_123 at h
  refine mg_iload C 4 rfl dX12_wild_123 ?_
  refine mg_iload C 3 rfl dX12_wild_125 ?_
  refine mg_icmp_ge C 192 (by decide) dX12_wild_127 (fun c_ => ?_) (fun c_ => ?_)
  · have h := h.1 c_
    refine mg_aload_n C (i := 0) rfl 0 rfl dX12_wild_192 ?_
    refine mg_callvW C (s_reads l  v f g h) mCal_reads rfl ⟨by decide, by decide⟩ rfl (Nat.le_of_ble_eq_true rfl) dX12_wild_193 (fun v_7 f_7 g_7 h => ?_)
    refine mg_aload_n C (i := 0) rfl 0 rfl dX12_wild_196 ?_
    refine mg_iconst C (x := nI 4) rfl dX12_wild_197 ?_
    refine mg_iload_n C (i := 1) rfl 1 rfl dX12_wild_198 ?_
    refine mg_iload C 3 rfl dX12_wild_199 ?_
    refine mg_iconst C (x := nI 0) rfl dX12_wild_201 ?_
    refine mg_calliW C (s_leaf l ((nI 4)) x1 x4 ((nI 0)) v_7 f_7 g_7 h) mCal_leaf rfl ⟨by decide, by decide⟩ rfl (Nat.le_of_ble_eq_true rfl) dX12_wild_202 (fun r_8 v_8 f_8 g_8 h => ?_)
    exact mg_iret C h dX12_wild_205
  · have h := h.2 c_
    refine mg_aload_n C (i := 0) rfl 0 rfl dX12_wild_130 ?_
    refine mg_arr C 47 (by decide) (by decide) rfl mL_wilds rfl dX12_wild_131 ?_
    refine mg_bipush C (x := nI 12) rfl dX12_wild_134 ?_
    refine mg_iload_n C (i := 3) rfl 2 rfl dX12_wild_136 ?_
    refine mg_imul C dX12_wild_137 ?_
    refine mg_iload C 4 rfl dX12_wild_138 ?_
    refine mg_iadd C dX12_wild_140 ?_
    refine mg_aload_n C (i := 0) rfl 0 rfl dX12_wild_141 ?_
    refine mg_arr C 2 (by decide) (by decide) rfl mL_pad rfl dX12_wild_142 ?_
    refine mg_iload C 4 rfl dX12_wild_145 ?_
    obtain ⟨hc_147, h⟩ := h
    refine mg_ialoadR C (n := 40) 2 (by decide) (by decide) rfl rfl hc_147 dX12_wild_147 ?_
    refine mg_bipush C (x := nI 63) rfl dX12_wild_148 ?_
    refine mg_icmp_ne C 158 (by decide) dX12_wild_150 (fun c_ => ?_) (fun c_ => ?_)
    · have h := h.1 c_
      refine mg_aload_n C (i := 0) rfl 0 rfl dX12_wild_158 ?_
      refine mg_arr C 2 (by decide) (by decide) rfl mL_pad rfl dX12_wild_159 ?_
      refine mg_iload C 4 rfl dX12_wild_162 ?_
      obtain ⟨hc_164, h⟩ := h
      refine mg_ialoadR C (n := 40) 2 (by decide) (by decide) rfl rfl hc_164 dX12_wild_164 ?_
      refine mg_bipush C (x := nI 42) rfl dX12_wild_165 ?_
      refine mg_icmp_ne C 175 (by decide) dX12_wild_167 (fun c_ => ?_) (fun c_ => ?_)
      · have h := h.1 c_
        refine mg_aload_n C (i := 0) rfl 0 rfl dX12_wild_175 ?_
        refine mg_arr C 2 (by decide) (by decide) rfl mL_pad rfl dX12_wild_176 ?_
        refine mg_iload C 4 rfl dX12_wild_179 ?_
        obtain ⟨hc_181, h⟩ := h
        refine mg_ialoadR C (n := 40) 2 (by decide) (by decide) rfl rfl hc_181 dX12_wild_181 ?_
        refine mg_callsiW C (s_figure l ((f 2 (x5).toNatClampNeg)) v f g h) mCal_figure rfl ⟨by decide, by decide⟩ rfl (Nat.le_of_ble_eq_true rfl) dX12_wild_182 (fun r_9 v_9 f_9 g_9 h => ?_)
        exact mg_sub [0, 1, 2, 3, 4] rfl (sb_wild_185 C hR123 x1 x3 x4 x5 r_9 ((((((nI 12)) * x3)) + x5)) v_9 f_9 g_9 h)
      · have h := h.2 c_
        refine mg_bipush C (x := nI 38) rfl dX12_wild_170 ?_
        refine mg_goto C 185 (by decide) dX12_wild_172 ?_
        exact mg_sub [0, 1, 2, 3, 4] rfl (sb_wild_185 C hR123 x1 x3 x4 x5 ((nI 38)) ((((((nI 12)) * x3)) + x5)) v f g h)
    · have h := h.2 c_
      refine mg_bipush C (x := nI 37) rfl dX12_wild_153 ?_
      refine mg_goto C 185 (by decide) dX12_wild_155 ?_
      exact mg_sub [0, 1, 2, 3, 4] rfl (sb_wild_185 C hR123 x1 x3 x4 x5 ((nI 37)) ((((((nI 12)) * x3)) + x5)) v f g h)
set_option maxRecDepth 20000 in
theorem sl_wild_123 (C : mC p s m args meth c cX12_wild 6 (some .int) A D cI cJ cZ) {post : Int32 → mS → Prop}   (x1 : Int32) (x3 : Int32) (x4 : Int32) (x5 : Int32) (v : Nat → Int32) (f : Nat → Nat → Int32) (g : Nat → Nat → Int64) (h : r_wild_123L (fun r v f g => post r (v, f, g))  x1 x3 x4 x5 v f g) : mG p l e (mRm 3 65) s m args below meth c A D cI cJ cZ a 6 (MQ below (va_Qi post (mB D cI cJ cZ a) A) args s 0 0 A) 123 [(0, .ref (a 0)), (1, .int x1), (3, .int x3), (4, .int x4), (5, .int x5)] [] v f g :=
  h (fun y => mG p l e (mRm 3 65) s m args below meth c A D cI cJ cZ a 6 (MQ below (va_Qi post (mB D cI cJ cZ a) A) args s 0 0 A) 123 [(0, .ref (a 0)), (1, .int (y.1)), (3, .int (y.2.1)), (4, .int (y.2.2.1)), (5, .int (y.2.2.2.1))] [] (y.2.2.2.2.1) (y.2.2.2.2.2.1) (y.2.2.2.2.2.2)) (fun y hy => sb_wild_123 C  (fun b0 b1 b2 b3 v f g z => z) (y.1) (y.2.1) (y.2.2.1) (y.2.2.2.1) (y.2.2.2.2.1) (y.2.2.2.2.2.1) (y.2.2.2.2.2.2) hy)
set_option maxRecDepth 20000 in
theorem sb_wild_93 (C : mC p s m args meth c cX12_wild 6 (some .int) A D cI cJ cZ) {post : Int32 → mS → Prop}   (x1 : Int32) (t0 : Int32) (t1 : Int32) (v : Nat → Int32) (f : Nat → Nat → Int32) (g : Nat → Nat → Int64) (h : r_wild_93 (fun r v f g => post r (v, f, g))  x1 t0 t1 v f g) : mG p l e (mRm 3 65) s m args below meth c A D cI cJ cZ a 6 (MQ below (va_Qi post (mB D cI cJ cZ a) A) args s 0 0 A) 93 [(0, .ref (a 0)), (1, .int x1)] [.int t0, .int t1, .ref (a 0)] v f g := by
  unfold r_wild_93 at h
  refine mg_iconst C (x := nI 1) rfl dX12_wild_93 ?_
  refine mg_calliW C (s_goes l t1 t0 ((nI 1)) v f g h) mCal_goes rfl ⟨by decide, by decide⟩ rfl (Nat.le_of_ble_eq_true rfl) dX12_wild_94 (fun r_3 v_3 f_3 g_3 h => ?_)
  refine mg_if_ne C 102 (by decide) dX12_wild_97 (fun c_ => ?_) (fun c_ => ?_)
  · have h := h.1 c_
    refine mg_callsiW C (s_draftAt l  v_3 f_3 g_3 h) mCal_draftAt rfl ⟨by decide, by decide⟩ rfl (Nat.le_of_ble_eq_true rfl) dX12_wild_102 (fun r_4 v_4 f_4 g_4 h => ?_)
    refine mg_aload_n C (i := 0) rfl 0 rfl dX12_wild_105 ?_
    refine mg_arr C 48 (by decide) (by decide) rfl mL_opsMany rfl dX12_wild_106 ?_
    refine mg_bipush C (x := nI 40) rfl dX12_wild_109 ?_
    obtain ⟨hc_111, h⟩ := h
    refine mg_ialoadR C (n := 41) 48 (by decide) (by decide) rfl rfl hc_111 dX12_wild_111 ?_
    refine mg_iadd C dX12_wild_112 ?_
    refine mg_nmI (fun x3_5 e_x3_5 => ?_)
    have h := h x3_5 e_x3_5
    refine mg_istore_n C (i := 3) (lv' := [(3, .int x3_5), (0, .ref (a 0)), (1, .int x1)]) rfl (Nat.le_of_ble_eq_true rfl) rfl dX12_wild_113 ?_
    refine mg_aload_n C (i := 0) rfl 1 rfl dX12_wild_114 ?_
    refine mg_getI C (k := 2) (by decide) rfl mL_padded rfl dX12_wild_115 ?_
    refine mg_nmI (fun x4_6 e_x4_6 => ?_)
    have h := h x4_6 e_x4_6
    refine mg_istore C (lv' := [(4, .int x4_6), (3, .int x3_5), (0, .ref (a 0)), (1, .int x1)]) (Nat.le_of_ble_eq_true rfl) rfl dX12_wild_118 ?_
    refine mg_iconst C (x := nI 0) rfl dX12_wild_120 ?_
    refine mg_istore C (lv' := [(5, .int ((nI 0))), (4, .int x4_6), (3, .int x3_5), (0, .ref (a 0)), (1, .int x1)]) (Nat.le_of_ble_eq_true rfl) rfl dX12_wild_121 ?_
    exact mg_sub [3, 4, 2, 1, 0] rfl (sl_wild_123 C  x1 x3_5 x4_6 (((nI 0))) v_4 f_4 g_4 h)
  · have h := h.2 c_
    refine mg_iconst C (x := nI 0) rfl dX12_wild_100 ?_
    exact mg_iret C h dX12_wild_101
set_option maxRecDepth 20000 in
theorem sb_wild_92 (C : mC p s m args meth c cX12_wild 6 (some .int) A D cI cJ cZ) {post : Int32 → mS → Prop}   (x1 : Int32) (t0 : Int32) (v : Nat → Int32) (f : Nat → Nat → Int32) (g : Nat → Nat → Int64) (h : r_wild_92 (fun r v f g => post r (v, f, g))  x1 t0 v f g) : mG p l e (mRm 3 65) s m args below meth c A D cI cJ cZ a 6 (MQ below (va_Qi post (mB D cI cJ cZ a) A) args s 0 0 A) 92 [(0, .ref (a 0)), (1, .int x1)] [.int t0, .ref (a 0)] v f g := by
  unfold r_wild_92 at h
  refine mg_iconst C (x := nI 0) rfl dX12_wild_92 ?_
  exact mg_sub [0, 1] rfl (sb_wild_93 C  x1 ((nI 0)) t0 v f g h)
set_option maxRecDepth 20000 in
theorem sb_wild_64 (C : mC p s m args meth c cX12_wild 6 (some .int) A D cI cJ cZ) {post : Int32 → mS → Prop} {R13 : Int32 → Int32 → Int32 → (Nat → Int32) → (Nat → Nat → Int32) → (Nat → Nat → Int64) → Prop} (hR13 : ∀ (x1 : Int32) (x2 : Int32) (x3 : Int32) (v : Nat → Int32) (f : Nat → Nat → Int32) (g : Nat → Nat → Int64), R13 x1 x2 x3 v f g → mG p l e (mRm 3 65) s m args below meth c A D cI cJ cZ a 6 (MQ below (va_Qi post (mB D cI cJ cZ a) A) args s 0 0 A) 13 [(0, .ref (a 0)), (1, .int x1), (2, .int x2), (3, .int x3)] [] v f g) (x1 : Int32) (x3 : Int32) (t0 : Int32) (v : Nat → Int32) (f : Nat → Nat → Int32) (g : Nat → Nat → Int64) (h : r_wild_64 (fun r v f g => post r (v, f, g)) R13 x1 x3 t0 v f g) : mG p l e (mRm 3 65) s m args below meth c A D cI cJ cZ a 6 (MQ below (va_Qi post (mB D cI cJ cZ a) A) args s 0 0 A) 64 [(0, .ref (a 0)), (1, .int x1), (3, .int x3)] [.int t0] v f g := by
  unfold r_wild_64 at h
  refine mg_istore_n C (i := 2) (lv' := [(2, .int t0), (0, .ref (a 0)), (1, .int x1), (3, .int x3)]) rfl (Nat.le_of_ble_eq_true rfl) rfl dX12_wild_64 ?_
  obtain ⟨x3_13, e_x3_13⟩ : ∃ z : Int32, z = x3 + nI 1 := ⟨_, rfl⟩
  have h := h x3_13 e_x3_13
  refine mg_iinc C (lv' := [(3, .int x3_13), (2, .int t0), (0, .ref (a 0)), (1, .int x1)]) 3 rfl (by rw [e_x3_13]; rfl) (Nat.le_of_ble_eq_true rfl) rfl dX12_wild_65 ?_
  refine mg_goto C 13 (by decide) dX12_wild_68 ?_
  exact mg_sub [2, 3, 1, 0] rfl (hR13 x1 t0 x3_13 v f g h)
set_option maxRecDepth 20000 in
theorem sb_wild_63 (C : mC p s m args meth c cX12_wild 6 (some .int) A D cI cJ cZ) {post : Int32 → mS → Prop} {R13 : Int32 → Int32 → Int32 → (Nat → Int32) → (Nat → Nat → Int32) → (Nat → Nat → Int64) → Prop} (hR13 : ∀ (x1 : Int32) (x2 : Int32) (x3 : Int32) (v : Nat → Int32) (f : Nat → Nat → Int32) (g : Nat → Nat → Int64), R13 x1 x2 x3 v f g → mG p l e (mRm 3 65) s m args below meth c A D cI cJ cZ a 6 (MQ below (va_Qi post (mB D cI cJ cZ a) A) args s 0 0 A) 13 [(0, .ref (a 0)), (1, .int x1), (2, .int x2), (3, .int x3)] [] v f g) (x1 : Int32) (x3 : Int32) (v : Nat → Int32) (f : Nat → Nat → Int32) (g : Nat → Nat → Int64) (h : r_wild_63 (fun r v f g => post r (v, f, g)) R13 x1 x3 v f g) : mG p l e (mRm 3 65) s m args below meth c A D cI cJ cZ a 6 (MQ below (va_Qi post (mB D cI cJ cZ a) A) args s 0 0 A) 63 [(0, .ref (a 0)), (1, .int x1), (3, .int x3)] [] v f g := by
  unfold r_wild_63 at h
  refine mg_iconst C (x := nI 0) rfl dX12_wild_63 ?_
  exact mg_sub [0, 1, 2] rfl (sb_wild_64 C hR13 x1 x3 ((nI 0)) v f g h)
set_option maxRecDepth 20000 in
theorem sb_wild_13 (C : mC p s m args meth c cX12_wild 6 (some .int) A D cI cJ cZ) {post : Int32 → mS → Prop} {R13 : Int32 → Int32 → Int32 → (Nat → Int32) → (Nat → Nat → Int32) → (Nat → Nat → Int64) → Prop} (hR13 : ∀ (x1 : Int32) (x2 : Int32) (x3 : Int32) (v : Nat → Int32) (f : Nat → Nat → Int32) (g : Nat → Nat → Int64), R13 x1 x2 x3 v f g → mG p l e (mRm 3 65) s m args below meth c A D cI cJ cZ a 6 (MQ below (va_Qi post (mB D cI cJ cZ a) A) args s 0 0 A) 13 [(0, .ref (a 0)), (1, .int x1), (2, .int x2), (3, .int x3)] [] v f g) (x1 : Int32) (x2 : Int32) (x3 : Int32) (v : Nat → Int32) (f : Nat → Nat → Int32) (g : Nat → Nat → Int64) (h : r_wild_13 (fun r v f g => post r (v, f, g)) R13 x1 x2 x3 v f g) : mG p l e (mRm 3 65) s m args below meth c A D cI cJ cZ a 6 (MQ below (va_Qi post (mB D cI cJ cZ a) A) args s 0 0 A) 13 [(0, .ref (a 0)), (1, .int x1), (2, .int x2), (3, .int x3)] [] v f g := by
  unfold r_wild_13 at h
  refine mg_iload_n C (i := 3) rfl 3 rfl dX12_wild_13 ?_
  refine mg_aload_n C (i := 0) rfl 0 rfl dX12_wild_14 ?_
  refine mg_getI C (k := 2) (by decide) rfl mL_padded rfl dX12_wild_15 ?_
  refine mg_icmp_ge C 71 (by decide) dX12_wild_18 (fun c_ => ?_) (fun c_ => ?_)
  · have h := h.1 c_
    refine mg_aload_n C (i := 0) rfl 0 rfl dX12_wild_71 ?_
    refine mg_aload_n C (i := 0) rfl 0 rfl dX12_wild_72 ?_
    refine mg_iload_n C (i := 1) rfl 1 rfl dX12_wild_73 ?_
    refine mg_calliW C (s_isField l x1 v f g h) mCal_isField rfl ⟨by decide, by decide⟩ rfl (Nat.le_of_ble_eq_true rfl) dX12_wild_74 (fun r_2 v_2 f_2 g_2 h => ?_)
    refine mg_iload_n C (i := 2) rfl 2 rfl dX12_wild_77 ?_
    refine mg_if_eq C 92 (by decide) dX12_wild_78 (fun c_ => ?_) (fun c_ => ?_)
    · have h := h.1 c_
      exact mg_sub [0, 1] rfl (sb_wild_92 C  x1 r_2 v_2 f_2 g_2 h)
    · have h := h.2 c_
      refine mg_aload_n C (i := 0) rfl 0 rfl dX12_wild_81 ?_
      refine mg_calliW C (s_hasRoom l  v_2 f_2 g_2 h) mCal_hasRoom rfl ⟨by decide, by decide⟩ rfl (Nat.le_of_ble_eq_true rfl) dX12_wild_82 (fun r_12 v_12 f_12 g_12 h => ?_)
      refine mg_if_eq C 92 (by decide) dX12_wild_85 (fun c_ => ?_) (fun c_ => ?_)
      · have h := h.1 c_
        exact mg_sub [0, 1] rfl (sb_wild_92 C  x1 r_2 v_12 f_12 g_12 h)
      · have h := h.2 c_
        refine mg_iconst C (x := nI 1) rfl dX12_wild_88 ?_
        refine mg_goto C 93 (by decide) dX12_wild_89 ?_
        exact mg_sub [0, 1] rfl (sb_wild_93 C  x1 ((nI 1)) r_2 v_12 f_12 g_12 h)
  · have h := h.2 c_
    refine mg_iload_n C (i := 2) rfl 2 rfl dX12_wild_21 ?_
    refine mg_if_eq C 63 (by decide) dX12_wild_22 (fun c_ => ?_) (fun c_ => ?_)
    · have h := h.1 c_
      exact mg_sub [0, 1, 3] rfl (sb_wild_63 C hR13 x1 x3 v f g h)
    · have h := h.2 c_
      refine mg_aload_n C (i := 0) rfl 0 rfl dX12_wild_25 ?_
      refine mg_arr C 2 (by decide) (by decide) rfl mL_pad rfl dX12_wild_26 ?_
      refine mg_iload_n C (i := 3) rfl 3 rfl dX12_wild_29 ?_
      obtain ⟨hc_30, h⟩ := h
      refine mg_ialoadR C (n := 40) 2 (by decide) (by decide) rfl rfl hc_30 dX12_wild_30 ?_
      refine mg_callsiW C (s_figure l ((f 2 (x3).toNatClampNeg)) v f g h) mCal_figure rfl ⟨by decide, by decide⟩ rfl (Nat.le_of_ble_eq_true rfl) dX12_wild_31 (fun r_14 v_14 f_14 g_14 h => ?_)
      refine mg_if_gt C 59 (by decide) dX12_wild_34 (fun c_ => ?_) (fun c_ => ?_)
      · have h := h.1 c_
        refine mg_iconst C (x := nI 1) rfl dX12_wild_59 ?_
        refine mg_goto C 64 (by decide) dX12_wild_60 ?_
        exact mg_sub [0, 1, 3] rfl (sb_wild_64 C hR13 x1 x3 ((nI 1)) v_14 f_14 g_14 h)
      · have h := h.2 c_
        refine mg_aload_n C (i := 0) rfl 0 rfl dX12_wild_37 ?_
        refine mg_arr C 2 (by decide) (by decide) rfl mL_pad rfl dX12_wild_38 ?_
        refine mg_iload_n C (i := 3) rfl 3 rfl dX12_wild_41 ?_
        obtain ⟨hc_42, h⟩ := h
        refine mg_ialoadR C (n := 40) 2 (by decide) (by decide) rfl rfl hc_42 dX12_wild_42 ?_
        refine mg_bipush C (x := nI 63) rfl dX12_wild_43 ?_
        refine mg_icmp_eq C 59 (by decide) dX12_wild_45 (fun c_ => ?_) (fun c_ => ?_)
        · have h := h.1 c_
          refine mg_iconst C (x := nI 1) rfl dX12_wild_59 ?_
          refine mg_goto C 64 (by decide) dX12_wild_60 ?_
          exact mg_sub [0, 1, 3] rfl (sb_wild_64 C hR13 x1 x3 ((nI 1)) v_14 f_14 g_14 h)
        · have h := h.2 c_
          refine mg_aload_n C (i := 0) rfl 0 rfl dX12_wild_48 ?_
          refine mg_arr C 2 (by decide) (by decide) rfl mL_pad rfl dX12_wild_49 ?_
          refine mg_iload_n C (i := 3) rfl 3 rfl dX12_wild_52 ?_
          obtain ⟨hc_53, h⟩ := h
          refine mg_ialoadR C (n := 40) 2 (by decide) (by decide) rfl rfl hc_53 dX12_wild_53 ?_
          refine mg_bipush C (x := nI 42) rfl dX12_wild_54 ?_
          refine mg_icmp_ne C 63 (by decide) dX12_wild_56 (fun c_ => ?_) (fun c_ => ?_)
          · have h := h.1 c_
            exact mg_sub [0, 1, 3] rfl (sb_wild_63 C hR13 x1 x3 v_14 f_14 g_14 h)
          · have h := h.2 c_
            refine mg_iconst C (x := nI 1) rfl dX12_wild_59 ?_
            refine mg_goto C 64 (by decide) dX12_wild_60 ?_
            exact mg_sub [0, 1, 3] rfl (sb_wild_64 C hR13 x1 x3 ((nI 1)) v_14 f_14 g_14 h)
set_option maxRecDepth 20000 in
theorem sl_wild_13 (C : mC p s m args meth c cX12_wild 6 (some .int) A D cI cJ cZ) {post : Int32 → mS → Prop}   (x1 : Int32) (x2 : Int32) (x3 : Int32) (v : Nat → Int32) (f : Nat → Nat → Int32) (g : Nat → Nat → Int64) (h : r_wild_13L (fun r v f g => post r (v, f, g))  x1 x2 x3 v f g) : mG p l e (mRm 3 65) s m args below meth c A D cI cJ cZ a 6 (MQ below (va_Qi post (mB D cI cJ cZ a) A) args s 0 0 A) 13 [(0, .ref (a 0)), (1, .int x1), (2, .int x2), (3, .int x3)] [] v f g :=
  h (fun y => mG p l e (mRm 3 65) s m args below meth c A D cI cJ cZ a 6 (MQ below (va_Qi post (mB D cI cJ cZ a) A) args s 0 0 A) 13 [(0, .ref (a 0)), (1, .int (y.1)), (2, .int (y.2.1)), (3, .int (y.2.2.1))] [] (y.2.2.2.1) (y.2.2.2.2.1) (y.2.2.2.2.2)) (fun y hy => sb_wild_13 C  (fun b0 b1 b2 v f g z => z) (y.1) (y.2.1) (y.2.2.1) (y.2.2.2.1) (y.2.2.2.2.1) (y.2.2.2.2.2) hy)
end S_wild
set_option maxHeartbeats 1000000 in
set_option maxRecDepth 20000 in
theorem s_wild (l : Launch) (x1 : Int32) (v : Nat → Int32) (f : Nat → Nat → Int32) (g : Nat → Nat → Int64) {P : Int32 → (Nat → Int32) → (Nat → Nat → Int32) → (Nat → Nat → Int64) → Prop} (h : r_wild P x1 v f g) : mMi l yX12_wild cX12_wild 6 (some .int) 3 65 false [.int x1] v f g (fun r w => P r w.1 w.2.1 w.2.2) := by
  intro D cI cJ cZ a sz
  refine mg_body (by decide +kernel) rfl (Nat.le_of_ble_eq_true rfl) ?_
  intro p e s m args below meth c hsz C
  clear hsz
  generalize va_A (mW cI cJ cZ a v f g) sz = A at C ⊢
  refine mg_lv (lv' := [(0, .ref (a 0)), (1, .int x1)]) rfl ?_
  unfold r_wild at h
  refine mg_aload_n C (i := 0) rfl 0 rfl dX12_wild_0 ?_
  refine mg_getI C (k := 2) (by decide) rfl mL_padded rfl dX12_wild_1 ?_
  refine mg_iconst C (x := nI 1) rfl dX12_wild_4 ?_
  refine mg_bipush C (x := nI 12) rfl dX12_wild_5 ?_
  refine mg_callsiW C (s_in l ((v 2)) ((nI 1)) ((nI 12)) v f g h) mCal_in rfl ⟨by decide, by decide⟩ rfl (Nat.le_of_ble_eq_true rfl) dX12_wild_7 (fun r_1 v_1 f_1 g_1 h => ?_)
  refine mg_istore_n C (i := 2) (lv' := [(2, .int r_1), (0, .ref (a 0)), (1, .int x1)]) rfl (Nat.le_of_ble_eq_true rfl) rfl dX12_wild_10 ?_
  refine mg_iconst C (x := nI 0) rfl dX12_wild_11 ?_
  refine mg_istore_n C (i := 3) (lv' := [(3, .int ((nI 0))), (2, .int r_1), (0, .ref (a 0)), (1, .int x1)]) rfl (Nat.le_of_ble_eq_true rfl) rfl dX12_wild_12 ?_
  exact mg_sub [2, 3, 1, 0] rfl (sl_wild_13 C  x1 r_1 (((nI 0))) v_1 f_1 g_1 h)
def r_fuzzy_31 (Q : Int32 → (Nat → Int32) → (Nat → Nat → Int32) → (Nat → Nat → Int64) → Prop)  (x1 : Int32) (x2 : Int32) (t0 : Int32) (t1 : Int32) (t2 : Int32) (v : Nat → Int32) (f : Nat → Nat → Int32) (g : Nat → Nat → Int64) : Prop :=
r_goes (fun r_4 v_4 f_4 g_4 => 
((r_4 = 0 →
  Q ((nI 0)) v_4 f_4 g_4) ∧
 (¬ r_4 = 0 →
  r_leaf (fun r_5 v_5 f_5 g_5 => 
  Q r_5 v_5 f_5 g_5) ((nI 5)) x1 x2 ((nI 0)) v_4 f_4 g_4))) t2 t1 t0 v f g
def r_fuzzy_30 (Q : Int32 → (Nat → Int32) → (Nat → Nat → Int32) → (Nat → Nat → Int64) → Prop)  (x1 : Int32) (x2 : Int32) (t0 : Int32) (t1 : Int32) (v : Nat → Int32) (f : Nat → Nat → Int32) (g : Nat → Nat → Int64) : Prop :=
r_fuzzy_31 Q  x1 x2 ((nI 0)) t0 t1 v f g
def r_fuzzy (Q : Int32 → (Nat → Int32) → (Nat → Nat → Int32) → (Nat → Nat → Int64) → Prop) (x1 : Int32) (x2 : Int32) (v : Nat → Int32) (f : Nat → Nat → Int32) (g : Nat → Nat → Int64) : Prop :=
r_isField (fun r_1 v_1 f_1 g_1 => 
r_in (fun r_2 v_2 f_2 g_2 => 
r_hasWordAlone (fun r_3 v_3 f_3 g_3 => 
((r_3 = 0 →
  r_fuzzy_30 Q  x1 x2 r_2 r_1 v_3 f_3 g_3) ∧
 (¬ r_3 = 0 →
  r_hasRoom (fun r_6 v_6 f_6 g_6 => 
  ((r_6 = 0 →
    r_fuzzy_30 Q  x1 x2 r_2 r_1 v_6 f_6 g_6) ∧
   (¬ r_6 = 0 →
    r_fuzzy_31 Q  x1 x2 ((nI 1)) r_2 r_1 v_6 f_6 g_6)))  v_3 f_3 g_3)))  v_2 f_2 g_2) x2 ((nI 0)) ((nI 2)) v_1 f_1 g_1) x1 v f g
section S_fuzzy
variable {p : Program} {l : Launch} {e : Env} {s : State} {m : MethodId} {args : Array Value} {below : List Frame} {meth : Method} {c : Code} {A : Nat → Prop} {D : va_G} {cI cJ cZ : ClassId} {a : Nat → Nat}
set_option maxRecDepth 20000 in
theorem sb_fuzzy_31 (C : mC p s m args meth c cX12_fuzzy 3 (some .int) A D cI cJ cZ) {post : Int32 → mS → Prop}   (x1 : Int32) (x2 : Int32) (t0 : Int32) (t1 : Int32) (t2 : Int32) (v : Nat → Int32) (f : Nat → Nat → Int32) (g : Nat → Nat → Int64) (h : r_fuzzy_31 (fun r v f g => post r (v, f, g))  x1 x2 t0 t1 t2 v f g) : mG p l e (mRm 4 85) s m args below meth c A D cI cJ cZ a 3 (MQ below (va_Qi post (mB D cI cJ cZ a) A) args s 0 0 A) 31 [(0, .ref (a 0)), (1, .int x1), (2, .int x2)] [.int t0, .int t1, .int t2, .ref (a 0)] v f g := by
  unfold r_fuzzy_31 at h
  refine mg_calliW C (s_goes l t2 t1 t0 v f g h) mCal_goes rfl ⟨by decide, by decide⟩ rfl (Nat.le_of_ble_eq_true rfl) dX12_fuzzy_31 (fun r_4 v_4 f_4 g_4 h => ?_)
  refine mg_if_eq C 48 (by decide) dX12_fuzzy_34 (fun c_ => ?_) (fun c_ => ?_)
  · have h := h.1 c_
    refine mg_iconst C (x := nI 0) rfl dX12_fuzzy_48 ?_
    exact mg_iret C h dX12_fuzzy_49
  · have h := h.2 c_
    refine mg_aload_n C (i := 0) rfl 0 rfl dX12_fuzzy_37 ?_
    refine mg_iconst C (x := nI 5) rfl dX12_fuzzy_38 ?_
    refine mg_iload_n C (i := 1) rfl 1 rfl dX12_fuzzy_39 ?_
    refine mg_iload_n C (i := 2) rfl 2 rfl dX12_fuzzy_40 ?_
    refine mg_iconst C (x := nI 0) rfl dX12_fuzzy_41 ?_
    refine mg_calliW C (s_leaf l ((nI 5)) x1 x2 ((nI 0)) v_4 f_4 g_4 h) mCal_leaf rfl ⟨by decide, by decide⟩ rfl (Nat.le_of_ble_eq_true rfl) dX12_fuzzy_42 (fun r_5 v_5 f_5 g_5 h => ?_)
    refine mg_goto C 49 (by decide) dX12_fuzzy_45 ?_
    exact mg_iret C h dX12_fuzzy_49
set_option maxRecDepth 20000 in
theorem sb_fuzzy_30 (C : mC p s m args meth c cX12_fuzzy 3 (some .int) A D cI cJ cZ) {post : Int32 → mS → Prop}   (x1 : Int32) (x2 : Int32) (t0 : Int32) (t1 : Int32) (v : Nat → Int32) (f : Nat → Nat → Int32) (g : Nat → Nat → Int64) (h : r_fuzzy_30 (fun r v f g => post r (v, f, g))  x1 x2 t0 t1 v f g) : mG p l e (mRm 4 85) s m args below meth c A D cI cJ cZ a 3 (MQ below (va_Qi post (mB D cI cJ cZ a) A) args s 0 0 A) 30 [(0, .ref (a 0)), (1, .int x1), (2, .int x2)] [.int t0, .int t1, .ref (a 0)] v f g := by
  unfold r_fuzzy_30 at h
  refine mg_iconst C (x := nI 0) rfl dX12_fuzzy_30 ?_
  exact mg_sub [0, 1, 2] rfl (sb_fuzzy_31 C  x1 x2 ((nI 0)) t0 t1 v f g h)
end S_fuzzy
set_option maxHeartbeats 1000000 in
set_option maxRecDepth 20000 in
theorem s_fuzzy (l : Launch) (x1 : Int32) (x2 : Int32) (v : Nat → Int32) (f : Nat → Nat → Int32) (g : Nat → Nat → Int64) {P : Int32 → (Nat → Int32) → (Nat → Nat → Int32) → (Nat → Nat → Int64) → Prop} (h : r_fuzzy P x1 x2 v f g) : mMi l yX12_fuzzy cX12_fuzzy 3 (some .int) 4 85 false [.int x1, .int x2] v f g (fun r w => P r w.1 w.2.1 w.2.2) := by
  intro D cI cJ cZ a sz
  refine mg_body (by decide +kernel) rfl (Nat.le_of_ble_eq_true rfl) ?_
  intro p e s m args below meth c hsz C
  clear hsz
  generalize va_A (mW cI cJ cZ a v f g) sz = A at C ⊢
  refine mg_lv (lv' := [(0, .ref (a 0)), (1, .int x1), (2, .int x2)]) rfl ?_
  unfold r_fuzzy at h
  refine mg_aload_n C (i := 0) rfl 0 rfl dX12_fuzzy_0 ?_
  refine mg_aload_n C (i := 0) rfl 0 rfl dX12_fuzzy_1 ?_
  refine mg_iload_n C (i := 1) rfl 1 rfl dX12_fuzzy_2 ?_
  refine mg_calliW C (s_isField l x1 v f g h) mCal_isField rfl ⟨by decide, by decide⟩ rfl (Nat.le_of_ble_eq_true rfl) dX12_fuzzy_3 (fun r_1 v_1 f_1 g_1 h => ?_)
  refine mg_iload_n C (i := 2) rfl 2 rfl dX12_fuzzy_6 ?_
  refine mg_iconst C (x := nI 0) rfl dX12_fuzzy_7 ?_
  refine mg_iconst C (x := nI 2) rfl dX12_fuzzy_8 ?_
  refine mg_callsiW C (s_in l x2 ((nI 0)) ((nI 2)) v_1 f_1 g_1 h) mCal_in rfl ⟨by decide, by decide⟩ rfl (Nat.le_of_ble_eq_true rfl) dX12_fuzzy_9 (fun r_2 v_2 f_2 g_2 h => ?_)
  refine mg_aload_n C (i := 0) rfl 0 rfl dX12_fuzzy_12 ?_
  refine mg_calliW C (s_hasWordAlone l  v_2 f_2 g_2 h) mCal_hasWordAlone rfl ⟨by decide, by decide⟩ rfl (Nat.le_of_ble_eq_true rfl) dX12_fuzzy_13 (fun r_3 v_3 f_3 g_3 h => ?_)
  refine mg_if_eq C 30 (by decide) dX12_fuzzy_16 (fun c_ => ?_) (fun c_ => ?_)
  · have h := h.1 c_
    exact mg_sub [0, 1, 2] rfl (sb_fuzzy_30 C  x1 x2 r_2 r_1 v_3 f_3 g_3 h)
  · have h := h.2 c_
    refine mg_aload_n C (i := 0) rfl 0 rfl dX12_fuzzy_19 ?_
    refine mg_calliW C (s_hasRoom l  v_3 f_3 g_3 h) mCal_hasRoom rfl ⟨by decide, by decide⟩ rfl (Nat.le_of_ble_eq_true rfl) dX12_fuzzy_20 (fun r_6 v_6 f_6 g_6 h => ?_)
    refine mg_if_eq C 30 (by decide) dX12_fuzzy_23 (fun c_ => ?_) (fun c_ => ?_)
    · have h := h.1 c_
      exact mg_sub [0, 1, 2] rfl (sb_fuzzy_30 C  x1 x2 r_2 r_1 v_6 f_6 g_6 h)
    · have h := h.2 c_
      refine mg_iconst C (x := nI 1) rfl dX12_fuzzy_26 ?_
      refine mg_goto C 31 (by decide) dX12_fuzzy_27 ?_
      exact mg_sub [0, 1, 2] rfl (sb_fuzzy_31 C  x1 x2 ((nI 1)) r_2 r_1 v_6 f_6 g_6 h)
def r_joins (Q : Int32 → (Nat → Int32) → (Nat → Nat → Int32) → (Nat → Nat → Int64) → Prop) (x1 : Int32) (x2 : Int32) (x3 : Int32) (v : Nat → Int32) (f : Nat → Nat → Int32) (g : Nat → Nat → Int64) : Prop :=
r_draftAt (fun r_1 v_1 f_1 g_1 => 
vp_in ((nI 40)) 41 ∧ (∀ x4_2 : Int32, x4_2 = (r_1 + ((f_1 48 ((nI 40)).toNatClampNeg))) → vp_in x4_2 1968 ∧ (∀ f3 : Nat → Nat → Int32, f3 = mU f_1 40 (x4_2).toNatClampNeg x1 → vp_in x4_2 1968 ∧ (∀ f4 : Nat → Nat → Int32, f4 = mU f3 44 (x4_2).toNatClampNeg x2 → vp_in x4_2 1968 ∧ (∀ f5 : Nat → Nat → Int32, f5 = mU f4 42 (x4_2).toNatClampNeg x3 → vp_in ((nI 40)) 41 ∧ (vp_in ((nI 40)) 41 ∧ (∀ f6 : Nat → Nat → Int32, f6 = mU f5 48 ((nI 40)).toNatClampNeg ((((f5 48 ((nI 40)).toNatClampNeg)) + ((nI 1)))) → ∀ v7 : Nat → Int32, v7 = upd v_1 72 ((((v_1 72)) - ((x2 - ((nI 1)))))) → Q ((v7 72)) v7 f6 g_1)))))))  v f g
set_option maxHeartbeats 1000000 in
set_option maxRecDepth 20000 in
theorem s_joins (l : Launch) (x1 : Int32) (x2 : Int32) (x3 : Int32) (v : Nat → Int32) (f : Nat → Nat → Int32) (g : Nat → Nat → Int64) {P : Int32 → (Nat → Int32) → (Nat → Nat → Int32) → (Nat → Nat → Int64) → Prop} (h : r_joins P x1 x2 x3 v f g) : mMi l yX12_joins cX12_joins 5 (some .int) 1 19 false [.int x1, .int x2, .int x3] v f g (fun r w => P r w.1 w.2.1 w.2.2) := by
  intro D cI cJ cZ a sz
  refine mg_body (by decide +kernel) rfl (Nat.le_of_ble_eq_true rfl) ?_
  intro p e s m args below meth c hsz C
  clear hsz
  generalize va_A (mW cI cJ cZ a v f g) sz = A at C ⊢
  refine mg_lv (lv' := [(0, .ref (a 0)), (1, .int x1), (2, .int x2), (3, .int x3)]) rfl ?_
  unfold r_joins at h
  refine mg_callsiW C (s_draftAt l  v f g h) mCal_draftAt rfl ⟨by decide, by decide⟩ rfl (Nat.le_of_ble_eq_true rfl) dX12_joins_0 (fun r_1 v_1 f_1 g_1 h => ?_)
  refine mg_aload_n C (i := 0) rfl 0 rfl dX12_joins_3 ?_
  refine mg_arr C 48 (by decide) (by decide) rfl mL_opsMany rfl dX12_joins_4 ?_
  refine mg_bipush C (x := nI 40) rfl dX12_joins_7 ?_
  obtain ⟨hc_9, h⟩ := h
  refine mg_ialoadR C (n := 41) 48 (by decide) (by decide) rfl rfl hc_9 dX12_joins_9 ?_
  refine mg_iadd C dX12_joins_10 ?_
  refine mg_nmI (fun x4_2 e_x4_2 => ?_)
  have h := h x4_2 e_x4_2
  refine mg_istore C (lv' := [(4, .int x4_2), (0, .ref (a 0)), (1, .int x1), (2, .int x2), (3, .int x3)]) (Nat.le_of_ble_eq_true rfl) rfl dX12_joins_11 ?_
  refine mg_aload_n C (i := 0) rfl 1 rfl dX12_joins_13 ?_
  refine mg_arr C 40 (by decide) (by decide) rfl mL_kinds rfl dX12_joins_14 ?_
  refine mg_iload C 0 rfl dX12_joins_17 ?_
  refine mg_iload_n C (i := 1) rfl 2 rfl dX12_joins_19 ?_
  obtain ⟨hc_20, h⟩ := h
  refine mg_iastoreR C (n := 1968) 40 (by decide) (by decide) rfl rfl hc_20 dX12_joins_20 ?_
  refine mg_nmF (fun f3 e_f3 => ?_)
  have h := h f3 e_f3
  refine mg_aload_n C (i := 0) rfl 1 rfl dX12_joins_21 ?_
  refine mg_arr C 44 (by decide) (by decide) rfl mL_many rfl dX12_joins_22 ?_
  refine mg_iload C 0 rfl dX12_joins_25 ?_
  refine mg_iload_n C (i := 2) rfl 3 rfl dX12_joins_27 ?_
  obtain ⟨hc_28, h⟩ := h
  refine mg_iastoreR C (n := 1968) 44 (by decide) (by decide) rfl rfl hc_28 dX12_joins_28 ?_
  refine mg_nmF (fun f4 e_f4 => ?_)
  have h := h f4 e_f4
  refine mg_aload_n C (i := 0) rfl 1 rfl dX12_joins_29 ?_
  refine mg_arr C 42 (by decide) (by decide) rfl mL_amounts rfl dX12_joins_30 ?_
  refine mg_iload C 0 rfl dX12_joins_33 ?_
  refine mg_iload_n C (i := 3) rfl 4 rfl dX12_joins_35 ?_
  obtain ⟨hc_36, h⟩ := h
  refine mg_iastoreR C (n := 1968) 42 (by decide) (by decide) rfl rfl hc_36 dX12_joins_36 ?_
  refine mg_nmF (fun f5 e_f5 => ?_)
  have h := h f5 e_f5
  refine mg_aload_n C (i := 0) rfl 1 rfl dX12_joins_37 ?_
  refine mg_arr C 48 (by decide) (by decide) rfl mL_opsMany rfl dX12_joins_38 ?_
  refine mg_bipush C (x := nI 40) rfl dX12_joins_41 ?_
  refine mg_dup2 C rfl rfl dX12_joins_43 ?_
  obtain ⟨hc_44, h⟩ := h
  refine mg_ialoadR C (n := 41) 48 (by decide) (by decide) rfl rfl hc_44 dX12_joins_44 ?_
  refine mg_iconst C (x := nI 1) rfl dX12_joins_45 ?_
  refine mg_iadd C dX12_joins_46 ?_
  obtain ⟨hc_47, h⟩ := h
  refine mg_iastoreR C (n := 41) 48 (by decide) (by decide) rfl rfl hc_47 dX12_joins_47 ?_
  refine mg_nmF (fun f6 e_f6 => ?_)
  have h := h f6 e_f6
  refine mg_aload_n C (i := 0) rfl 1 rfl dX12_joins_48 ?_
  refine mg_dup C rfl dX12_joins_49 ?_
  refine mg_getI C (k := 72) (by decide) rfl mL_partsMany rfl dX12_joins_50 ?_
  refine mg_iload_n C (i := 2) rfl 3 rfl dX12_joins_53 ?_
  refine mg_iconst C (x := nI 1) rfl dX12_joins_54 ?_
  refine mg_isub C dX12_joins_55 ?_
  refine mg_isub C dX12_joins_56 ?_
  refine mg_put C (k := 72) (by decide) rfl mL_partsMany rfl (by decide +kernel) mT_partsMany rfl rfl dX12_joins_57 ?_
  refine mg_nmV (fun v7 e_v7 => ?_)
  have h := h v7 e_v7
  refine mg_aload_n C (i := 0) rfl 1 rfl dX12_joins_60 ?_
  refine mg_getI C (k := 72) (by decide) rfl mL_partsMany rfl dX12_joins_61 ?_
  exact mg_iret C h dX12_joins_64
def r_least_38 (Q : Int32 → (Nat → Int32) → (Nat → Nat → Int32) → (Nat → Nat → Int64) → Prop)  (x1 : Int32) (x2 : Int32) (t0 : Int32) (t1 : Int32) (v : Nat → Int32) (f : Nat → Nat → Int32) (g : Nat → Nat → Int64) : Prop :=
r_goes (fun r_2 v_2 f_2 g_2 => 
((r_2 = 0 →
  Q ((nI 0)) v_2 f_2 g_2) ∧
 (¬ r_2 = 0 →
  r_joins (fun r_3 v_3 f_3 g_3 => 
  Q r_3 v_3 f_3 g_3) ((nI 6)) x1 x2 v_2 f_2 g_2))) t1 t0 ((nI 1)) v f g
def r_least_25 (Q : Int32 → (Nat → Int32) → (Nat → Nat → Int32) → (Nat → Nat → Int64) → Prop)  (x1 : Int32) (x2 : Int32) (t0 : Int32) (v : Nat → Int32) (f : Nat → Nat → Int32) (g : Nat → Nat → Int64) : Prop :=
((((v 72)) < x1 →
  r_least_38 Q  x1 x2 ((nI 0)) t0 v f g) ∧
 (¬ ((v 72)) < x1 →
  r_least_38 Q  x1 x2 ((nI 1)) t0 v f g))
def r_least_24 (Q : Int32 → (Nat → Int32) → (Nat → Nat → Int32) → (Nat → Nat → Int64) → Prop)  (x1 : Int32) (x2 : Int32) (v : Nat → Int32) (f : Nat → Nat → Int32) (g : Nat → Nat → Int64) : Prop :=
r_least_25 Q  x1 x2 ((nI 0)) v f g
def r_least (Q : Int32 → (Nat → Int32) → (Nat → Nat → Int32) → (Nat → Nat → Int64) → Prop) (x1 : Int32) (x2 : Int32) (v : Nat → Int32) (f : Nat → Nat → Int32) (g : Nat → Nat → Int64) : Prop :=
r_in (fun r_1 v_1 f_1 g_1 => 
((r_1 = 0 →
  r_least_24 Q  x1 x2 v_1 f_1 g_1) ∧
 (¬ r_1 = 0 →
  r_in (fun r_4 v_4 f_4 g_4 => 
  ((r_4 = 0 →
    r_least_24 Q  x1 x2 v_4 f_4 g_4) ∧
   (¬ r_4 = 0 →
    r_least_25 Q  x1 x2 ((nI 1)) v_4 f_4 g_4))) x2 ((nI 1)) x1 v_1 f_1 g_1))) x1 ((nI 2)) ((nI 8)) v f g
section S_least
variable {p : Program} {l : Launch} {e : Env} {s : State} {m : MethodId} {args : Array Value} {below : List Frame} {meth : Method} {c : Code} {A : Nat → Prop} {D : va_G} {cI cJ cZ : ClassId} {a : Nat → Nat}
set_option maxRecDepth 20000 in
theorem sb_least_38 (C : mC p s m args meth c cX12_least 3 (some .int) A D cI cJ cZ) {post : Int32 → mS → Prop}   (x1 : Int32) (x2 : Int32) (t0 : Int32) (t1 : Int32) (v : Nat → Int32) (f : Nat → Nat → Int32) (g : Nat → Nat → Int64) (h : r_least_38 (fun r v f g => post r (v, f, g))  x1 x2 t0 t1 v f g) : mG p l e (mRm 2 43) s m args below meth c A D cI cJ cZ a 3 (MQ below (va_Qi post (mB D cI cJ cZ a) A) args s 0 0 A) 38 [(0, .ref (a 0)), (1, .int x1), (2, .int x2)] [.int t0, .int t1, .ref (a 0)] v f g := by
  unfold r_least_38 at h
  refine mg_iconst C (x := nI 1) rfl dX12_least_38 ?_
  refine mg_calliW C (s_goes l t1 t0 ((nI 1)) v f g h) mCal_goes rfl ⟨by decide, by decide⟩ rfl (Nat.le_of_ble_eq_true rfl) dX12_least_39 (fun r_2 v_2 f_2 g_2 h => ?_)
  refine mg_if_eq C 56 (by decide) dX12_least_42 (fun c_ => ?_) (fun c_ => ?_)
  · have h := h.1 c_
    refine mg_iconst C (x := nI 0) rfl dX12_least_56 ?_
    exact mg_iret C h dX12_least_57
  · have h := h.2 c_
    refine mg_aload_n C (i := 0) rfl 0 rfl dX12_least_45 ?_
    refine mg_bipush C (x := nI 6) rfl dX12_least_46 ?_
    refine mg_iload_n C (i := 1) rfl 1 rfl dX12_least_48 ?_
    refine mg_iload_n C (i := 2) rfl 2 rfl dX12_least_49 ?_
    refine mg_calliW C (s_joins l ((nI 6)) x1 x2 v_2 f_2 g_2 h) mCal_joins rfl ⟨by decide, by decide⟩ rfl (Nat.le_of_ble_eq_true rfl) dX12_least_50 (fun r_3 v_3 f_3 g_3 h => ?_)
    refine mg_goto C 57 (by decide) dX12_least_53 ?_
    exact mg_iret C h dX12_least_57
set_option maxRecDepth 20000 in
theorem sb_least_25 (C : mC p s m args meth c cX12_least 3 (some .int) A D cI cJ cZ) {post : Int32 → mS → Prop}   (x1 : Int32) (x2 : Int32) (t0 : Int32) (v : Nat → Int32) (f : Nat → Nat → Int32) (g : Nat → Nat → Int64) (h : r_least_25 (fun r v f g => post r (v, f, g))  x1 x2 t0 v f g) : mG p l e (mRm 2 43) s m args below meth c A D cI cJ cZ a 3 (MQ below (va_Qi post (mB D cI cJ cZ a) A) args s 0 0 A) 25 [(0, .ref (a 0)), (1, .int x1), (2, .int x2)] [.int t0, .ref (a 0)] v f g := by
  unfold r_least_25 at h
  refine mg_aload_n C (i := 0) rfl 0 rfl dX12_least_25 ?_
  refine mg_getI C (k := 72) (by decide) rfl mL_partsMany rfl dX12_least_26 ?_
  refine mg_iload_n C (i := 1) rfl 1 rfl dX12_least_29 ?_
  refine mg_icmp_lt C 37 (by decide) dX12_least_30 (fun c_ => ?_) (fun c_ => ?_)
  · have h := h.1 c_
    refine mg_iconst C (x := nI 0) rfl dX12_least_37 ?_
    exact mg_sub [0, 1, 2] rfl (sb_least_38 C  x1 x2 ((nI 0)) t0 v f g h)
  · have h := h.2 c_
    refine mg_iconst C (x := nI 1) rfl dX12_least_33 ?_
    refine mg_goto C 38 (by decide) dX12_least_34 ?_
    exact mg_sub [0, 1, 2] rfl (sb_least_38 C  x1 x2 ((nI 1)) t0 v f g h)
set_option maxRecDepth 20000 in
theorem sb_least_24 (C : mC p s m args meth c cX12_least 3 (some .int) A D cI cJ cZ) {post : Int32 → mS → Prop}   (x1 : Int32) (x2 : Int32) (v : Nat → Int32) (f : Nat → Nat → Int32) (g : Nat → Nat → Int64) (h : r_least_24 (fun r v f g => post r (v, f, g))  x1 x2 v f g) : mG p l e (mRm 2 43) s m args below meth c A D cI cJ cZ a 3 (MQ below (va_Qi post (mB D cI cJ cZ a) A) args s 0 0 A) 24 [(0, .ref (a 0)), (1, .int x1), (2, .int x2)] [.ref (a 0)] v f g := by
  unfold r_least_24 at h
  refine mg_iconst C (x := nI 0) rfl dX12_least_24 ?_
  exact mg_sub [0, 1, 2] rfl (sb_least_25 C  x1 x2 ((nI 0)) v f g h)
end S_least
set_option maxHeartbeats 1000000 in
set_option maxRecDepth 20000 in
theorem s_least (l : Launch) (x1 : Int32) (x2 : Int32) (v : Nat → Int32) (f : Nat → Nat → Int32) (g : Nat → Nat → Int64) {P : Int32 → (Nat → Int32) → (Nat → Nat → Int32) → (Nat → Nat → Int64) → Prop} (h : r_least P x1 x2 v f g) : mMi l yX12_least cX12_least 3 (some .int) 2 43 false [.int x1, .int x2] v f g (fun r w => P r w.1 w.2.1 w.2.2) := by
  intro D cI cJ cZ a sz
  refine mg_body (by decide +kernel) rfl (Nat.le_of_ble_eq_true rfl) ?_
  intro p e s m args below meth c hsz C
  clear hsz
  generalize va_A (mW cI cJ cZ a v f g) sz = A at C ⊢
  refine mg_lv (lv' := [(0, .ref (a 0)), (1, .int x1), (2, .int x2)]) rfl ?_
  unfold r_least at h
  refine mg_aload_n C (i := 0) rfl 0 rfl dX12_least_0 ?_
  refine mg_iload_n C (i := 1) rfl 1 rfl dX12_least_1 ?_
  refine mg_iconst C (x := nI 2) rfl dX12_least_2 ?_
  refine mg_bipush C (x := nI 8) rfl dX12_least_3 ?_
  refine mg_callsiW C (s_in l x1 ((nI 2)) ((nI 8)) v f g h) mCal_in rfl ⟨by decide, by decide⟩ rfl (Nat.le_of_ble_eq_true rfl) dX12_least_5 (fun r_1 v_1 f_1 g_1 h => ?_)
  refine mg_if_eq C 24 (by decide) dX12_least_8 (fun c_ => ?_) (fun c_ => ?_)
  · have h := h.1 c_
    exact mg_sub [0, 1, 2] rfl (sb_least_24 C  x1 x2 v_1 f_1 g_1 h)
  · have h := h.2 c_
    refine mg_iload_n C (i := 2) rfl 2 rfl dX12_least_11 ?_
    refine mg_iconst C (x := nI 1) rfl dX12_least_12 ?_
    refine mg_iload_n C (i := 1) rfl 1 rfl dX12_least_13 ?_
    refine mg_callsiW C (s_in l x2 ((nI 1)) x1 v_1 f_1 g_1 h) mCal_in rfl ⟨by decide, by decide⟩ rfl (Nat.le_of_ble_eq_true rfl) dX12_least_14 (fun r_4 v_4 f_4 g_4 h => ?_)
    refine mg_if_eq C 24 (by decide) dX12_least_17 (fun c_ => ?_) (fun c_ => ?_)
    · have h := h.1 c_
      exact mg_sub [0, 1, 2] rfl (sb_least_24 C  x1 x2 v_4 f_4 g_4 h)
    · have h := h.2 c_
      refine mg_iconst C (x := nI 1) rfl dX12_least_20 ?_
      refine mg_goto C 25 (by decide) dX12_least_21 ?_
      exact mg_sub [0, 1, 2] rfl (sb_least_25 C  x1 x2 ((nI 1)) v_4 f_4 g_4 h)
def r_but_14 (Q : Int32 → (Nat → Int32) → (Nat → Nat → Int32) → (Nat → Nat → Int64) → Prop)  (t0 : Int32) (v : Nat → Int32) (f : Nat → Nat → Int32) (g : Nat → Nat → Int64) : Prop :=
r_goes (fun r_1 v_1 f_1 g_1 => 
((r_1 = 0 →
  Q ((nI 0)) v_1 f_1 g_1) ∧
 (¬ r_1 = 0 →
  r_joins (fun r_2 v_2 f_2 g_2 => 
  Q r_2 v_2 f_2 g_2) ((nI 7)) ((nI 2)) ((nI 0)) v_1 f_1 g_1))) t0 ((nI 1)) ((nI 1)) v f g
def r_but (Q : Int32 → (Nat → Int32) → (Nat → Nat → Int32) → (Nat → Nat → Int64) → Prop)  (v : Nat → Int32) (f : Nat → Nat → Int32) (g : Nat → Nat → Int64) : Prop :=
((((v 72)) < ((nI 2)) →
  r_but_14 Q  ((nI 0)) v f g) ∧
 (¬ ((v 72)) < ((nI 2)) →
  r_but_14 Q  ((nI 1)) v f g))
section S_but
variable {p : Program} {l : Launch} {e : Env} {s : State} {m : MethodId} {args : Array Value} {below : List Frame} {meth : Method} {c : Code} {A : Nat → Prop} {D : va_G} {cI cJ cZ : ClassId} {a : Nat → Nat}
set_option maxRecDepth 20000 in
theorem sb_but_14 (C : mC p s m args meth c cX12_but 1 (some .int) A D cI cJ cZ) {post : Int32 → mS → Prop}   (t0 : Int32) (v : Nat → Int32) (f : Nat → Nat → Int32) (g : Nat → Nat → Int64) (h : r_but_14 (fun r v f g => post r (v, f, g))  t0 v f g) : mG p l e (mRm 2 43) s m args below meth c A D cI cJ cZ a 1 (MQ below (va_Qi post (mB D cI cJ cZ a) A) args s 0 0 A) 14 [(0, .ref (a 0))] [.int t0, .ref (a 0)] v f g := by
  unfold r_but_14 at h
  refine mg_iconst C (x := nI 1) rfl dX12_but_14 ?_
  refine mg_iconst C (x := nI 1) rfl dX12_but_15 ?_
  refine mg_calliW C (s_goes l t0 ((nI 1)) ((nI 1)) v f g h) mCal_goes rfl ⟨by decide, by decide⟩ rfl (Nat.le_of_ble_eq_true rfl) dX12_but_16 (fun r_1 v_1 f_1 g_1 h => ?_)
  refine mg_if_eq C 33 (by decide) dX12_but_19 (fun c_ => ?_) (fun c_ => ?_)
  · have h := h.1 c_
    refine mg_iconst C (x := nI 0) rfl dX12_but_33 ?_
    exact mg_iret C h dX12_but_34
  · have h := h.2 c_
    refine mg_aload_n C (i := 0) rfl 0 rfl dX12_but_22 ?_
    refine mg_bipush C (x := nI 7) rfl dX12_but_23 ?_
    refine mg_iconst C (x := nI 2) rfl dX12_but_25 ?_
    refine mg_iconst C (x := nI 0) rfl dX12_but_26 ?_
    refine mg_calliW C (s_joins l ((nI 7)) ((nI 2)) ((nI 0)) v_1 f_1 g_1 h) mCal_joins rfl ⟨by decide, by decide⟩ rfl (Nat.le_of_ble_eq_true rfl) dX12_but_27 (fun r_2 v_2 f_2 g_2 h => ?_)
    refine mg_goto C 34 (by decide) dX12_but_30 ?_
    exact mg_iret C h dX12_but_34
end S_but
set_option maxHeartbeats 1000000 in
set_option maxRecDepth 20000 in
theorem s_but (l : Launch)  (v : Nat → Int32) (f : Nat → Nat → Int32) (g : Nat → Nat → Int64) {P : Int32 → (Nat → Int32) → (Nat → Nat → Int32) → (Nat → Nat → Int64) → Prop} (h : r_but P  v f g) : mMi l yX12_but cX12_but 1 (some .int) 2 43 false [] v f g (fun r w => P r w.1 w.2.1 w.2.2) := by
  intro D cI cJ cZ a sz
  refine mg_body (by decide +kernel) rfl (Nat.le_of_ble_eq_true rfl) ?_
  intro p e s m args below meth c hsz C
  clear hsz
  generalize va_A (mW cI cJ cZ a v f g) sz = A at C ⊢
  refine mg_lv (lv' := [(0, .ref (a 0))]) rfl ?_
  unfold r_but at h
  refine mg_aload_n C (i := 0) rfl 0 rfl dX12_but_0 ?_
  refine mg_aload_n C (i := 0) rfl 0 rfl dX12_but_1 ?_
  refine mg_getI C (k := 72) (by decide) rfl mL_partsMany rfl dX12_but_2 ?_
  refine mg_iconst C (x := nI 2) rfl dX12_but_5 ?_
  refine mg_icmp_lt C 13 (by decide) dX12_but_6 (fun c_ => ?_) (fun c_ => ?_)
  · have h := h.1 c_
    refine mg_iconst C (x := nI 0) rfl dX12_but_13 ?_
    exact mg_sub [0] rfl (sb_but_14 C  ((nI 0)) v f g h)
  · have h := h.2 c_
    refine mg_iconst C (x := nI 1) rfl dX12_but_9 ?_
    refine mg_goto C 14 (by decide) dX12_but_10 ?_
    exact mg_sub [0] rfl (sb_but_14 C  ((nI 1)) v f g h)
def r_scraps (Q : (Nat → Int32) → (Nat → Nat → Int32) → (Nat → Nat → Int64) → Prop)  (v : Nat → Int32) (f : Nat → Nat → Int32) (g : Nat → Nat → Int64) : Prop :=
vp_in ((nI 40)) 41 ∧ (∀ f1 : Nat → Nat → Int32, f1 = mU f 48 ((nI 40)).toNatClampNeg ((nI 0)) → ∀ v2 : Nat → Int32, v2 = upd v 71 ((nI 0)) → ∀ v3 : Nat → Int32, v3 = upd v2 72 ((nI 0)) → Q v3 f1 g)
set_option maxHeartbeats 1000000 in
set_option maxRecDepth 20000 in
theorem s_scraps (l : Launch)  (v : Nat → Int32) (f : Nat → Nat → Int32) (g : Nat → Nat → Int64) {P : (Nat → Int32) → (Nat → Nat → Int32) → (Nat → Nat → Int64) → Prop} (h : r_scraps P  v f g) : mMv l yX12_scraps cX12_scraps 1 none 0 0 false [] v f g (fun w => P w.1 w.2.1 w.2.2) := by
  intro D cI cJ cZ a sz
  refine mg_body (by decide +kernel) rfl (Nat.le_of_ble_eq_true rfl) ?_
  intro p e s m args below meth c hsz C
  clear hsz
  generalize va_A (mW cI cJ cZ a v f g) sz = A at C ⊢
  refine mg_lv (lv' := [(0, .ref (a 0))]) rfl ?_
  unfold r_scraps at h
  refine mg_aload_n C (i := 0) rfl 0 rfl dX12_scraps_0 ?_
  refine mg_arr C 48 (by decide) (by decide) rfl mL_opsMany rfl dX12_scraps_1 ?_
  refine mg_bipush C (x := nI 40) rfl dX12_scraps_4 ?_
  refine mg_iconst C (x := nI 0) rfl dX12_scraps_6 ?_
  obtain ⟨hc_7, h⟩ := h
  refine mg_iastoreR C (n := 41) 48 (by decide) (by decide) rfl rfl hc_7 dX12_scraps_7 ?_
  refine mg_nmF (fun f1 e_f1 => ?_)
  have h := h f1 e_f1
  refine mg_aload_n C (i := 0) rfl 0 rfl dX12_scraps_8 ?_
  refine mg_iconst C (x := nI 0) rfl dX12_scraps_9 ?_
  refine mg_put C (k := 71) (by decide) rfl mL_leaves rfl (by decide +kernel) mT_leaves rfl rfl dX12_scraps_10 ?_
  refine mg_nmV (fun v2 e_v2 => ?_)
  have h := h v2 e_v2
  refine mg_aload_n C (i := 0) rfl 0 rfl dX12_scraps_13 ?_
  refine mg_iconst C (x := nI 0) rfl dX12_scraps_14 ?_
  refine mg_put C (k := 72) (by decide) rfl mL_partsMany rfl (by decide +kernel) mT_partsMany rfl rfl dX12_scraps_15 ?_
  refine mg_nmV (fun v3 e_v3 => ?_)
  have h := h v3 e_v3
  exact mg_vret C h dX12_scraps_18
def r_query_200 (Q : Int32 → (Nat → Int32) → (Nat → Nat → Int32) → (Nat → Nat → Int64) → Prop) (R51 : Int32 → (Nat → Int32) → (Nat → Nat → Int32) → (Nat → Nat → Int64) → Prop) (R200 : Int32 → Int32 → Int32 → Int32 → (Nat → Int32) → (Nat → Nat → Int32) → (Nat → Nat → Int64) → Prop) (x1 : Int32) (x2 : Int32) (x3 : Int32) (x4 : Int32) (v : Nat → Int32) (f : Nat → Nat → Int32) (g : Nat → Nat → Int64) : Prop :=
((((nI 12)) ≤ x4 →
  ∀ x1_13 : Int32, x1_13 = x1 + nI 1 → R51 x1_13 v f g) ∧
 (¬ ((nI 12)) ≤ x4 →
  vp_in ((((((nI 12)) * x3)) + x4)) 23616 ∧ (vp_in ((((((nI 12)) * x2)) + x4)) 23616 ∧ (∀ f14 : Nat → Nat → Int32, f14 = mU f 47 ((((((nI 12)) * x2)) + x4)).toNatClampNeg ((f 47 ((((((nI 12)) * x3)) + x4)).toNatClampNeg)) → ∀ x4_15 : Int32, x4_15 = x4 + nI 1 → R200 x1 x2 x3 x4_15 v f14 g))))
def r_query_200L (Q : Int32 → (Nat → Int32) → (Nat → Nat → Int32) → (Nat → Nat → Int64) → Prop) (R51 : Int32 → (Nat → Int32) → (Nat → Nat → Int32) → (Nat → Nat → Int64) → Prop) (x1 : Int32) (x2 : Int32) (x3 : Int32) (x4 : Int32) (v : Nat → Int32) (f : Nat → Nat → Int32) (g : Nat → Nat → Int64) : Prop :=
  lfp (X := Int32 × Int32 × Int32 × Int32 × (Nat → Int32) × (Nat → Nat → Int32) × (Nat → Nat → Int64)) (fun P y => r_query_200 Q R51 (fun b0 b1 b2 b3 v f g => P (b0, b1, b2, b3, v, f, g)) y.1 y.2.1 y.2.2.1 y.2.2.2.1 y.2.2.2.2.1 y.2.2.2.2.2.1 y.2.2.2.2.2.2) (x1, x2, x3, x4, v, f, g)
def r_query_136 (Q : Int32 → (Nat → Int32) → (Nat → Nat → Int32) → (Nat → Nat → Int64) → Prop) (R51 : Int32 → (Nat → Int32) → (Nat → Nat → Int32) → (Nat → Nat → Int64) → Prop) (R136 : Int32 → Int32 → Int32 → Int32 → (Nat → Int32) → (Nat → Nat → Int32) → (Nat → Nat → Int64) → Prop) (x1 : Int32) (x2 : Int32) (x3 : Int32) (x4 : Int32) (v : Nat → Int32) (f : Nat → Nat → Int32) (g : Nat → Nat → Int64) : Prop :=
((((nI 6)) ≤ x4 →
  r_query_200L Q R51 x1 x2 x3 (((nI 0))) v f g) ∧
 (¬ ((nI 6)) ≤ x4 →
  vp_in ((((((nI 6)) * x3)) + x4)) 11808 ∧ (vp_in ((((((nI 6)) * x2)) + x4)) 11808 ∧ (∀ g16 : Nat → Nat → Int64, g16 = mU g 45 ((((((nI 6)) * x2)) + x4)).toNatClampNeg (g 45 ((((((nI 6)) * x3)) + x4)).toNatClampNeg) → vp_in ((((((nI 6)) * x3)) + x4)) 11808 ∧ (vp_in ((((((nI 6)) * x2)) + x4)) 11808 ∧ (∀ f17 : Nat → Nat → Int32, f17 = mU f 46 ((((((nI 6)) * x2)) + x4)).toNatClampNeg ((f 46 ((((((nI 6)) * x3)) + x4)).toNatClampNeg)) → ∀ x4_18 : Int32, x4_18 = x4 + nI 1 → R136 x1 x2 x3 x4_18 v f17 g16))))))
def r_query_136L (Q : Int32 → (Nat → Int32) → (Nat → Nat → Int32) → (Nat → Nat → Int64) → Prop) (R51 : Int32 → (Nat → Int32) → (Nat → Nat → Int32) → (Nat → Nat → Int64) → Prop) (x1 : Int32) (x2 : Int32) (x3 : Int32) (x4 : Int32) (v : Nat → Int32) (f : Nat → Nat → Int32) (g : Nat → Nat → Int64) : Prop :=
  lfp (X := Int32 × Int32 × Int32 × Int32 × (Nat → Int32) × (Nat → Nat → Int32) × (Nat → Nat → Int64)) (fun P y => r_query_136 Q R51 (fun b0 b1 b2 b3 v f g => P (b0, b1, b2, b3, v, f, g)) y.1 y.2.1 y.2.2.1 y.2.2.2.1 y.2.2.2.2.1 y.2.2.2.2.2.1 y.2.2.2.2.2.2) (x1, x2, x3, x4, v, f, g)
def r_query_51 (Q : Int32 → (Nat → Int32) → (Nat → Nat → Int32) → (Nat → Nat → Int64) → Prop) (R51 : Int32 → (Nat → Int32) → (Nat → Nat → Int32) → (Nat → Nat → Int64) → Prop) (x1 : Int32) (v : Nat → Int32) (f : Nat → Nat → Int32) (g : Nat → Nat → Int64) : Prop :=
((((nI 48)) ≤ x1 →
  r_scraps (fun v_3 f_3 g_3 => 
  ∀ v4 : Nat → Int32, v4 = upd v_3 73 ((((v_3 73)) + ((nI 1)))) → Q ((((v4 73)) - ((nI 1)))) v4 f_3 g_3)  v f g) ∧
 (¬ ((nI 48)) ≤ x1 →
  ∀ x2_5 : Int32, x2_5 = (((((nI 48)) * ((v 73)))) + x1) → r_draftAt (fun r_6 v_6 f_6 g_6 => 
  ∀ x3_7 : Int32, x3_7 = (r_6 + x1) → vp_in x3_7 1968 ∧ (vp_in x2_5 1968 ∧ (∀ f8 : Nat → Nat → Int32, f8 = mU f_6 40 (x2_5).toNatClampNeg ((f_6 40 (x3_7).toNatClampNeg)) → vp_in x3_7 1968 ∧ (vp_in x2_5 1968 ∧ (∀ f9 : Nat → Nat → Int32, f9 = mU f8 41 (x2_5).toNatClampNeg ((f8 41 (x3_7).toNatClampNeg)) → vp_in x3_7 1968 ∧ (vp_in x2_5 1968 ∧ (∀ f10 : Nat → Nat → Int32, f10 = mU f9 42 (x2_5).toNatClampNeg ((f9 42 (x3_7).toNatClampNeg)) → vp_in x3_7 1968 ∧ (vp_in x2_5 1968 ∧ (isZ ((f10 43 (x3_7).toNatClampNeg)) ∧ (∀ f11 : Nat → Nat → Int32, f11 = mU f10 43 (x2_5).toNatClampNeg ((f10 43 (x3_7).toNatClampNeg)) → vp_in x3_7 1968 ∧ (vp_in x2_5 1968 ∧ (∀ f12 : Nat → Nat → Int32, f12 = mU f11 44 (x2_5).toNatClampNeg ((f11 44 (x3_7).toNatClampNeg)) → r_query_136L Q R51 x1 x2_5 x3_7 (((nI 0))) v_6 f12 g_6))))))))))))  v f g))
def r_query_51L (Q : Int32 → (Nat → Int32) → (Nat → Nat → Int32) → (Nat → Nat → Int64) → Prop)  (x1 : Int32) (v : Nat → Int32) (f : Nat → Nat → Int32) (g : Nat → Nat → Int64) : Prop :=
  lfp (X := Int32 × (Nat → Int32) × (Nat → Nat → Int32) × (Nat → Nat → Int64)) (fun P y => r_query_51 Q  (fun b0 v f g => P (b0, v, f, g)) y.1 y.2.1 y.2.2.1 y.2.2.2) (x1, v, f, g)
def r_query_23 (Q : Int32 → (Nat → Int32) → (Nat → Nat → Int32) → (Nat → Nat → Int64) → Prop)  (t0 : Int32) (v : Nat → Int32) (f : Nat → Nat → Int32) (g : Nat → Nat → Int64) : Prop :=
r_goes (fun r_1 v_1 f_1 g_1 => 
((¬ r_1 = 0 →
  vp_in ((nI 40)) 41 ∧ (vp_in ((v_1 73)) 41 ∧ (∀ f2 : Nat → Nat → Int32, f2 = mU f_1 48 ((v_1 73)).toNatClampNeg ((f_1 48 ((nI 40)).toNatClampNeg)) → r_query_51L Q  (((nI 0))) v_1 f2 g_1))) ∧
 (r_1 = 0 →
  Q ((nI 0)) v_1 f_1 g_1))) t0 ((nI 1)) ((nI 1)) v f g
def r_query_22 (Q : Int32 → (Nat → Int32) → (Nat → Nat → Int32) → (Nat → Nat → Int64) → Prop)   (v : Nat → Int32) (f : Nat → Nat → Int32) (g : Nat → Nat → Int64) : Prop :=
r_query_23 Q  ((nI 0)) v f g
def r_query (Q : Int32 → (Nat → Int32) → (Nat → Nat → Int32) → (Nat → Nat → Int64) → Prop)  (v : Nat → Int32) (f : Nat → Nat → Int32) (g : Nat → Nat → Int64) : Prop :=
((¬ ((v 72)) = ((nI 1)) →
  r_query_22 Q  v f g) ∧
 (((v 72)) = ((nI 1)) →
  ((((nI 40)) ≤ ((v 73)) →
    r_query_22 Q  v f g) ∧
   (¬ ((nI 40)) ≤ ((v 73)) →
    r_query_23 Q  ((nI 1)) v f g))))
section S_query
variable {p : Program} {l : Launch} {e : Env} {s : State} {m : MethodId} {args : Array Value} {below : List Frame} {meth : Method} {c : Code} {A : Nat → Prop} {D : va_G} {cI cJ cZ : ClassId} {a : Nat → Nat}
set_option maxRecDepth 20000 in
theorem sb_query_200 (C : mC p s m args meth c cX12_query 5 (some .int) A D cI cJ cZ) {post : Int32 → mS → Prop} {R51 : Int32 → (Nat → Int32) → (Nat → Nat → Int32) → (Nat → Nat → Int64) → Prop} {R200 : Int32 → Int32 → Int32 → Int32 → (Nat → Int32) → (Nat → Nat → Int32) → (Nat → Nat → Int64) → Prop} (hR51 : ∀ (x1 : Int32) (v : Nat → Int32) (f : Nat → Nat → Int32) (g : Nat → Nat → Int64), R51 x1 v f g → mG p l e (mRm 1 23) s m args below meth c A D cI cJ cZ a 5 (MQ below (va_Qi post (mB D cI cJ cZ a) A) args s 0 0 A) 51 [(0, .ref (a 0)), (1, .int x1)] [] v f g) (hR200 : ∀ (x1 : Int32) (x2 : Int32) (x3 : Int32) (x4 : Int32) (v : Nat → Int32) (f : Nat → Nat → Int32) (g : Nat → Nat → Int64), R200 x1 x2 x3 x4 v f g → mG p l e (mRm 1 23) s m args below meth c A D cI cJ cZ a 5 (MQ below (va_Qi post (mB D cI cJ cZ a) A) args s 0 0 A) 200 [(0, .ref (a 0)), (1, .int x1), (2, .int x2), (3, .int x3), (4, .int x4)] [] v f g) (x1 : Int32) (x2 : Int32) (x3 : Int32) (x4 : Int32) (v : Nat → Int32) (f : Nat → Nat → Int32) (g : Nat → Nat → Int64) (h : r_query_200 (fun r v f g => post r (v, f, g)) R51 R200 x1 x2 x3 x4 v f g) : mG p l e (mRm 1 23) s m args below meth c A D cI cJ cZ a 5 (MQ below (va_Qi post (mB D cI cJ cZ a) A) args s 0 0 A) 200 [(0, .ref (a 0)), (1, .int x1), (2, .int x2), (3, .int x3), (4, .int x4)] [] v f g := by
  unfold r_query_200 at h
  refine mg_iload C 4 rfl dX12_query_200 ?_
  refine mg_bipush C (x := nI 12) rfl dX12_query_202 ?_
  refine mg_icmp_ge C 237 (by decide) dX12_query_204 (fun c_ => ?_) (fun c_ => ?_)
  · have h := h.1 c_
    obtain ⟨x1_13, e_x1_13⟩ : ∃ z : Int32, z = x1 + nI 1 := ⟨_, rfl⟩
    have h := h x1_13 e_x1_13
    refine mg_iinc C (lv' := [(1, .int x1_13), (0, .ref (a 0)), (2, .int x2), (3, .int x3), (4, .int x4)]) 1 rfl (by rw [e_x1_13]; rfl) (Nat.le_of_ble_eq_true rfl) rfl dX12_query_237 ?_
    refine mg_goto C 51 (by decide) dX12_query_240 ?_
    exact mg_sub [1, 0] rfl (hR51 x1_13 v f g h)
  · have h := h.2 c_
    refine mg_aload_n C (i := 0) rfl 0 rfl dX12_query_207 ?_
    refine mg_arr C 47 (by decide) (by decide) rfl mL_wilds rfl dX12_query_208 ?_
    refine mg_bipush C (x := nI 12) rfl dX12_query_211 ?_
    refine mg_iload_n C (i := 2) rfl 2 rfl dX12_query_213 ?_
    refine mg_imul C dX12_query_214 ?_
    refine mg_iload C 4 rfl dX12_query_215 ?_
    refine mg_iadd C dX12_query_217 ?_
    refine mg_aload_n C (i := 0) rfl 0 rfl dX12_query_218 ?_
    refine mg_arr C 47 (by decide) (by decide) rfl mL_wilds rfl dX12_query_219 ?_
    refine mg_bipush C (x := nI 12) rfl dX12_query_222 ?_
    refine mg_iload_n C (i := 3) rfl 3 rfl dX12_query_224 ?_
    refine mg_imul C dX12_query_225 ?_
    refine mg_iload C 4 rfl dX12_query_226 ?_
    refine mg_iadd C dX12_query_228 ?_
    obtain ⟨hc_229, h⟩ := h
    refine mg_ialoadR C (n := 23616) 47 (by decide) (by decide) rfl rfl hc_229 dX12_query_229 ?_
    obtain ⟨hc_230, h⟩ := h
    refine mg_iastoreR C (n := 23616) 47 (by decide) (by decide) rfl rfl hc_230 dX12_query_230 ?_
    refine mg_nmF (fun f14 e_f14 => ?_)
    have h := h f14 e_f14
    obtain ⟨x4_15, e_x4_15⟩ : ∃ z : Int32, z = x4 + nI 1 := ⟨_, rfl⟩
    have h := h x4_15 e_x4_15
    refine mg_iinc C (lv' := [(4, .int x4_15), (0, .ref (a 0)), (1, .int x1), (2, .int x2), (3, .int x3)]) 4 rfl (by rw [e_x4_15]; rfl) (Nat.le_of_ble_eq_true rfl) rfl dX12_query_231 ?_
    refine mg_goto C 200 (by decide) dX12_query_234 ?_
    exact mg_sub [1, 2, 3, 4, 0] rfl (hR200 x1 x2 x3 x4_15 v f14 g h)
set_option maxRecDepth 20000 in
theorem sl_query_200 (C : mC p s m args meth c cX12_query 5 (some .int) A D cI cJ cZ) {post : Int32 → mS → Prop} {R51 : Int32 → (Nat → Int32) → (Nat → Nat → Int32) → (Nat → Nat → Int64) → Prop} (hR51 : ∀ (x1 : Int32) (v : Nat → Int32) (f : Nat → Nat → Int32) (g : Nat → Nat → Int64), R51 x1 v f g → mG p l e (mRm 1 23) s m args below meth c A D cI cJ cZ a 5 (MQ below (va_Qi post (mB D cI cJ cZ a) A) args s 0 0 A) 51 [(0, .ref (a 0)), (1, .int x1)] [] v f g) (x1 : Int32) (x2 : Int32) (x3 : Int32) (x4 : Int32) (v : Nat → Int32) (f : Nat → Nat → Int32) (g : Nat → Nat → Int64) (h : r_query_200L (fun r v f g => post r (v, f, g)) R51 x1 x2 x3 x4 v f g) : mG p l e (mRm 1 23) s m args below meth c A D cI cJ cZ a 5 (MQ below (va_Qi post (mB D cI cJ cZ a) A) args s 0 0 A) 200 [(0, .ref (a 0)), (1, .int x1), (2, .int x2), (3, .int x3), (4, .int x4)] [] v f g :=
  h (fun y => mG p l e (mRm 1 23) s m args below meth c A D cI cJ cZ a 5 (MQ below (va_Qi post (mB D cI cJ cZ a) A) args s 0 0 A) 200 [(0, .ref (a 0)), (1, .int (y.1)), (2, .int (y.2.1)), (3, .int (y.2.2.1)), (4, .int (y.2.2.2.1))] [] (y.2.2.2.2.1) (y.2.2.2.2.2.1) (y.2.2.2.2.2.2)) (fun y hy => sb_query_200 C hR51 (fun b0 b1 b2 b3 v f g z => z) (y.1) (y.2.1) (y.2.2.1) (y.2.2.2.1) (y.2.2.2.2.1) (y.2.2.2.2.2.1) (y.2.2.2.2.2.2) hy)
set_option maxRecDepth 20000 in
theorem sb_query_136 (C : mC p s m args meth c cX12_query 5 (some .int) A D cI cJ cZ) {post : Int32 → mS → Prop} {R51 : Int32 → (Nat → Int32) → (Nat → Nat → Int32) → (Nat → Nat → Int64) → Prop} {R136 : Int32 → Int32 → Int32 → Int32 → (Nat → Int32) → (Nat → Nat → Int32) → (Nat → Nat → Int64) → Prop} (hR51 : ∀ (x1 : Int32) (v : Nat → Int32) (f : Nat → Nat → Int32) (g : Nat → Nat → Int64), R51 x1 v f g → mG p l e (mRm 1 23) s m args below meth c A D cI cJ cZ a 5 (MQ below (va_Qi post (mB D cI cJ cZ a) A) args s 0 0 A) 51 [(0, .ref (a 0)), (1, .int x1)] [] v f g) (hR136 : ∀ (x1 : Int32) (x2 : Int32) (x3 : Int32) (x4 : Int32) (v : Nat → Int32) (f : Nat → Nat → Int32) (g : Nat → Nat → Int64), R136 x1 x2 x3 x4 v f g → mG p l e (mRm 1 23) s m args below meth c A D cI cJ cZ a 5 (MQ below (va_Qi post (mB D cI cJ cZ a) A) args s 0 0 A) 136 [(0, .ref (a 0)), (1, .int x1), (2, .int x2), (3, .int x3), (4, .int x4)] [] v f g) (x1 : Int32) (x2 : Int32) (x3 : Int32) (x4 : Int32) (v : Nat → Int32) (f : Nat → Nat → Int32) (g : Nat → Nat → Int64) (h : r_query_136 (fun r v f g => post r (v, f, g)) R51 R136 x1 x2 x3 x4 v f g) : mG p l e (mRm 1 23) s m args below meth c A D cI cJ cZ a 5 (MQ below (va_Qi post (mB D cI cJ cZ a) A) args s 0 0 A) 136 [(0, .ref (a 0)), (1, .int x1), (2, .int x2), (3, .int x3), (4, .int x4)] [] v f g := by
  unfold r_query_136 at h
  refine mg_iload C 4 rfl dX12_query_136 ?_
  refine mg_bipush C (x := nI 6) rfl dX12_query_138 ?_
  refine mg_icmp_ge C 197 (by decide) dX12_query_140 (fun c_ => ?_) (fun c_ => ?_)
  · have h := h.1 c_
    refine mg_iconst C (x := nI 0) rfl dX12_query_197 ?_
    refine mg_istore C (lv' := [(4, .int ((nI 0))), (0, .ref (a 0)), (1, .int x1), (2, .int x2), (3, .int x3)]) (Nat.le_of_ble_eq_true rfl) rfl dX12_query_198 ?_
    exact mg_sub [1, 2, 3, 4, 0] rfl (sl_query_200 C hR51 x1 x2 x3 (((nI 0))) v f g h)
  · have h := h.2 c_
    refine mg_aload_n C (i := 0) rfl 0 rfl dX12_query_143 ?_
    refine mg_arr C 45 (by decide) (by decide) rfl mL_leafTokens rfl dX12_query_144 ?_
    refine mg_bipush C (x := nI 6) rfl dX12_query_147 ?_
    refine mg_iload_n C (i := 2) rfl 2 rfl dX12_query_149 ?_
    refine mg_imul C dX12_query_150 ?_
    refine mg_iload C 4 rfl dX12_query_151 ?_
    refine mg_iadd C dX12_query_153 ?_
    refine mg_aload_n C (i := 0) rfl 0 rfl dX12_query_154 ?_
    refine mg_arr C 45 (by decide) (by decide) rfl mL_leafTokens rfl dX12_query_155 ?_
    refine mg_bipush C (x := nI 6) rfl dX12_query_158 ?_
    refine mg_iload_n C (i := 3) rfl 3 rfl dX12_query_160 ?_
    refine mg_imul C dX12_query_161 ?_
    refine mg_iload C 4 rfl dX12_query_162 ?_
    refine mg_iadd C dX12_query_164 ?_
    obtain ⟨hc_165, h⟩ := h
    refine mg_laloadR C (n := 11808) 45 (by decide) (by decide) rfl rfl hc_165 dX12_query_165 ?_
    obtain ⟨hc_166, h⟩ := h
    refine mg_lastoreR C (n := 11808) 45 (by decide) (by decide) rfl rfl hc_166 dX12_query_166 ?_
    refine mg_nmG (fun g16 e_g16 => ?_)
    have h := h g16 e_g16
    refine mg_aload_n C (i := 0) rfl 0 rfl dX12_query_167 ?_
    refine mg_arr C 46 (by decide) (by decide) rfl mL_leafPlaces rfl dX12_query_168 ?_
    refine mg_bipush C (x := nI 6) rfl dX12_query_171 ?_
    refine mg_iload_n C (i := 2) rfl 2 rfl dX12_query_173 ?_
    refine mg_imul C dX12_query_174 ?_
    refine mg_iload C 4 rfl dX12_query_175 ?_
    refine mg_iadd C dX12_query_177 ?_
    refine mg_aload_n C (i := 0) rfl 0 rfl dX12_query_178 ?_
    refine mg_arr C 46 (by decide) (by decide) rfl mL_leafPlaces rfl dX12_query_179 ?_
    refine mg_bipush C (x := nI 6) rfl dX12_query_182 ?_
    refine mg_iload_n C (i := 3) rfl 3 rfl dX12_query_184 ?_
    refine mg_imul C dX12_query_185 ?_
    refine mg_iload C 4 rfl dX12_query_186 ?_
    refine mg_iadd C dX12_query_188 ?_
    obtain ⟨hc_189, h⟩ := h
    refine mg_ialoadR C (n := 11808) 46 (by decide) (by decide) rfl rfl hc_189 dX12_query_189 ?_
    obtain ⟨hc_190, h⟩ := h
    refine mg_iastoreR C (n := 11808) 46 (by decide) (by decide) rfl rfl hc_190 dX12_query_190 ?_
    refine mg_nmF (fun f17 e_f17 => ?_)
    have h := h f17 e_f17
    obtain ⟨x4_18, e_x4_18⟩ : ∃ z : Int32, z = x4 + nI 1 := ⟨_, rfl⟩
    have h := h x4_18 e_x4_18
    refine mg_iinc C (lv' := [(4, .int x4_18), (0, .ref (a 0)), (1, .int x1), (2, .int x2), (3, .int x3)]) 4 rfl (by rw [e_x4_18]; rfl) (Nat.le_of_ble_eq_true rfl) rfl dX12_query_191 ?_
    refine mg_goto C 136 (by decide) dX12_query_194 ?_
    exact mg_sub [1, 2, 3, 4, 0] rfl (hR136 x1 x2 x3 x4_18 v f17 g16 h)
set_option maxRecDepth 20000 in
theorem sl_query_136 (C : mC p s m args meth c cX12_query 5 (some .int) A D cI cJ cZ) {post : Int32 → mS → Prop} {R51 : Int32 → (Nat → Int32) → (Nat → Nat → Int32) → (Nat → Nat → Int64) → Prop} (hR51 : ∀ (x1 : Int32) (v : Nat → Int32) (f : Nat → Nat → Int32) (g : Nat → Nat → Int64), R51 x1 v f g → mG p l e (mRm 1 23) s m args below meth c A D cI cJ cZ a 5 (MQ below (va_Qi post (mB D cI cJ cZ a) A) args s 0 0 A) 51 [(0, .ref (a 0)), (1, .int x1)] [] v f g) (x1 : Int32) (x2 : Int32) (x3 : Int32) (x4 : Int32) (v : Nat → Int32) (f : Nat → Nat → Int32) (g : Nat → Nat → Int64) (h : r_query_136L (fun r v f g => post r (v, f, g)) R51 x1 x2 x3 x4 v f g) : mG p l e (mRm 1 23) s m args below meth c A D cI cJ cZ a 5 (MQ below (va_Qi post (mB D cI cJ cZ a) A) args s 0 0 A) 136 [(0, .ref (a 0)), (1, .int x1), (2, .int x2), (3, .int x3), (4, .int x4)] [] v f g :=
  h (fun y => mG p l e (mRm 1 23) s m args below meth c A D cI cJ cZ a 5 (MQ below (va_Qi post (mB D cI cJ cZ a) A) args s 0 0 A) 136 [(0, .ref (a 0)), (1, .int (y.1)), (2, .int (y.2.1)), (3, .int (y.2.2.1)), (4, .int (y.2.2.2.1))] [] (y.2.2.2.2.1) (y.2.2.2.2.2.1) (y.2.2.2.2.2.2)) (fun y hy => sb_query_136 C hR51 (fun b0 b1 b2 b3 v f g z => z) (y.1) (y.2.1) (y.2.2.1) (y.2.2.2.1) (y.2.2.2.2.1) (y.2.2.2.2.2.1) (y.2.2.2.2.2.2) hy)
set_option maxRecDepth 20000 in
theorem sb_query_51 (C : mC p s m args meth c cX12_query 5 (some .int) A D cI cJ cZ) {post : Int32 → mS → Prop} {R51 : Int32 → (Nat → Int32) → (Nat → Nat → Int32) → (Nat → Nat → Int64) → Prop} (hR51 : ∀ (x1 : Int32) (v : Nat → Int32) (f : Nat → Nat → Int32) (g : Nat → Nat → Int64), R51 x1 v f g → mG p l e (mRm 1 23) s m args below meth c A D cI cJ cZ a 5 (MQ below (va_Qi post (mB D cI cJ cZ a) A) args s 0 0 A) 51 [(0, .ref (a 0)), (1, .int x1)] [] v f g) (x1 : Int32) (v : Nat → Int32) (f : Nat → Nat → Int32) (g : Nat → Nat → Int64) (h : r_query_51 (fun r v f g => post r (v, f, g)) R51 x1 v f g) : mG p l e (mRm 1 23) s m args below meth c A D cI cJ cZ a 5 (MQ below (va_Qi post (mB D cI cJ cZ a) A) args s 0 0 A) 51 [(0, .ref (a 0)), (1, .int x1)] [] v f g := by
  unfold r_query_51 at h
  refine mg_iload_n C (i := 1) rfl 1 rfl dX12_query_51 ?_
  refine mg_bipush C (x := nI 48) rfl dX12_query_52 ?_
  refine mg_icmp_ge C 243 (by decide) dX12_query_54 (fun c_ => ?_) (fun c_ => ?_)
  · have h := h.1 c_
    refine mg_aload_n C (i := 0) rfl 0 rfl dX12_query_243 ?_
    refine mg_callvW C (s_scraps l  v f g h) mCal_scraps rfl ⟨by decide, by decide⟩ rfl (Nat.le_of_ble_eq_true rfl) dX12_query_244 (fun v_3 f_3 g_3 h => ?_)
    refine mg_aload_n C (i := 0) rfl 0 rfl dX12_query_247 ?_
    refine mg_dup C rfl dX12_query_248 ?_
    refine mg_getI C (k := 73) (by decide) rfl mL_queries rfl dX12_query_249 ?_
    refine mg_iconst C (x := nI 1) rfl dX12_query_252 ?_
    refine mg_iadd C dX12_query_253 ?_
    refine mg_put C (k := 73) (by decide) rfl mL_queries rfl (by decide +kernel) mT_queries rfl rfl dX12_query_254 ?_
    refine mg_nmV (fun v4 e_v4 => ?_)
    have h := h v4 e_v4
    refine mg_aload_n C (i := 0) rfl 0 rfl dX12_query_257 ?_
    refine mg_getI C (k := 73) (by decide) rfl mL_queries rfl dX12_query_258 ?_
    refine mg_iconst C (x := nI 1) rfl dX12_query_261 ?_
    refine mg_isub C dX12_query_262 ?_
    exact mg_iret C h dX12_query_263
  · have h := h.2 c_
    refine mg_bipush C (x := nI 48) rfl dX12_query_57 ?_
    refine mg_aload_n C (i := 0) rfl 0 rfl dX12_query_59 ?_
    refine mg_getI C (k := 73) (by decide) rfl mL_queries rfl dX12_query_60 ?_
    refine mg_imul C dX12_query_63 ?_
    refine mg_iload_n C (i := 1) rfl 1 rfl dX12_query_64 ?_
    refine mg_iadd C dX12_query_65 ?_
    refine mg_nmI (fun x2_5 e_x2_5 => ?_)
    have h := h x2_5 e_x2_5
    refine mg_istore_n C (i := 2) (lv' := [(2, .int x2_5), (0, .ref (a 0)), (1, .int x1)]) rfl (Nat.le_of_ble_eq_true rfl) rfl dX12_query_66 ?_
    refine mg_callsiW C (s_draftAt l  v f g h) mCal_draftAt rfl ⟨by decide, by decide⟩ rfl (Nat.le_of_ble_eq_true rfl) dX12_query_67 (fun r_6 v_6 f_6 g_6 h => ?_)
    refine mg_iload_n C (i := 1) rfl 2 rfl dX12_query_70 ?_
    refine mg_iadd C dX12_query_71 ?_
    refine mg_nmI (fun x3_7 e_x3_7 => ?_)
    have h := h x3_7 e_x3_7
    refine mg_istore_n C (i := 3) (lv' := [(3, .int x3_7), (2, .int x2_5), (0, .ref (a 0)), (1, .int x1)]) rfl (Nat.le_of_ble_eq_true rfl) rfl dX12_query_72 ?_
    refine mg_aload_n C (i := 0) rfl 2 rfl dX12_query_73 ?_
    refine mg_arr C 40 (by decide) (by decide) rfl mL_kinds rfl dX12_query_74 ?_
    refine mg_iload_n C (i := 2) rfl 1 rfl dX12_query_77 ?_
    refine mg_aload_n C (i := 0) rfl 2 rfl dX12_query_78 ?_
    refine mg_arr C 40 (by decide) (by decide) rfl mL_kinds rfl dX12_query_79 ?_
    refine mg_iload_n C (i := 3) rfl 0 rfl dX12_query_82 ?_
    obtain ⟨hc_83, h⟩ := h
    refine mg_ialoadR C (n := 1968) 40 (by decide) (by decide) rfl rfl hc_83 dX12_query_83 ?_
    obtain ⟨hc_84, h⟩ := h
    refine mg_iastoreR C (n := 1968) 40 (by decide) (by decide) rfl rfl hc_84 dX12_query_84 ?_
    refine mg_nmF (fun f8 e_f8 => ?_)
    have h := h f8 e_f8
    refine mg_aload_n C (i := 0) rfl 2 rfl dX12_query_85 ?_
    refine mg_arr C 41 (by decide) (by decide) rfl mL_fields rfl dX12_query_86 ?_
    refine mg_iload_n C (i := 2) rfl 1 rfl dX12_query_89 ?_
    refine mg_aload_n C (i := 0) rfl 2 rfl dX12_query_90 ?_
    refine mg_arr C 41 (by decide) (by decide) rfl mL_fields rfl dX12_query_91 ?_
    refine mg_iload_n C (i := 3) rfl 0 rfl dX12_query_94 ?_
    obtain ⟨hc_95, h⟩ := h
    refine mg_ialoadR C (n := 1968) 41 (by decide) (by decide) rfl rfl hc_95 dX12_query_95 ?_
    obtain ⟨hc_96, h⟩ := h
    refine mg_iastoreR C (n := 1968) 41 (by decide) (by decide) rfl rfl hc_96 dX12_query_96 ?_
    refine mg_nmF (fun f9 e_f9 => ?_)
    have h := h f9 e_f9
    refine mg_aload_n C (i := 0) rfl 2 rfl dX12_query_97 ?_
    refine mg_arr C 42 (by decide) (by decide) rfl mL_amounts rfl dX12_query_98 ?_
    refine mg_iload_n C (i := 2) rfl 1 rfl dX12_query_101 ?_
    refine mg_aload_n C (i := 0) rfl 2 rfl dX12_query_102 ?_
    refine mg_arr C 42 (by decide) (by decide) rfl mL_amounts rfl dX12_query_103 ?_
    refine mg_iload_n C (i := 3) rfl 0 rfl dX12_query_106 ?_
    obtain ⟨hc_107, h⟩ := h
    refine mg_ialoadR C (n := 1968) 42 (by decide) (by decide) rfl rfl hc_107 dX12_query_107 ?_
    obtain ⟨hc_108, h⟩ := h
    refine mg_iastoreR C (n := 1968) 42 (by decide) (by decide) rfl rfl hc_108 dX12_query_108 ?_
    refine mg_nmF (fun f10 e_f10 => ?_)
    have h := h f10 e_f10
    refine mg_aload_n C (i := 0) rfl 2 rfl dX12_query_109 ?_
    refine mg_arr C 43 (by decide) (by decide) rfl mL_ordered rfl dX12_query_110 ?_
    refine mg_iload_n C (i := 2) rfl 1 rfl dX12_query_113 ?_
    refine mg_aload_n C (i := 0) rfl 2 rfl dX12_query_114 ?_
    refine mg_arr C 43 (by decide) (by decide) rfl mL_ordered rfl dX12_query_115 ?_
    refine mg_iload_n C (i := 3) rfl 0 rfl dX12_query_118 ?_
    obtain ⟨hc_119, h⟩ := h
    refine mg_baloadR C (n := 1968) 43 (by decide) (by decide) rfl rfl hc_119 dX12_query_119 ?_
    obtain ⟨hc_120, h⟩ := h
    obtain ⟨hz_120, h⟩ := h
    refine mg_bastoreR C (n := 1968) 43 (by decide) (by decide) rfl rfl hc_120 (isZ_vp hz_120) dX12_query_120 ?_
    refine mg_nmF (fun f11 e_f11 => ?_)
    have h := h f11 e_f11
    refine mg_aload_n C (i := 0) rfl 2 rfl dX12_query_121 ?_
    refine mg_arr C 44 (by decide) (by decide) rfl mL_many rfl dX12_query_122 ?_
    refine mg_iload_n C (i := 2) rfl 1 rfl dX12_query_125 ?_
    refine mg_aload_n C (i := 0) rfl 2 rfl dX12_query_126 ?_
    refine mg_arr C 44 (by decide) (by decide) rfl mL_many rfl dX12_query_127 ?_
    refine mg_iload_n C (i := 3) rfl 0 rfl dX12_query_130 ?_
    obtain ⟨hc_131, h⟩ := h
    refine mg_ialoadR C (n := 1968) 44 (by decide) (by decide) rfl rfl hc_131 dX12_query_131 ?_
    obtain ⟨hc_132, h⟩ := h
    refine mg_iastoreR C (n := 1968) 44 (by decide) (by decide) rfl rfl hc_132 dX12_query_132 ?_
    refine mg_nmF (fun f12 e_f12 => ?_)
    have h := h f12 e_f12
    refine mg_iconst C (x := nI 0) rfl dX12_query_133 ?_
    refine mg_istore C (lv' := [(4, .int ((nI 0))), (3, .int x3_7), (2, .int x2_5), (0, .ref (a 0)), (1, .int x1)]) (Nat.le_of_ble_eq_true rfl) rfl dX12_query_134 ?_
    exact mg_sub [3, 4, 2, 1, 0] rfl (sl_query_136 C hR51 x1 x2_5 x3_7 (((nI 0))) v_6 f12 g_6 h)
set_option maxRecDepth 20000 in
theorem sl_query_51 (C : mC p s m args meth c cX12_query 5 (some .int) A D cI cJ cZ) {post : Int32 → mS → Prop}   (x1 : Int32) (v : Nat → Int32) (f : Nat → Nat → Int32) (g : Nat → Nat → Int64) (h : r_query_51L (fun r v f g => post r (v, f, g))  x1 v f g) : mG p l e (mRm 1 23) s m args below meth c A D cI cJ cZ a 5 (MQ below (va_Qi post (mB D cI cJ cZ a) A) args s 0 0 A) 51 [(0, .ref (a 0)), (1, .int x1)] [] v f g :=
  h (fun y => mG p l e (mRm 1 23) s m args below meth c A D cI cJ cZ a 5 (MQ below (va_Qi post (mB D cI cJ cZ a) A) args s 0 0 A) 51 [(0, .ref (a 0)), (1, .int (y.1))] [] (y.2.1) (y.2.2.1) (y.2.2.2)) (fun y hy => sb_query_51 C  (fun b0 v f g z => z) (y.1) (y.2.1) (y.2.2.1) (y.2.2.2) hy)
set_option maxRecDepth 20000 in
theorem sb_query_23 (C : mC p s m args meth c cX12_query 5 (some .int) A D cI cJ cZ) {post : Int32 → mS → Prop}   (t0 : Int32) (v : Nat → Int32) (f : Nat → Nat → Int32) (g : Nat → Nat → Int64) (h : r_query_23 (fun r v f g => post r (v, f, g))  t0 v f g) : mG p l e (mRm 1 23) s m args below meth c A D cI cJ cZ a 5 (MQ below (va_Qi post (mB D cI cJ cZ a) A) args s 0 0 A) 23 [(0, .ref (a 0))] [.int t0, .ref (a 0)] v f g := by
  unfold r_query_23 at h
  refine mg_iconst C (x := nI 1) rfl dX12_query_23 ?_
  refine mg_iconst C (x := nI 1) rfl dX12_query_24 ?_
  refine mg_calliW C (s_goes l t0 ((nI 1)) ((nI 1)) v f g h) mCal_goes rfl ⟨by decide, by decide⟩ rfl (Nat.le_of_ble_eq_true rfl) dX12_query_25 (fun r_1 v_1 f_1 g_1 h => ?_)
  refine mg_if_ne C 33 (by decide) dX12_query_28 (fun c_ => ?_) (fun c_ => ?_)
  · have h := h.1 c_
    refine mg_aload_n C (i := 0) rfl 0 rfl dX12_query_33 ?_
    refine mg_arr C 48 (by decide) (by decide) rfl mL_opsMany rfl dX12_query_34 ?_
    refine mg_aload_n C (i := 0) rfl 0 rfl dX12_query_37 ?_
    refine mg_getI C (k := 73) (by decide) rfl mL_queries rfl dX12_query_38 ?_
    refine mg_aload_n C (i := 0) rfl 0 rfl dX12_query_41 ?_
    refine mg_arr C 48 (by decide) (by decide) rfl mL_opsMany rfl dX12_query_42 ?_
    refine mg_bipush C (x := nI 40) rfl dX12_query_45 ?_
    obtain ⟨hc_47, h⟩ := h
    refine mg_ialoadR C (n := 41) 48 (by decide) (by decide) rfl rfl hc_47 dX12_query_47 ?_
    obtain ⟨hc_48, h⟩ := h
    refine mg_iastoreR C (n := 41) 48 (by decide) (by decide) rfl rfl hc_48 dX12_query_48 ?_
    refine mg_nmF (fun f2 e_f2 => ?_)
    have h := h f2 e_f2
    refine mg_iconst C (x := nI 0) rfl dX12_query_49 ?_
    refine mg_istore_n C (i := 1) (lv' := [(1, .int ((nI 0))), (0, .ref (a 0))]) rfl (Nat.le_of_ble_eq_true rfl) rfl dX12_query_50 ?_
    exact mg_sub [1, 0] rfl (sl_query_51 C  (((nI 0))) v_1 f2 g_1 h)
  · have h := h.2 c_
    refine mg_iconst C (x := nI 0) rfl dX12_query_31 ?_
    exact mg_iret C h dX12_query_32
set_option maxRecDepth 20000 in
theorem sb_query_22 (C : mC p s m args meth c cX12_query 5 (some .int) A D cI cJ cZ) {post : Int32 → mS → Prop}    (v : Nat → Int32) (f : Nat → Nat → Int32) (g : Nat → Nat → Int64) (h : r_query_22 (fun r v f g => post r (v, f, g))   v f g) : mG p l e (mRm 1 23) s m args below meth c A D cI cJ cZ a 5 (MQ below (va_Qi post (mB D cI cJ cZ a) A) args s 0 0 A) 22 [(0, .ref (a 0))] [.ref (a 0)] v f g := by
  unfold r_query_22 at h
  refine mg_iconst C (x := nI 0) rfl dX12_query_22 ?_
  exact mg_sub [0] rfl (sb_query_23 C  ((nI 0)) v f g h)
end S_query
set_option maxHeartbeats 1000000 in
set_option maxRecDepth 20000 in
theorem s_query (l : Launch)  (v : Nat → Int32) (f : Nat → Nat → Int32) (g : Nat → Nat → Int64) {P : Int32 → (Nat → Int32) → (Nat → Nat → Int32) → (Nat → Nat → Int64) → Prop} (h : r_query P  v f g) : mMi l yX12_query cX12_query 5 (some .int) 1 23 false [] v f g (fun r w => P r w.1 w.2.1 w.2.2) := by
  intro D cI cJ cZ a sz
  refine mg_body (by decide +kernel) rfl (Nat.le_of_ble_eq_true rfl) ?_
  intro p e s m args below meth c hsz C
  clear hsz
  generalize va_A (mW cI cJ cZ a v f g) sz = A at C ⊢
  refine mg_lv (lv' := [(0, .ref (a 0))]) rfl ?_
  unfold r_query at h
  refine mg_aload_n C (i := 0) rfl 0 rfl dX12_query_0 ?_
  refine mg_aload_n C (i := 0) rfl 0 rfl dX12_query_1 ?_
  refine mg_getI C (k := 72) (by decide) rfl mL_partsMany rfl dX12_query_2 ?_
  refine mg_iconst C (x := nI 1) rfl dX12_query_5 ?_
  refine mg_icmp_ne C 22 (by decide) dX12_query_6 (fun c_ => ?_) (fun c_ => ?_)
  · have h := h.1 c_
    exact mg_sub [0] rfl (sb_query_22 C  v f g h)
  · have h := h.2 c_
    refine mg_aload_n C (i := 0) rfl 0 rfl dX12_query_9 ?_
    refine mg_getI C (k := 73) (by decide) rfl mL_queries rfl dX12_query_10 ?_
    refine mg_bipush C (x := nI 40) rfl dX12_query_13 ?_
    refine mg_icmp_ge C 22 (by decide) dX12_query_15 (fun c_ => ?_) (fun c_ => ?_)
    · have h := h.1 c_
      exact mg_sub [0] rfl (sb_query_22 C  v f g h)
    · have h := h.2 c_
      refine mg_iconst C (x := nI 1) rfl dX12_query_18 ?_
      refine mg_goto C 23 (by decide) dX12_query_19 ?_
      exact mg_sub [0] rfl (sb_query_23 C  ((nI 1)) v f g h)
def r_scrap (Q : Int32 → (Nat → Int32) → (Nat → Nat → Int32) → (Nat → Nat → Int64) → Prop)  (v : Nat → Int32) (f : Nat → Nat → Int32) (g : Nat → Nat → Int64) : Prop :=
∀ v1 : Nat → Int32, v1 = upd v 99 ((nI 0)) → ∀ x1_2 : Int32, x1_2 = (v1 72) → r_scraps (fun v_3 f_3 g_3 => 
Q x1_2 v_3 f_3 g_3)  v1 f g
set_option maxHeartbeats 1000000 in
set_option maxRecDepth 20000 in
theorem s_scrap (l : Launch)  (v : Nat → Int32) (f : Nat → Nat → Int32) (g : Nat → Nat → Int64) {P : Int32 → (Nat → Int32) → (Nat → Nat → Int32) → (Nat → Nat → Int64) → Prop} (h : r_scrap P  v f g) : mMi l yX12_scrap cX12_scrap 2 (some .int) 1 20 false [] v f g (fun r w => P r w.1 w.2.1 w.2.2) := by
  intro D cI cJ cZ a sz
  refine mg_body (by decide +kernel) rfl (Nat.le_of_ble_eq_true rfl) ?_
  intro p e s m args below meth c hsz C
  clear hsz
  generalize va_A (mW cI cJ cZ a v f g) sz = A at C ⊢
  refine mg_lv (lv' := [(0, .ref (a 0))]) rfl ?_
  unfold r_scrap at h
  refine mg_aload_n C (i := 0) rfl 0 rfl dX12_scrap_0 ?_
  refine mg_iconst C (x := nI 0) rfl dX12_scrap_1 ?_
  refine mg_put C (k := 99) (by decide) rfl mL_last rfl (by decide +kernel) mT_last rfl rfl dX12_scrap_2 ?_
  refine mg_nmV (fun v1 e_v1 => ?_)
  have h := h v1 e_v1
  refine mg_aload_n C (i := 0) rfl 0 rfl dX12_scrap_5 ?_
  refine mg_getI C (k := 72) (by decide) rfl mL_partsMany rfl dX12_scrap_6 ?_
  refine mg_nmI (fun x1_2 e_x1_2 => ?_)
  have h := h x1_2 e_x1_2
  refine mg_istore_n C (i := 1) (lv' := [(1, .int x1_2), (0, .ref (a 0))]) rfl (Nat.le_of_ble_eq_true rfl) rfl dX12_scrap_9 ?_
  refine mg_aload_n C (i := 0) rfl 1 rfl dX12_scrap_10 ?_
  refine mg_callvW C (s_scraps l  v1 f g h) mCal_scraps rfl ⟨by decide, by decide⟩ rfl (Nat.le_of_ble_eq_true rfl) dX12_scrap_11 (fun v_3 f_3 g_3 h => ?_)
  refine mg_iload_n C (i := 1) rfl 0 rfl dX12_scrap_14 ?_
  exact mg_iret C h dX12_scrap_15
def r_weigh (Q : Int32 → (Nat → Int32) → (Nat → Nat → Int32) → (Nat → Nat → Int64) → Prop) (x1 : Int32) (x2 : Int32) (v : Nat → Int32) (f : Nat → Nat → Int32) (g : Nat → Nat → Int64) : Prop :=
r_isField (fun r_1 v_1 f_1 g_1 => 
r_in (fun r_2 v_2 f_2 g_2 => 
r_goes (fun r_3 v_3 f_3 g_3 => 
((¬ r_3 = 0 →
  vp_in x1 2 ∧ (∀ x3_4 : Int32, x3_4 = (f_3 49 (x1).toNatClampNeg) → vp_in x1 2 ∧ (∀ f5 : Nat → Nat → Int32, f5 = mU f_3 49 (x1).toNatClampNeg x2 → Q x3_4 v_3 f5 g_3))) ∧
 (r_3 = 0 →
  Q ((nI 0)) v_3 f_3 g_3))) r_1 r_2 ((nI 1)) v_2 f_2 g_2) x2 ((nI 1)) ((nI 9)) v_1 f_1 g_1) x1 v f g
set_option maxHeartbeats 1000000 in
set_option maxRecDepth 20000 in
theorem s_weigh (l : Launch) (x1 : Int32) (x2 : Int32) (v : Nat → Int32) (f : Nat → Nat → Int32) (g : Nat → Nat → Int64) {P : Int32 → (Nat → Int32) → (Nat → Nat → Int32) → (Nat → Nat → Int64) → Prop} (h : r_weigh P x1 x2 v f g) : mMi l yX12_weigh cX12_weigh 4 (some .int) 2 43 false [.int x1, .int x2] v f g (fun r w => P r w.1 w.2.1 w.2.2) := by
  intro D cI cJ cZ a sz
  refine mg_body (by decide +kernel) rfl (Nat.le_of_ble_eq_true rfl) ?_
  intro p e s m args below meth c hsz C
  clear hsz
  generalize va_A (mW cI cJ cZ a v f g) sz = A at C ⊢
  refine mg_lv (lv' := [(0, .ref (a 0)), (1, .int x1), (2, .int x2)]) rfl ?_
  unfold r_weigh at h
  refine mg_aload_n C (i := 0) rfl 0 rfl dX12_weigh_0 ?_
  refine mg_aload_n C (i := 0) rfl 0 rfl dX12_weigh_1 ?_
  refine mg_iload_n C (i := 1) rfl 1 rfl dX12_weigh_2 ?_
  refine mg_calliW C (s_isField l x1 v f g h) mCal_isField rfl ⟨by decide, by decide⟩ rfl (Nat.le_of_ble_eq_true rfl) dX12_weigh_3 (fun r_1 v_1 f_1 g_1 h => ?_)
  refine mg_iload_n C (i := 2) rfl 2 rfl dX12_weigh_6 ?_
  refine mg_iconst C (x := nI 1) rfl dX12_weigh_7 ?_
  refine mg_bipush C (x := nI 9) rfl dX12_weigh_8 ?_
  refine mg_callsiW C (s_in l x2 ((nI 1)) ((nI 9)) v_1 f_1 g_1 h) mCal_in rfl ⟨by decide, by decide⟩ rfl (Nat.le_of_ble_eq_true rfl) dX12_weigh_10 (fun r_2 v_2 f_2 g_2 h => ?_)
  refine mg_iconst C (x := nI 1) rfl dX12_weigh_13 ?_
  refine mg_calliW C (s_goes l r_1 r_2 ((nI 1)) v_2 f_2 g_2 h) mCal_goes rfl ⟨by decide, by decide⟩ rfl (Nat.le_of_ble_eq_true rfl) dX12_weigh_14 (fun r_3 v_3 f_3 g_3 h => ?_)
  refine mg_if_ne C 22 (by decide) dX12_weigh_17 (fun c_ => ?_) (fun c_ => ?_)
  · have h := h.1 c_
    refine mg_aload_n C (i := 0) rfl 0 rfl dX12_weigh_22 ?_
    refine mg_arr C 49 (by decide) (by decide) rfl mL_weights rfl dX12_weigh_23 ?_
    refine mg_iload_n C (i := 1) rfl 1 rfl dX12_weigh_26 ?_
    obtain ⟨hc_27, h⟩ := h
    refine mg_ialoadR C (n := 2) 49 (by decide) (by decide) rfl rfl hc_27 dX12_weigh_27 ?_
    refine mg_nmI (fun x3_4 e_x3_4 => ?_)
    have h := h x3_4 e_x3_4
    refine mg_istore_n C (i := 3) (lv' := [(3, .int x3_4), (0, .ref (a 0)), (1, .int x1), (2, .int x2)]) rfl (Nat.le_of_ble_eq_true rfl) rfl dX12_weigh_28 ?_
    refine mg_aload_n C (i := 0) rfl 1 rfl dX12_weigh_29 ?_
    refine mg_arr C 49 (by decide) (by decide) rfl mL_weights rfl dX12_weigh_30 ?_
    refine mg_iload_n C (i := 1) rfl 2 rfl dX12_weigh_33 ?_
    refine mg_iload_n C (i := 2) rfl 3 rfl dX12_weigh_34 ?_
    obtain ⟨hc_35, h⟩ := h
    refine mg_iastoreR C (n := 2) 49 (by decide) (by decide) rfl rfl hc_35 dX12_weigh_35 ?_
    refine mg_nmF (fun f5 e_f5 => ?_)
    have h := h f5 e_f5
    refine mg_iload_n C (i := 3) rfl 0 rfl dX12_weigh_36 ?_
    exact mg_iret C h dX12_weigh_37
  · have h := h.2 c_
    refine mg_iconst C (x := nI 0) rfl dX12_weigh_20 ?_
    exact mg_iret C h dX12_weigh_21
def r_begins_43 (Q : Int32 → (Nat → Int32) → (Nat → Nat → Int32) → (Nat → Nat → Int64) → Prop) (R6 : Int64 → Int64 → Int32 → Int32 → (Nat → Int32) → (Nat → Nat → Int32) → (Nat → Nat → Int64) → Prop) (x1 : Int64) (x3 : Int64) (x6 : Int32) (t0 : Int32) (v : Nat → Int32) (f : Nat → Nat → Int32) (g : Nat → Nat → Int64) : Prop :=
∀ x6_2 : Int32, x6_2 = x6 + nI 1 → R6 x1 x3 t0 x6_2 v f g
def r_begins_42 (Q : Int32 → (Nat → Int32) → (Nat → Nat → Int32) → (Nat → Nat → Int64) → Prop) (R6 : Int64 → Int64 → Int32 → Int32 → (Nat → Int32) → (Nat → Nat → Int32) → (Nat → Nat → Int64) → Prop) (x1 : Int64) (x3 : Int64) (x6 : Int32) (v : Nat → Int32) (f : Nat → Nat → Int32) (g : Nat → Nat → Int64) : Prop :=
r_begins_43 Q R6 x1 x3 x6 ((nI 0)) v f g
def r_begins_6 (Q : Int32 → (Nat → Int32) → (Nat → Nat → Int32) → (Nat → Nat → Int64) → Prop) (R6 : Int64 → Int64 → Int32 → Int32 → (Nat → Int32) → (Nat → Nat → Int32) → (Nat → Nat → Int64) → Prop) (x1 : Int64) (x3 : Int64) (x5 : Int32) (x6 : Int32) (v : Nat → Int32) (f : Nat → Nat → Int32) (g : Nat → Nat → Int64) : Prop :=
r_length (fun r_1 v_1 f_1 g_1 => 
((r_1 ≤ x6 →
  isZ x5 ∧ (Q x5 v_1 f_1 g_1)) ∧
 (¬ r_1 ≤ x6 →
  ((x5 = 0 →
    r_begins_42 Q R6 x1 x3 x6 v_1 f_1 g_1) ∧
   (¬ x5 = 0 →
    r_at (fun r_3 v_3 f_3 g_3 => 
    r_at (fun r_4 v_4 f_4 g_4 => 
    ((¬ r_3 = r_4 →
      r_begins_42 Q R6 x1 x3 x6 v_4 f_4 g_4) ∧
     (r_3 = r_4 →
      r_begins_43 Q R6 x1 x3 x6 ((nI 1)) v_4 f_4 g_4))) x3 x6 v_3 f_3 g_3) x1 x6 v_1 f_1 g_1))))) x3 v f g
def r_begins_6L (Q : Int32 → (Nat → Int32) → (Nat → Nat → Int32) → (Nat → Nat → Int64) → Prop)  (x1 : Int64) (x3 : Int64) (x5 : Int32) (x6 : Int32) (v : Nat → Int32) (f : Nat → Nat → Int32) (g : Nat → Nat → Int64) : Prop :=
  lfp (X := Int64 × Int64 × Int32 × Int32 × (Nat → Int32) × (Nat → Nat → Int32) × (Nat → Nat → Int64)) (fun P y => r_begins_6 Q  (fun b0 b1 b2 b3 v f g => P (b0, b1, b2, b3, v, f, g)) y.1 y.2.1 y.2.2.1 y.2.2.2.1 y.2.2.2.2.1 y.2.2.2.2.2.1 y.2.2.2.2.2.2) (x1, x3, x5, x6, v, f, g)
def r_begins (Q : Int32 → (Nat → Int32) → (Nat → Nat → Int32) → (Nat → Nat → Int64) → Prop) (x1 : Int64) (x3 : Int64) (v : Nat → Int32) (f : Nat → Nat → Int32) (g : Nat → Nat → Int64) : Prop :=
r_begins_6L Q  x1 x3 (((nI 1))) (((nI 0))) v f g
section S_begins
variable {p : Program} {l : Launch} {e : Env} {s : State} {m : MethodId} {args : Array Value} {below : List Frame} {meth : Method} {c : Code} {A : Nat → Prop} {D : va_G} {cI cJ cZ : ClassId} {a : Nat → Nat}
set_option maxRecDepth 20000 in
theorem sb_begins_43 (C : mC p s m args meth c cX12_begins 7 (some .boolean) A D cI cJ cZ) {post : Int32 → mS → Prop} {R6 : Int64 → Int64 → Int32 → Int32 → (Nat → Int32) → (Nat → Nat → Int32) → (Nat → Nat → Int64) → Prop} (hR6 : ∀ (x1 : Int64) (x3 : Int64) (x5 : Int32) (x6 : Int32) (v : Nat → Int32) (f : Nat → Nat → Int32) (g : Nat → Nat → Int64), R6 x1 x3 x5 x6 v f g → mG p l e (mRm 2 46) s m args below meth c A D cI cJ cZ a 7 (MQ below (va_Qi post (mB D cI cJ cZ a) A) args s 0 0 A) 6 [(0, .ref (a 0)), (1, .long x1), (3, .long x3), (5, .int x5), (6, .int x6)] [] v f g) (x1 : Int64) (x3 : Int64) (x6 : Int32) (t0 : Int32) (v : Nat → Int32) (f : Nat → Nat → Int32) (g : Nat → Nat → Int64) (h : r_begins_43 (fun r v f g => post r (v, f, g)) R6 x1 x3 x6 t0 v f g) : mG p l e (mRm 2 46) s m args below meth c A D cI cJ cZ a 7 (MQ below (va_Qi post (mB D cI cJ cZ a) A) args s 0 0 A) 43 [(0, .ref (a 0)), (1, .long x1), (3, .long x3), (6, .int x6)] [.int t0] v f g := by
  unfold r_begins_43 at h
  refine mg_istore C (lv' := [(5, .int t0), (0, .ref (a 0)), (1, .long x1), (3, .long x3), (6, .int x6)]) (Nat.le_of_ble_eq_true rfl) rfl dX12_begins_43 ?_
  obtain ⟨x6_2, e_x6_2⟩ : ∃ z : Int32, z = x6 + nI 1 := ⟨_, rfl⟩
  have h := h x6_2 e_x6_2
  refine mg_iinc C (lv' := [(6, .int x6_2), (5, .int t0), (0, .ref (a 0)), (1, .long x1), (3, .long x3)]) 4 rfl (by rw [e_x6_2]; rfl) (Nat.le_of_ble_eq_true rfl) rfl dX12_begins_45 ?_
  refine mg_goto C 6 (by decide) dX12_begins_48 ?_
  exact mg_sub [2, 3, 4, 1, 0] rfl (hR6 x1 x3 t0 x6_2 v f g h)
set_option maxRecDepth 20000 in
theorem sb_begins_42 (C : mC p s m args meth c cX12_begins 7 (some .boolean) A D cI cJ cZ) {post : Int32 → mS → Prop} {R6 : Int64 → Int64 → Int32 → Int32 → (Nat → Int32) → (Nat → Nat → Int32) → (Nat → Nat → Int64) → Prop} (hR6 : ∀ (x1 : Int64) (x3 : Int64) (x5 : Int32) (x6 : Int32) (v : Nat → Int32) (f : Nat → Nat → Int32) (g : Nat → Nat → Int64), R6 x1 x3 x5 x6 v f g → mG p l e (mRm 2 46) s m args below meth c A D cI cJ cZ a 7 (MQ below (va_Qi post (mB D cI cJ cZ a) A) args s 0 0 A) 6 [(0, .ref (a 0)), (1, .long x1), (3, .long x3), (5, .int x5), (6, .int x6)] [] v f g) (x1 : Int64) (x3 : Int64) (x6 : Int32) (v : Nat → Int32) (f : Nat → Nat → Int32) (g : Nat → Nat → Int64) (h : r_begins_42 (fun r v f g => post r (v, f, g)) R6 x1 x3 x6 v f g) : mG p l e (mRm 2 46) s m args below meth c A D cI cJ cZ a 7 (MQ below (va_Qi post (mB D cI cJ cZ a) A) args s 0 0 A) 42 [(0, .ref (a 0)), (1, .long x1), (3, .long x3), (6, .int x6)] [] v f g := by
  unfold r_begins_42 at h
  refine mg_iconst C (x := nI 0) rfl dX12_begins_42 ?_
  exact mg_sub [0, 1, 2, 3] rfl (sb_begins_43 C hR6 x1 x3 x6 ((nI 0)) v f g h)
set_option maxRecDepth 20000 in
theorem sb_begins_6 (C : mC p s m args meth c cX12_begins 7 (some .boolean) A D cI cJ cZ) {post : Int32 → mS → Prop} {R6 : Int64 → Int64 → Int32 → Int32 → (Nat → Int32) → (Nat → Nat → Int32) → (Nat → Nat → Int64) → Prop} (hR6 : ∀ (x1 : Int64) (x3 : Int64) (x5 : Int32) (x6 : Int32) (v : Nat → Int32) (f : Nat → Nat → Int32) (g : Nat → Nat → Int64), R6 x1 x3 x5 x6 v f g → mG p l e (mRm 2 46) s m args below meth c A D cI cJ cZ a 7 (MQ below (va_Qi post (mB D cI cJ cZ a) A) args s 0 0 A) 6 [(0, .ref (a 0)), (1, .long x1), (3, .long x3), (5, .int x5), (6, .int x6)] [] v f g) (x1 : Int64) (x3 : Int64) (x5 : Int32) (x6 : Int32) (v : Nat → Int32) (f : Nat → Nat → Int32) (g : Nat → Nat → Int64) (h : r_begins_6 (fun r v f g => post r (v, f, g)) R6 x1 x3 x5 x6 v f g) : mG p l e (mRm 2 46) s m args below meth c A D cI cJ cZ a 7 (MQ below (va_Qi post (mB D cI cJ cZ a) A) args s 0 0 A) 6 [(0, .ref (a 0)), (1, .long x1), (3, .long x3), (5, .int x5), (6, .int x6)] [] v f g := by
  unfold r_begins_6 at h
  refine mg_iload C 4 rfl dX12_begins_6 ?_
  refine mg_aload_n C (i := 0) rfl 0 rfl dX12_begins_8 ?_
  refine mg_lload_n C (i := 3) rfl 2 rfl dX12_begins_9 ?_
  refine mg_calliW C (s_length l x3 v f g h) mCal_length rfl ⟨by decide, by decide⟩ rfl (Nat.le_of_ble_eq_true rfl) dX12_begins_10 (fun r_1 v_1 f_1 g_1 h => ?_)
  refine mg_icmp_ge C 51 (by decide) dX12_begins_13 (fun c_ => ?_) (fun c_ => ?_)
  · have h := h.1 c_
    refine mg_iload C 3 rfl dX12_begins_51 ?_
    obtain ⟨hc_53, h⟩ := h
    exact mg_zret C (isZ_nar hc_53) h dX12_begins_53
  · have h := h.2 c_
    refine mg_iload C 3 rfl dX12_begins_16 ?_
    refine mg_if_eq C 42 (by decide) dX12_begins_18 (fun c_ => ?_) (fun c_ => ?_)
    · have h := h.1 c_
      exact mg_sub [0, 1, 2, 4] rfl (sb_begins_42 C hR6 x1 x3 x6 v_1 f_1 g_1 h)
    · have h := h.2 c_
      refine mg_aload_n C (i := 0) rfl 0 rfl dX12_begins_21 ?_
      refine mg_lload_n C (i := 1) rfl 1 rfl dX12_begins_22 ?_
      refine mg_iload C 4 rfl dX12_begins_23 ?_
      refine mg_calliW C (s_at l x1 x6 v_1 f_1 g_1 h) mCal_at rfl ⟨by decide, by decide⟩ rfl (Nat.le_of_ble_eq_true rfl) dX12_begins_25 (fun r_3 v_3 f_3 g_3 h => ?_)
      refine mg_aload_n C (i := 0) rfl 0 rfl dX12_begins_28 ?_
      refine mg_lload_n C (i := 3) rfl 2 rfl dX12_begins_29 ?_
      refine mg_iload C 4 rfl dX12_begins_30 ?_
      refine mg_calliW C (s_at l x3 x6 v_3 f_3 g_3 h) mCal_at rfl ⟨by decide, by decide⟩ rfl (Nat.le_of_ble_eq_true rfl) dX12_begins_32 (fun r_4 v_4 f_4 g_4 h => ?_)
      refine mg_icmp_ne C 42 (by decide) dX12_begins_35 (fun c_ => ?_) (fun c_ => ?_)
      · have h := h.1 c_
        exact mg_sub [0, 1, 2, 4] rfl (sb_begins_42 C hR6 x1 x3 x6 v_4 f_4 g_4 h)
      · have h := h.2 c_
        refine mg_iconst C (x := nI 1) rfl dX12_begins_38 ?_
        refine mg_goto C 43 (by decide) dX12_begins_39 ?_
        exact mg_sub [0, 1, 2, 4] rfl (sb_begins_43 C hR6 x1 x3 x6 ((nI 1)) v_4 f_4 g_4 h)
set_option maxRecDepth 20000 in
theorem sl_begins_6 (C : mC p s m args meth c cX12_begins 7 (some .boolean) A D cI cJ cZ) {post : Int32 → mS → Prop}   (x1 : Int64) (x3 : Int64) (x5 : Int32) (x6 : Int32) (v : Nat → Int32) (f : Nat → Nat → Int32) (g : Nat → Nat → Int64) (h : r_begins_6L (fun r v f g => post r (v, f, g))  x1 x3 x5 x6 v f g) : mG p l e (mRm 2 46) s m args below meth c A D cI cJ cZ a 7 (MQ below (va_Qi post (mB D cI cJ cZ a) A) args s 0 0 A) 6 [(0, .ref (a 0)), (1, .long x1), (3, .long x3), (5, .int x5), (6, .int x6)] [] v f g :=
  h (fun y => mG p l e (mRm 2 46) s m args below meth c A D cI cJ cZ a 7 (MQ below (va_Qi post (mB D cI cJ cZ a) A) args s 0 0 A) 6 [(0, .ref (a 0)), (1, .long (y.1)), (3, .long (y.2.1)), (5, .int (y.2.2.1)), (6, .int (y.2.2.2.1))] [] (y.2.2.2.2.1) (y.2.2.2.2.2.1) (y.2.2.2.2.2.2)) (fun y hy => sb_begins_6 C  (fun b0 b1 b2 b3 v f g z => z) (y.1) (y.2.1) (y.2.2.1) (y.2.2.2.1) (y.2.2.2.2.1) (y.2.2.2.2.2.1) (y.2.2.2.2.2.2) hy)
end S_begins
set_option maxHeartbeats 1000000 in
set_option maxRecDepth 20000 in
theorem s_begins (l : Launch) (x1 : Int64) (x3 : Int64) (v : Nat → Int32) (f : Nat → Nat → Int32) (g : Nat → Nat → Int64) {P : Int32 → (Nat → Int32) → (Nat → Nat → Int32) → (Nat → Nat → Int64) → Prop} (h : r_begins P x1 x3 v f g) : mMi l yX12_begins cX12_begins 7 (some .boolean) 2 46 false [.long x1, .long x3] v f g (fun r w => P r w.1 w.2.1 w.2.2) := by
  intro D cI cJ cZ a sz
  refine mg_body (by decide +kernel) rfl (Nat.le_of_ble_eq_true rfl) ?_
  intro p e s m args below meth c hsz C
  clear hsz
  generalize va_A (mW cI cJ cZ a v f g) sz = A at C ⊢
  refine mg_lv (lv' := [(0, .ref (a 0)), (1, .long x1), (3, .long x3)]) rfl ?_
  unfold r_begins at h
  refine mg_iconst C (x := nI 1) rfl dX12_begins_0 ?_
  refine mg_istore C (lv' := [(5, .int ((nI 1))), (0, .ref (a 0)), (1, .long x1), (3, .long x3)]) (Nat.le_of_ble_eq_true rfl) rfl dX12_begins_1 ?_
  refine mg_iconst C (x := nI 0) rfl dX12_begins_3 ?_
  refine mg_istore C (lv' := [(6, .int ((nI 0))), (5, .int ((nI 1))), (0, .ref (a 0)), (1, .long x1), (3, .long x3)]) (Nat.le_of_ble_eq_true rfl) rfl dX12_begins_4 ?_
  exact mg_sub [2, 3, 4, 1, 0] rfl (sl_begins_6 C  x1 x3 (((nI 1))) (((nI 0))) v f g h)
def r_isLike_194 (Q : Int32 → (Nat → Int32) → (Nat → Nat → Int32) → (Nat → Nat → Int64) → Prop) (R43 : Int64 → Int32 → Int32 → Int32 → (Nat → Int32) → (Nat → Nat → Int32) → (Nat → Nat → Int64) → Prop) (R194 : Int64 → Int32 → Int32 → Int32 → Int32 → (Nat → Int32) → (Nat → Nat → Int32) → (Nat → Nat → Int64) → Prop) (x1 : Int64) (x3 : Int32) (x4 : Int32) (x5 : Int32) (x7 : Int32) (v : Nat → Int32) (f : Nat → Nat → Int32) (g : Nat → Nat → Int64) : Prop :=
((x4 < x7 →
  ∀ x5_3 : Int32, x5_3 = x5 + nI 1 → R43 x1 x3 x4 x5_3 v f g) ∧
 (¬ x4 < x7 →
  vp_in x7 14 ∧ (vp_in x7 14 ∧ (∀ f4 : Nat → Nat → Int32, f4 = mU f 52 (x7).toNatClampNeg ((f 53 (x7).toNatClampNeg)) → ∀ x7_5 : Int32, x7_5 = x7 + nI 1 → R194 x1 x3 x4 x5 x7_5 v f4 g))))
def r_isLike_194L (Q : Int32 → (Nat → Int32) → (Nat → Nat → Int32) → (Nat → Nat → Int64) → Prop) (R43 : Int64 → Int32 → Int32 → Int32 → (Nat → Int32) → (Nat → Nat → Int32) → (Nat → Nat → Int64) → Prop) (x1 : Int64) (x3 : Int32) (x4 : Int32) (x5 : Int32) (x7 : Int32) (v : Nat → Int32) (f : Nat → Nat → Int32) (g : Nat → Nat → Int64) : Prop :=
  lfp (X := Int64 × Int32 × Int32 × Int32 × Int32 × (Nat → Int32) × (Nat → Nat → Int32) × (Nat → Nat → Int64)) (fun P y => r_isLike_194 Q R43 (fun b0 b1 b2 b3 b4 v f g => P (b0, b1, b2, b3, b4, v, f, g)) y.1 y.2.1 y.2.2.1 y.2.2.2.1 y.2.2.2.2.1 y.2.2.2.2.2.1 y.2.2.2.2.2.2.1 y.2.2.2.2.2.2.2) (x1, x3, x4, x5, x7, v, f, g)
def r_isLike_184 (Q : Int32 → (Nat → Int32) → (Nat → Nat → Int32) → (Nat → Nat → Int64) → Prop) (R43 : Int64 → Int32 → Int32 → Int32 → (Nat → Int32) → (Nat → Nat → Int32) → (Nat → Nat → Int64) → Prop) (R71 : Int64 → Int32 → Int32 → Int32 → Int32 → Int32 → (Nat → Int32) → (Nat → Nat → Int32) → (Nat → Nat → Int64) → Prop) (x1 : Int64) (x3 : Int32) (x4 : Int32) (x5 : Int32) (x6 : Int32) (x7 : Int32) (t0 : Int32) (t1 : Int32) (v : Nat → Int32) (f : Nat → Nat → Int32) (g : Nat → Nat → Int64) : Prop :=
vp_in t1 14 ∧ (∀ f6 : Nat → Nat → Int32, f6 = mU f 53 (t1).toNatClampNeg t0 → ∀ x7_7 : Int32, x7_7 = x7 + nI 1 → R71 x1 x3 x4 x5 x6 x7_7 v f6 g)
def r_isLike_166 (Q : Int32 → (Nat → Int32) → (Nat → Nat → Int32) → (Nat → Nat → Int64) → Prop) (R43 : Int64 → Int32 → Int32 → Int32 → (Nat → Int32) → (Nat → Nat → Int32) → (Nat → Nat → Int64) → Prop) (R71 : Int64 → Int32 → Int32 → Int32 → Int32 → Int32 → (Nat → Int32) → (Nat → Nat → Int32) → (Nat → Nat → Int64) → Prop) (x1 : Int64) (x3 : Int32) (x4 : Int32) (x5 : Int32) (x6 : Int32) (x7 : Int32) (t0 : Int32) (v : Nat → Int32) (f : Nat → Nat → Int32) (g : Nat → Nat → Int64) : Prop :=
((t0 = 0 →
  r_isLike_184 Q R43 R71 x1 x3 x4 x5 x6 x7 ((nI 0)) x7 v f g) ∧
 (¬ t0 = 0 →
  r_isLike_184 Q R43 R71 x1 x3 x4 x5 x6 x7 ((nI 1)) x7 v f g))
def r_isLike_165 (Q : Int32 → (Nat → Int32) → (Nat → Nat → Int32) → (Nat → Nat → Int64) → Prop) (R43 : Int64 → Int32 → Int32 → Int32 → (Nat → Int32) → (Nat → Nat → Int32) → (Nat → Nat → Int64) → Prop) (R71 : Int64 → Int32 → Int32 → Int32 → Int32 → Int32 → (Nat → Int32) → (Nat → Nat → Int32) → (Nat → Nat → Int64) → Prop) (x1 : Int64) (x3 : Int32) (x4 : Int32) (x5 : Int32) (x6 : Int32) (x7 : Int32) (v : Nat → Int32) (f : Nat → Nat → Int32) (g : Nat → Nat → Int64) : Prop :=
r_isLike_166 Q R43 R71 x1 x3 x4 x5 x6 x7 ((nI 0)) v f g
def r_isLike_71 (Q : Int32 → (Nat → Int32) → (Nat → Nat → Int32) → (Nat → Nat → Int64) → Prop) (R43 : Int64 → Int32 → Int32 → Int32 → (Nat → Int32) → (Nat → Nat → Int32) → (Nat → Nat → Int64) → Prop) (R71 : Int64 → Int32 → Int32 → Int32 → Int32 → Int32 → (Nat → Int32) → (Nat → Nat → Int32) → (Nat → Nat → Int64) → Prop) (x1 : Int64) (x3 : Int32) (x4 : Int32) (x5 : Int32) (x6 : Int32) (x7 : Int32) (v : Nat → Int32) (f : Nat → Nat → Int32) (g : Nat → Nat → Int64) : Prop :=
((x4 < x7 →
  r_isLike_194L Q R43 x1 x3 x4 x5 (((nI 0))) v f g) ∧
 (¬ x4 < x7 →
  ((¬ x6 = ((nI 38)) →
    ((x7 ≤ 0 →
      r_isLike_165 Q R43 R71 x1 x3 x4 x5 x6 x7 v f g) ∧
     (¬ x7 ≤ 0 →
      vp_in ((x7 - ((nI 1)))) 14 ∧ (((¬ ((f 52 ((x7 - ((nI 1)))).toNatClampNeg)) = ((nI 1)) →
        r_isLike_165 Q R43 R71 x1 x3 x4 x5 x6 x7 v f g) ∧
       (((f 52 ((x7 - ((nI 1)))).toNatClampNeg)) = ((nI 1)) →
        ((x6 = ((nI 37)) →
          r_isLike_166 Q R43 R71 x1 x3 x4 x5 x6 x7 ((nI 1)) v f g) ∧
         (¬ x6 = ((nI 37)) →
          r_at (fun r_8 v_8 f_8 g_8 => 
          ((¬ r_8 = x6 →
            r_isLike_165 Q R43 R71 x1 x3 x4 x5 x6 x7 v_8 f_8 g_8) ∧
           (r_8 = x6 →
            r_isLike_166 Q R43 R71 x1 x3 x4 x5 x6 x7 ((nI 1)) v_8 f_8 g_8))) x1 ((x7 - ((nI 1)))) v f g)))))))) ∧
   (x6 = ((nI 38)) →
    vp_in x7 14 ∧ (((((f 52 (x7).toNatClampNeg)) = ((nI 1)) →
      r_isLike_166 Q R43 R71 x1 x3 x4 x5 x6 x7 ((nI 1)) v f g) ∧
     (¬ ((f 52 (x7).toNatClampNeg)) = ((nI 1)) →
      ((x7 ≤ 0 →
        r_isLike_166 Q R43 R71 x1 x3 x4 x5 x6 x7 ((nI 0)) v f g) ∧
       (¬ x7 ≤ 0 →
        vp_in ((x7 - ((nI 1)))) 14 ∧ (((¬ ((f 53 ((x7 - ((nI 1)))).toNatClampNeg)) = ((nI 1)) →
          r_isLike_166 Q R43 R71 x1 x3 x4 x5 x6 x7 ((nI 0)) v f g) ∧
         (((f 53 ((x7 - ((nI 1)))).toNatClampNeg)) = ((nI 1)) →
          r_isLike_166 Q R43 R71 x1 x3 x4 x5 x6 x7 ((nI 1)) v f g))))))))))))
def r_isLike_71L (Q : Int32 → (Nat → Int32) → (Nat → Nat → Int32) → (Nat → Nat → Int64) → Prop) (R43 : Int64 → Int32 → Int32 → Int32 → (Nat → Int32) → (Nat → Nat → Int32) → (Nat → Nat → Int64) → Prop) (x1 : Int64) (x3 : Int32) (x4 : Int32) (x5 : Int32) (x6 : Int32) (x7 : Int32) (v : Nat → Int32) (f : Nat → Nat → Int32) (g : Nat → Nat → Int64) : Prop :=
  lfp (X := Int64 × Int32 × Int32 × Int32 × Int32 × Int32 × (Nat → Int32) × (Nat → Nat → Int32) × (Nat → Nat → Int64)) (fun P y => r_isLike_71 Q R43 (fun b0 b1 b2 b3 b4 b5 v f g => P (b0, b1, b2, b3, b4, b5, v, f, g)) y.1 y.2.1 y.2.2.1 y.2.2.2.1 y.2.2.2.2.1 y.2.2.2.2.2.1 y.2.2.2.2.2.2.1 y.2.2.2.2.2.2.2.1 y.2.2.2.2.2.2.2.2) (x1, x3, x4, x5, x6, x7, v, f, g)
def r_isLike_43 (Q : Int32 → (Nat → Int32) → (Nat → Nat → Int32) → (Nat → Nat → Int64) → Prop) (R43 : Int64 → Int32 → Int32 → Int32 → (Nat → Int32) → (Nat → Nat → Int32) → (Nat → Nat → Int64) → Prop) (x1 : Int64) (x3 : Int32) (x4 : Int32) (x5 : Int32) (v : Nat → Int32) (f : Nat → Nat → Int32) (g : Nat → Nat → Int64) : Prop :=
vp_in x3 1968 ∧ (((((f 42 (x3).toNatClampNeg)) ≤ x5 →
  vp_in x4 14 ∧ (((¬ ((f 52 (x4).toNatClampNeg)) = ((nI 1)) →
    Q ((bI false)) v f g) ∧
   (((f 52 (x4).toNatClampNeg)) = ((nI 1)) →
    Q ((bI true)) v f g)))) ∧
 (¬ ((f 42 (x3).toNatClampNeg)) ≤ x5 →
  vp_in ((((((nI 12)) * x3)) + x5)) 23616 ∧ (∀ x6_2 : Int32, x6_2 = (f 47 ((((((nI 12)) * x3)) + x5)).toNatClampNeg) → r_isLike_71L Q R43 x1 x3 x4 x5 x6_2 (((nI 0))) v f g))))
def r_isLike_43L (Q : Int32 → (Nat → Int32) → (Nat → Nat → Int32) → (Nat → Nat → Int64) → Prop)  (x1 : Int64) (x3 : Int32) (x4 : Int32) (x5 : Int32) (v : Nat → Int32) (f : Nat → Nat → Int32) (g : Nat → Nat → Int64) : Prop :=
  lfp (X := Int64 × Int32 × Int32 × Int32 × (Nat → Int32) × (Nat → Nat → Int32) × (Nat → Nat → Int64)) (fun P y => r_isLike_43 Q  (fun b0 b1 b2 b3 v f g => P (b0, b1, b2, b3, v, f, g)) y.1 y.2.1 y.2.2.1 y.2.2.2.1 y.2.2.2.2.1 y.2.2.2.2.2.1 y.2.2.2.2.2.2) (x1, x3, x4, x5, v, f, g)
def r_isLike_33 (Q : Int32 → (Nat → Int32) → (Nat → Nat → Int32) → (Nat → Nat → Int64) → Prop) (R10 : Int64 → Int32 → Int32 → Int32 → (Nat → Int32) → (Nat → Nat → Int32) → (Nat → Nat → Int64) → Prop) (x1 : Int64) (x3 : Int32) (x4 : Int32) (x5 : Int32) (t0 : Int32) (t1 : Int32) (v : Nat → Int32) (f : Nat → Nat → Int32) (g : Nat → Nat → Int64) : Prop :=
vp_in t1 14 ∧ (∀ f9 : Nat → Nat → Int32, f9 = mU f 52 (t1).toNatClampNeg t0 → ∀ x5_10 : Int32, x5_10 = x5 + nI 1 → R10 x1 x3 x4 x5_10 v f9 g)
def r_isLike_10 (Q : Int32 → (Nat → Int32) → (Nat → Nat → Int32) → (Nat → Nat → Int64) → Prop) (R10 : Int64 → Int32 → Int32 → Int32 → (Nat → Int32) → (Nat → Nat → Int32) → (Nat → Nat → Int64) → Prop) (x1 : Int64) (x3 : Int32) (x4 : Int32) (x5 : Int32) (v : Nat → Int32) (f : Nat → Nat → Int32) (g : Nat → Nat → Int64) : Prop :=
((x4 < x5 →
  r_isLike_43L Q  x1 x3 x4 (((nI 0))) v f g) ∧
 (¬ x4 < x5 →
  ((¬ x5 = 0 →
    r_isLike_33 Q R10 x1 x3 x4 x5 ((nI 0)) x5 v f g) ∧
   (x5 = 0 →
    r_isLike_33 Q R10 x1 x3 x4 x5 ((nI 1)) x5 v f g))))
def r_isLike_10L (Q : Int32 → (Nat → Int32) → (Nat → Nat → Int32) → (Nat → Nat → Int64) → Prop)  (x1 : Int64) (x3 : Int32) (x4 : Int32) (x5 : Int32) (v : Nat → Int32) (f : Nat → Nat → Int32) (g : Nat → Nat → Int64) : Prop :=
  lfp (X := Int64 × Int32 × Int32 × Int32 × (Nat → Int32) × (Nat → Nat → Int32) × (Nat → Nat → Int64)) (fun P y => r_isLike_10 Q  (fun b0 b1 b2 b3 v f g => P (b0, b1, b2, b3, v, f, g)) y.1 y.2.1 y.2.2.1 y.2.2.2.1 y.2.2.2.2.1 y.2.2.2.2.2.1 y.2.2.2.2.2.2) (x1, x3, x4, x5, v, f, g)
def r_isLike (Q : Int32 → (Nat → Int32) → (Nat → Nat → Int32) → (Nat → Nat → Int64) → Prop) (x1 : Int64) (x3 : Int32) (v : Nat → Int32) (f : Nat → Nat → Int32) (g : Nat → Nat → Int64) : Prop :=
r_length (fun r_1 v_1 f_1 g_1 => 
r_isLike_10L Q  x1 x3 r_1 (((nI 0))) v_1 f_1 g_1) x1 v f g
section S_isLike
variable {p : Program} {l : Launch} {e : Env} {s : State} {m : MethodId} {args : Array Value} {below : List Frame} {meth : Method} {c : Code} {A : Nat → Prop} {D : va_G} {cI cJ cZ : ClassId} {a : Nat → Nat}
set_option maxRecDepth 20000 in
theorem sb_isLike_194 (C : mC p s m args meth c cX12_isLike 9 (some .boolean) A D cI cJ cZ) {post : Int32 → mS → Prop} {R43 : Int64 → Int32 → Int32 → Int32 → (Nat → Int32) → (Nat → Nat → Int32) → (Nat → Nat → Int64) → Prop} {R194 : Int64 → Int32 → Int32 → Int32 → Int32 → (Nat → Int32) → (Nat → Nat → Int32) → (Nat → Nat → Int64) → Prop} (hR43 : ∀ (x1 : Int64) (x3 : Int32) (x4 : Int32) (x5 : Int32) (v : Nat → Int32) (f : Nat → Nat → Int32) (g : Nat → Nat → Int64), R43 x1 x3 x4 x5 v f g → mG p l e (mRm 2 46) s m args below meth c A D cI cJ cZ a 9 (MQ below (va_Qi post (mB D cI cJ cZ a) A) args s 0 0 A) 43 [(0, .ref (a 0)), (1, .long x1), (3, .int x3), (4, .int x4), (5, .int x5)] [] v f g) (hR194 : ∀ (x1 : Int64) (x3 : Int32) (x4 : Int32) (x5 : Int32) (x7 : Int32) (v : Nat → Int32) (f : Nat → Nat → Int32) (g : Nat → Nat → Int64), R194 x1 x3 x4 x5 x7 v f g → mG p l e (mRm 2 46) s m args below meth c A D cI cJ cZ a 9 (MQ below (va_Qi post (mB D cI cJ cZ a) A) args s 0 0 A) 194 [(0, .ref (a 0)), (1, .long x1), (3, .int x3), (4, .int x4), (5, .int x5), (7, .int x7)] [] v f g) (x1 : Int64) (x3 : Int32) (x4 : Int32) (x5 : Int32) (x7 : Int32) (v : Nat → Int32) (f : Nat → Nat → Int32) (g : Nat → Nat → Int64) (h : r_isLike_194 (fun r v f g => post r (v, f, g)) R43 R194 x1 x3 x4 x5 x7 v f g) : mG p l e (mRm 2 46) s m args below meth c A D cI cJ cZ a 9 (MQ below (va_Qi post (mB D cI cJ cZ a) A) args s 0 0 A) 194 [(0, .ref (a 0)), (1, .long x1), (3, .int x3), (4, .int x4), (5, .int x5), (7, .int x7)] [] v f g := by
  unfold r_isLike_194 at h
  refine mg_iload C 5 rfl dX12_isLike_194 ?_
  refine mg_iload C 3 rfl dX12_isLike_196 ?_
  refine mg_icmp_gt C 221 (by decide) dX12_isLike_198 (fun c_ => ?_) (fun c_ => ?_)
  · have h := h.1 c_
    obtain ⟨x5_3, e_x5_3⟩ : ∃ z : Int32, z = x5 + nI 1 := ⟨_, rfl⟩
    have h := h x5_3 e_x5_3
    refine mg_iinc C (lv' := [(5, .int x5_3), (0, .ref (a 0)), (1, .long x1), (3, .int x3), (4, .int x4), (7, .int x7)]) 4 rfl (by rw [e_x5_3]; rfl) (Nat.le_of_ble_eq_true rfl) rfl dX12_isLike_221 ?_
    refine mg_goto C 43 (by decide) dX12_isLike_224 ?_
    exact mg_sub [1, 2, 3, 4, 0] rfl (hR43 x1 x3 x4 x5_3 v f g h)
  · have h := h.2 c_
    refine mg_aload_n C (i := 0) rfl 0 rfl dX12_isLike_201 ?_
    refine mg_arr C 52 (by decide) (by decide) rfl mL_row rfl dX12_isLike_202 ?_
    refine mg_iload C 5 rfl dX12_isLike_205 ?_
    refine mg_aload_n C (i := 0) rfl 0 rfl dX12_isLike_207 ?_
    refine mg_arr C 53 (by decide) (by decide) rfl mL_next rfl dX12_isLike_208 ?_
    refine mg_iload C 5 rfl dX12_isLike_211 ?_
    obtain ⟨hc_213, h⟩ := h
    refine mg_ialoadR C (n := 14) 53 (by decide) (by decide) rfl rfl hc_213 dX12_isLike_213 ?_
    obtain ⟨hc_214, h⟩ := h
    refine mg_iastoreR C (n := 14) 52 (by decide) (by decide) rfl rfl hc_214 dX12_isLike_214 ?_
    refine mg_nmF (fun f4 e_f4 => ?_)
    have h := h f4 e_f4
    obtain ⟨x7_5, e_x7_5⟩ : ∃ z : Int32, z = x7 + nI 1 := ⟨_, rfl⟩
    have h := h x7_5 e_x7_5
    refine mg_iinc C (lv' := [(7, .int x7_5), (0, .ref (a 0)), (1, .long x1), (3, .int x3), (4, .int x4), (5, .int x5)]) 5 rfl (by rw [e_x7_5]; rfl) (Nat.le_of_ble_eq_true rfl) rfl dX12_isLike_215 ?_
    refine mg_goto C 194 (by decide) dX12_isLike_218 ?_
    exact mg_sub [1, 2, 3, 4, 5, 0] rfl (hR194 x1 x3 x4 x5 x7_5 v f4 g h)
set_option maxRecDepth 20000 in
theorem sl_isLike_194 (C : mC p s m args meth c cX12_isLike 9 (some .boolean) A D cI cJ cZ) {post : Int32 → mS → Prop} {R43 : Int64 → Int32 → Int32 → Int32 → (Nat → Int32) → (Nat → Nat → Int32) → (Nat → Nat → Int64) → Prop} (hR43 : ∀ (x1 : Int64) (x3 : Int32) (x4 : Int32) (x5 : Int32) (v : Nat → Int32) (f : Nat → Nat → Int32) (g : Nat → Nat → Int64), R43 x1 x3 x4 x5 v f g → mG p l e (mRm 2 46) s m args below meth c A D cI cJ cZ a 9 (MQ below (va_Qi post (mB D cI cJ cZ a) A) args s 0 0 A) 43 [(0, .ref (a 0)), (1, .long x1), (3, .int x3), (4, .int x4), (5, .int x5)] [] v f g) (x1 : Int64) (x3 : Int32) (x4 : Int32) (x5 : Int32) (x7 : Int32) (v : Nat → Int32) (f : Nat → Nat → Int32) (g : Nat → Nat → Int64) (h : r_isLike_194L (fun r v f g => post r (v, f, g)) R43 x1 x3 x4 x5 x7 v f g) : mG p l e (mRm 2 46) s m args below meth c A D cI cJ cZ a 9 (MQ below (va_Qi post (mB D cI cJ cZ a) A) args s 0 0 A) 194 [(0, .ref (a 0)), (1, .long x1), (3, .int x3), (4, .int x4), (5, .int x5), (7, .int x7)] [] v f g :=
  h (fun y => mG p l e (mRm 2 46) s m args below meth c A D cI cJ cZ a 9 (MQ below (va_Qi post (mB D cI cJ cZ a) A) args s 0 0 A) 194 [(0, .ref (a 0)), (1, .long (y.1)), (3, .int (y.2.1)), (4, .int (y.2.2.1)), (5, .int (y.2.2.2.1)), (7, .int (y.2.2.2.2.1))] [] (y.2.2.2.2.2.1) (y.2.2.2.2.2.2.1) (y.2.2.2.2.2.2.2)) (fun y hy => sb_isLike_194 C hR43 (fun b0 b1 b2 b3 b4 v f g z => z) (y.1) (y.2.1) (y.2.2.1) (y.2.2.2.1) (y.2.2.2.2.1) (y.2.2.2.2.2.1) (y.2.2.2.2.2.2.1) (y.2.2.2.2.2.2.2) hy)
set_option maxRecDepth 20000 in
theorem sb_isLike_184 (C : mC p s m args meth c cX12_isLike 9 (some .boolean) A D cI cJ cZ) {post : Int32 → mS → Prop} {R43 : Int64 → Int32 → Int32 → Int32 → (Nat → Int32) → (Nat → Nat → Int32) → (Nat → Nat → Int64) → Prop} {R71 : Int64 → Int32 → Int32 → Int32 → Int32 → Int32 → (Nat → Int32) → (Nat → Nat → Int32) → (Nat → Nat → Int64) → Prop} (hR43 : ∀ (x1 : Int64) (x3 : Int32) (x4 : Int32) (x5 : Int32) (v : Nat → Int32) (f : Nat → Nat → Int32) (g : Nat → Nat → Int64), R43 x1 x3 x4 x5 v f g → mG p l e (mRm 2 46) s m args below meth c A D cI cJ cZ a 9 (MQ below (va_Qi post (mB D cI cJ cZ a) A) args s 0 0 A) 43 [(0, .ref (a 0)), (1, .long x1), (3, .int x3), (4, .int x4), (5, .int x5)] [] v f g) (hR71 : ∀ (x1 : Int64) (x3 : Int32) (x4 : Int32) (x5 : Int32) (x6 : Int32) (x7 : Int32) (v : Nat → Int32) (f : Nat → Nat → Int32) (g : Nat → Nat → Int64), R71 x1 x3 x4 x5 x6 x7 v f g → mG p l e (mRm 2 46) s m args below meth c A D cI cJ cZ a 9 (MQ below (va_Qi post (mB D cI cJ cZ a) A) args s 0 0 A) 71 [(0, .ref (a 0)), (1, .long x1), (3, .int x3), (4, .int x4), (5, .int x5), (6, .int x6), (7, .int x7)] [] v f g) (x1 : Int64) (x3 : Int32) (x4 : Int32) (x5 : Int32) (x6 : Int32) (x7 : Int32) (t0 : Int32) (t1 : Int32) (v : Nat → Int32) (f : Nat → Nat → Int32) (g : Nat → Nat → Int64) (h : r_isLike_184 (fun r v f g => post r (v, f, g)) R43 R71 x1 x3 x4 x5 x6 x7 t0 t1 v f g) : mG p l e (mRm 2 46) s m args below meth c A D cI cJ cZ a 9 (MQ below (va_Qi post (mB D cI cJ cZ a) A) args s 0 0 A) 184 [(0, .ref (a 0)), (1, .long x1), (3, .int x3), (4, .int x4), (5, .int x5), (6, .int x6), (7, .int x7)] [.int t0, .int t1, .ref (a 53)] v f g := by
  unfold r_isLike_184 at h
  obtain ⟨hc_184, h⟩ := h
  refine mg_iastoreR C (n := 14) 53 (by decide) (by decide) rfl rfl hc_184 dX12_isLike_184 ?_
  refine mg_nmF (fun f6 e_f6 => ?_)
  have h := h f6 e_f6
  obtain ⟨x7_7, e_x7_7⟩ : ∃ z : Int32, z = x7 + nI 1 := ⟨_, rfl⟩
  have h := h x7_7 e_x7_7
  refine mg_iinc C (lv' := [(7, .int x7_7), (0, .ref (a 0)), (1, .long x1), (3, .int x3), (4, .int x4), (5, .int x5), (6, .int x6)]) 6 rfl (by rw [e_x7_7]; rfl) (Nat.le_of_ble_eq_true rfl) rfl dX12_isLike_185 ?_
  refine mg_goto C 71 (by decide) dX12_isLike_188 ?_
  exact mg_sub [1, 2, 3, 4, 5, 6, 0] rfl (hR71 x1 x3 x4 x5 x6 x7_7 v f6 g h)
set_option maxRecDepth 20000 in
theorem sb_isLike_166 (C : mC p s m args meth c cX12_isLike 9 (some .boolean) A D cI cJ cZ) {post : Int32 → mS → Prop} {R43 : Int64 → Int32 → Int32 → Int32 → (Nat → Int32) → (Nat → Nat → Int32) → (Nat → Nat → Int64) → Prop} {R71 : Int64 → Int32 → Int32 → Int32 → Int32 → Int32 → (Nat → Int32) → (Nat → Nat → Int32) → (Nat → Nat → Int64) → Prop} (hR43 : ∀ (x1 : Int64) (x3 : Int32) (x4 : Int32) (x5 : Int32) (v : Nat → Int32) (f : Nat → Nat → Int32) (g : Nat → Nat → Int64), R43 x1 x3 x4 x5 v f g → mG p l e (mRm 2 46) s m args below meth c A D cI cJ cZ a 9 (MQ below (va_Qi post (mB D cI cJ cZ a) A) args s 0 0 A) 43 [(0, .ref (a 0)), (1, .long x1), (3, .int x3), (4, .int x4), (5, .int x5)] [] v f g) (hR71 : ∀ (x1 : Int64) (x3 : Int32) (x4 : Int32) (x5 : Int32) (x6 : Int32) (x7 : Int32) (v : Nat → Int32) (f : Nat → Nat → Int32) (g : Nat → Nat → Int64), R71 x1 x3 x4 x5 x6 x7 v f g → mG p l e (mRm 2 46) s m args below meth c A D cI cJ cZ a 9 (MQ below (va_Qi post (mB D cI cJ cZ a) A) args s 0 0 A) 71 [(0, .ref (a 0)), (1, .long x1), (3, .int x3), (4, .int x4), (5, .int x5), (6, .int x6), (7, .int x7)] [] v f g) (x1 : Int64) (x3 : Int32) (x4 : Int32) (x5 : Int32) (x6 : Int32) (x7 : Int32) (t0 : Int32) (v : Nat → Int32) (f : Nat → Nat → Int32) (g : Nat → Nat → Int64) (h : r_isLike_166 (fun r v f g => post r (v, f, g)) R43 R71 x1 x3 x4 x5 x6 x7 t0 v f g) : mG p l e (mRm 2 46) s m args below meth c A D cI cJ cZ a 9 (MQ below (va_Qi post (mB D cI cJ cZ a) A) args s 0 0 A) 166 [(0, .ref (a 0)), (1, .long x1), (3, .int x3), (4, .int x4), (5, .int x5), (6, .int x6), (7, .int x7)] [.int t0] v f g := by
  unfold r_isLike_166 at h
  refine mg_istore C (lv' := [(8, .int t0), (0, .ref (a 0)), (1, .long x1), (3, .int x3), (4, .int x4), (5, .int x5), (6, .int x6), (7, .int x7)]) (Nat.le_of_ble_eq_true rfl) rfl dX12_isLike_166 ?_
  refine mg_aload_n C (i := 0) rfl 1 rfl dX12_isLike_168 ?_
  refine mg_arr C 53 (by decide) (by decide) rfl mL_next rfl dX12_isLike_169 ?_
  refine mg_iload C 7 rfl dX12_isLike_172 ?_
  refine mg_iload C 0 rfl dX12_isLike_174 ?_
  refine mg_if_eq C 183 (by decide) dX12_isLike_176 (fun c_ => ?_) (fun c_ => ?_)
  · have h := h.1 c_
    refine mg_iconst C (x := nI 0) rfl dX12_isLike_183 ?_
    exact mg_sub [1, 2, 3, 4, 5, 6, 7] rfl (sb_isLike_184 C hR43 hR71 x1 x3 x4 x5 x6 x7 ((nI 0)) x7 v f g h)
  · have h := h.2 c_
    refine mg_iconst C (x := nI 1) rfl dX12_isLike_179 ?_
    refine mg_goto C 184 (by decide) dX12_isLike_180 ?_
    exact mg_sub [1, 2, 3, 4, 5, 6, 7] rfl (sb_isLike_184 C hR43 hR71 x1 x3 x4 x5 x6 x7 ((nI 1)) x7 v f g h)
set_option maxRecDepth 20000 in
theorem sb_isLike_165 (C : mC p s m args meth c cX12_isLike 9 (some .boolean) A D cI cJ cZ) {post : Int32 → mS → Prop} {R43 : Int64 → Int32 → Int32 → Int32 → (Nat → Int32) → (Nat → Nat → Int32) → (Nat → Nat → Int64) → Prop} {R71 : Int64 → Int32 → Int32 → Int32 → Int32 → Int32 → (Nat → Int32) → (Nat → Nat → Int32) → (Nat → Nat → Int64) → Prop} (hR43 : ∀ (x1 : Int64) (x3 : Int32) (x4 : Int32) (x5 : Int32) (v : Nat → Int32) (f : Nat → Nat → Int32) (g : Nat → Nat → Int64), R43 x1 x3 x4 x5 v f g → mG p l e (mRm 2 46) s m args below meth c A D cI cJ cZ a 9 (MQ below (va_Qi post (mB D cI cJ cZ a) A) args s 0 0 A) 43 [(0, .ref (a 0)), (1, .long x1), (3, .int x3), (4, .int x4), (5, .int x5)] [] v f g) (hR71 : ∀ (x1 : Int64) (x3 : Int32) (x4 : Int32) (x5 : Int32) (x6 : Int32) (x7 : Int32) (v : Nat → Int32) (f : Nat → Nat → Int32) (g : Nat → Nat → Int64), R71 x1 x3 x4 x5 x6 x7 v f g → mG p l e (mRm 2 46) s m args below meth c A D cI cJ cZ a 9 (MQ below (va_Qi post (mB D cI cJ cZ a) A) args s 0 0 A) 71 [(0, .ref (a 0)), (1, .long x1), (3, .int x3), (4, .int x4), (5, .int x5), (6, .int x6), (7, .int x7)] [] v f g) (x1 : Int64) (x3 : Int32) (x4 : Int32) (x5 : Int32) (x6 : Int32) (x7 : Int32) (v : Nat → Int32) (f : Nat → Nat → Int32) (g : Nat → Nat → Int64) (h : r_isLike_165 (fun r v f g => post r (v, f, g)) R43 R71 x1 x3 x4 x5 x6 x7 v f g) : mG p l e (mRm 2 46) s m args below meth c A D cI cJ cZ a 9 (MQ below (va_Qi post (mB D cI cJ cZ a) A) args s 0 0 A) 165 [(0, .ref (a 0)), (1, .long x1), (3, .int x3), (4, .int x4), (5, .int x5), (6, .int x6), (7, .int x7)] [] v f g := by
  unfold r_isLike_165 at h
  refine mg_iconst C (x := nI 0) rfl dX12_isLike_165 ?_
  exact mg_sub [0, 1, 2, 3, 4, 5, 6] rfl (sb_isLike_166 C hR43 hR71 x1 x3 x4 x5 x6 x7 ((nI 0)) v f g h)
set_option maxRecDepth 20000 in
theorem sb_isLike_71 (C : mC p s m args meth c cX12_isLike 9 (some .boolean) A D cI cJ cZ) {post : Int32 → mS → Prop} {R43 : Int64 → Int32 → Int32 → Int32 → (Nat → Int32) → (Nat → Nat → Int32) → (Nat → Nat → Int64) → Prop} {R71 : Int64 → Int32 → Int32 → Int32 → Int32 → Int32 → (Nat → Int32) → (Nat → Nat → Int32) → (Nat → Nat → Int64) → Prop} (hR43 : ∀ (x1 : Int64) (x3 : Int32) (x4 : Int32) (x5 : Int32) (v : Nat → Int32) (f : Nat → Nat → Int32) (g : Nat → Nat → Int64), R43 x1 x3 x4 x5 v f g → mG p l e (mRm 2 46) s m args below meth c A D cI cJ cZ a 9 (MQ below (va_Qi post (mB D cI cJ cZ a) A) args s 0 0 A) 43 [(0, .ref (a 0)), (1, .long x1), (3, .int x3), (4, .int x4), (5, .int x5)] [] v f g) (hR71 : ∀ (x1 : Int64) (x3 : Int32) (x4 : Int32) (x5 : Int32) (x6 : Int32) (x7 : Int32) (v : Nat → Int32) (f : Nat → Nat → Int32) (g : Nat → Nat → Int64), R71 x1 x3 x4 x5 x6 x7 v f g → mG p l e (mRm 2 46) s m args below meth c A D cI cJ cZ a 9 (MQ below (va_Qi post (mB D cI cJ cZ a) A) args s 0 0 A) 71 [(0, .ref (a 0)), (1, .long x1), (3, .int x3), (4, .int x4), (5, .int x5), (6, .int x6), (7, .int x7)] [] v f g) (x1 : Int64) (x3 : Int32) (x4 : Int32) (x5 : Int32) (x6 : Int32) (x7 : Int32) (v : Nat → Int32) (f : Nat → Nat → Int32) (g : Nat → Nat → Int64) (h : r_isLike_71 (fun r v f g => post r (v, f, g)) R43 R71 x1 x3 x4 x5 x6 x7 v f g) : mG p l e (mRm 2 46) s m args below meth c A D cI cJ cZ a 9 (MQ below (va_Qi post (mB D cI cJ cZ a) A) args s 0 0 A) 71 [(0, .ref (a 0)), (1, .long x1), (3, .int x3), (4, .int x4), (5, .int x5), (6, .int x6), (7, .int x7)] [] v f g := by
  unfold r_isLike_71 at h
  refine mg_iload C 6 rfl dX12_isLike_71 ?_
  refine mg_iload C 3 rfl dX12_isLike_73 ?_
  refine mg_icmp_gt C 191 (by decide) dX12_isLike_75 (fun c_ => ?_) (fun c_ => ?_)
  · have h := h.1 c_
    refine mg_iconst C (x := nI 0) rfl dX12_isLike_191 ?_
    refine mg_istore C (lv' := [(7, .int ((nI 0))), (0, .ref (a 0)), (1, .long x1), (3, .int x3), (4, .int x4), (5, .int x5), (6, .int x6)]) (Nat.le_of_ble_eq_true rfl) rfl dX12_isLike_192 ?_
    exact mg_sub [1, 2, 3, 4, 5, 0] rfl (sl_isLike_194 C hR43 x1 x3 x4 x5 (((nI 0))) v f g h)
  · have h := h.2 c_
    refine mg_iload C 5 rfl dX12_isLike_78 ?_
    refine mg_bipush C (x := nI 38) rfl dX12_isLike_80 ?_
    refine mg_icmp_ne C 122 (by decide) dX12_isLike_82 (fun c_ => ?_) (fun c_ => ?_)
    · have h := h.1 c_
      refine mg_iload C 6 rfl dX12_isLike_122 ?_
      refine mg_if_le C 165 (by decide) dX12_isLike_124 (fun c_ => ?_) (fun c_ => ?_)
      · have h := h.1 c_
        exact mg_sub [0, 1, 2, 3, 4, 5, 6] rfl (sb_isLike_165 C hR43 hR71 x1 x3 x4 x5 x6 x7 v f g h)
      · have h := h.2 c_
        refine mg_aload_n C (i := 0) rfl 0 rfl dX12_isLike_127 ?_
        refine mg_arr C 52 (by decide) (by decide) rfl mL_row rfl dX12_isLike_128 ?_
        refine mg_iload C 6 rfl dX12_isLike_131 ?_
        refine mg_iconst C (x := nI 1) rfl dX12_isLike_133 ?_
        refine mg_isub C dX12_isLike_134 ?_
        obtain ⟨hc_135, h⟩ := h
        refine mg_ialoadR C (n := 14) 52 (by decide) (by decide) rfl rfl hc_135 dX12_isLike_135 ?_
        refine mg_iconst C (x := nI 1) rfl dX12_isLike_136 ?_
        refine mg_icmp_ne C 165 (by decide) dX12_isLike_137 (fun c_ => ?_) (fun c_ => ?_)
        · have h := h.1 c_
          exact mg_sub [0, 1, 2, 3, 4, 5, 6] rfl (sb_isLike_165 C hR43 hR71 x1 x3 x4 x5 x6 x7 v f g h)
        · have h := h.2 c_
          refine mg_iload C 5 rfl dX12_isLike_140 ?_
          refine mg_bipush C (x := nI 37) rfl dX12_isLike_142 ?_
          refine mg_icmp_eq C 161 (by decide) dX12_isLike_144 (fun c_ => ?_) (fun c_ => ?_)
          · have h := h.1 c_
            refine mg_iconst C (x := nI 1) rfl dX12_isLike_161 ?_
            refine mg_goto C 166 (by decide) dX12_isLike_162 ?_
            exact mg_sub [0, 1, 2, 3, 4, 5, 6] rfl (sb_isLike_166 C hR43 hR71 x1 x3 x4 x5 x6 x7 ((nI 1)) v f g h)
          · have h := h.2 c_
            refine mg_aload_n C (i := 0) rfl 0 rfl dX12_isLike_147 ?_
            refine mg_lload_n C (i := 1) rfl 1 rfl dX12_isLike_148 ?_
            refine mg_iload C 6 rfl dX12_isLike_149 ?_
            refine mg_iconst C (x := nI 1) rfl dX12_isLike_151 ?_
            refine mg_isub C dX12_isLike_152 ?_
            refine mg_calliW C (s_at l x1 ((x7 - ((nI 1)))) v f g h) mCal_at rfl ⟨by decide, by decide⟩ rfl (Nat.le_of_ble_eq_true rfl) dX12_isLike_153 (fun r_8 v_8 f_8 g_8 h => ?_)
            refine mg_iload C 5 rfl dX12_isLike_156 ?_
            refine mg_icmp_ne C 165 (by decide) dX12_isLike_158 (fun c_ => ?_) (fun c_ => ?_)
            · have h := h.1 c_
              exact mg_sub [0, 1, 2, 3, 4, 5, 6] rfl (sb_isLike_165 C hR43 hR71 x1 x3 x4 x5 x6 x7 v_8 f_8 g_8 h)
            · have h := h.2 c_
              refine mg_iconst C (x := nI 1) rfl dX12_isLike_161 ?_
              refine mg_goto C 166 (by decide) dX12_isLike_162 ?_
              exact mg_sub [0, 1, 2, 3, 4, 5, 6] rfl (sb_isLike_166 C hR43 hR71 x1 x3 x4 x5 x6 x7 ((nI 1)) v_8 f_8 g_8 h)
    · have h := h.2 c_
      refine mg_aload_n C (i := 0) rfl 0 rfl dX12_isLike_85 ?_
      refine mg_arr C 52 (by decide) (by decide) rfl mL_row rfl dX12_isLike_86 ?_
      refine mg_iload C 6 rfl dX12_isLike_89 ?_
      obtain ⟨hc_91, h⟩ := h
      refine mg_ialoadR C (n := 14) 52 (by decide) (by decide) rfl rfl hc_91 dX12_isLike_91 ?_
      refine mg_iconst C (x := nI 1) rfl dX12_isLike_92 ?_
      refine mg_icmp_eq C 114 (by decide) dX12_isLike_93 (fun c_ => ?_) (fun c_ => ?_)
      · have h := h.1 c_
        refine mg_iconst C (x := nI 1) rfl dX12_isLike_114 ?_
        refine mg_goto C 166 (by decide) dX12_isLike_115 ?_
        exact mg_sub [0, 1, 2, 3, 4, 5, 6] rfl (sb_isLike_166 C hR43 hR71 x1 x3 x4 x5 x6 x7 ((nI 1)) v f g h)
      · have h := h.2 c_
        refine mg_iload C 6 rfl dX12_isLike_96 ?_
        refine mg_if_le C 118 (by decide) dX12_isLike_98 (fun c_ => ?_) (fun c_ => ?_)
        · have h := h.1 c_
          refine mg_iconst C (x := nI 0) rfl dX12_isLike_118 ?_
          refine mg_goto C 166 (by decide) dX12_isLike_119 ?_
          exact mg_sub [0, 1, 2, 3, 4, 5, 6] rfl (sb_isLike_166 C hR43 hR71 x1 x3 x4 x5 x6 x7 ((nI 0)) v f g h)
        · have h := h.2 c_
          refine mg_aload_n C (i := 0) rfl 0 rfl dX12_isLike_101 ?_
          refine mg_arr C 53 (by decide) (by decide) rfl mL_next rfl dX12_isLike_102 ?_
          refine mg_iload C 6 rfl dX12_isLike_105 ?_
          refine mg_iconst C (x := nI 1) rfl dX12_isLike_107 ?_
          refine mg_isub C dX12_isLike_108 ?_
          obtain ⟨hc_109, h⟩ := h
          refine mg_ialoadR C (n := 14) 53 (by decide) (by decide) rfl rfl hc_109 dX12_isLike_109 ?_
          refine mg_iconst C (x := nI 1) rfl dX12_isLike_110 ?_
          refine mg_icmp_ne C 118 (by decide) dX12_isLike_111 (fun c_ => ?_) (fun c_ => ?_)
          · have h := h.1 c_
            refine mg_iconst C (x := nI 0) rfl dX12_isLike_118 ?_
            refine mg_goto C 166 (by decide) dX12_isLike_119 ?_
            exact mg_sub [0, 1, 2, 3, 4, 5, 6] rfl (sb_isLike_166 C hR43 hR71 x1 x3 x4 x5 x6 x7 ((nI 0)) v f g h)
          · have h := h.2 c_
            refine mg_iconst C (x := nI 1) rfl dX12_isLike_114 ?_
            refine mg_goto C 166 (by decide) dX12_isLike_115 ?_
            exact mg_sub [0, 1, 2, 3, 4, 5, 6] rfl (sb_isLike_166 C hR43 hR71 x1 x3 x4 x5 x6 x7 ((nI 1)) v f g h)
set_option maxRecDepth 20000 in
theorem sl_isLike_71 (C : mC p s m args meth c cX12_isLike 9 (some .boolean) A D cI cJ cZ) {post : Int32 → mS → Prop} {R43 : Int64 → Int32 → Int32 → Int32 → (Nat → Int32) → (Nat → Nat → Int32) → (Nat → Nat → Int64) → Prop} (hR43 : ∀ (x1 : Int64) (x3 : Int32) (x4 : Int32) (x5 : Int32) (v : Nat → Int32) (f : Nat → Nat → Int32) (g : Nat → Nat → Int64), R43 x1 x3 x4 x5 v f g → mG p l e (mRm 2 46) s m args below meth c A D cI cJ cZ a 9 (MQ below (va_Qi post (mB D cI cJ cZ a) A) args s 0 0 A) 43 [(0, .ref (a 0)), (1, .long x1), (3, .int x3), (4, .int x4), (5, .int x5)] [] v f g) (x1 : Int64) (x3 : Int32) (x4 : Int32) (x5 : Int32) (x6 : Int32) (x7 : Int32) (v : Nat → Int32) (f : Nat → Nat → Int32) (g : Nat → Nat → Int64) (h : r_isLike_71L (fun r v f g => post r (v, f, g)) R43 x1 x3 x4 x5 x6 x7 v f g) : mG p l e (mRm 2 46) s m args below meth c A D cI cJ cZ a 9 (MQ below (va_Qi post (mB D cI cJ cZ a) A) args s 0 0 A) 71 [(0, .ref (a 0)), (1, .long x1), (3, .int x3), (4, .int x4), (5, .int x5), (6, .int x6), (7, .int x7)] [] v f g :=
  h (fun y => mG p l e (mRm 2 46) s m args below meth c A D cI cJ cZ a 9 (MQ below (va_Qi post (mB D cI cJ cZ a) A) args s 0 0 A) 71 [(0, .ref (a 0)), (1, .long (y.1)), (3, .int (y.2.1)), (4, .int (y.2.2.1)), (5, .int (y.2.2.2.1)), (6, .int (y.2.2.2.2.1)), (7, .int (y.2.2.2.2.2.1))] [] (y.2.2.2.2.2.2.1) (y.2.2.2.2.2.2.2.1) (y.2.2.2.2.2.2.2.2)) (fun y hy => sb_isLike_71 C hR43 (fun b0 b1 b2 b3 b4 b5 v f g z => z) (y.1) (y.2.1) (y.2.2.1) (y.2.2.2.1) (y.2.2.2.2.1) (y.2.2.2.2.2.1) (y.2.2.2.2.2.2.1) (y.2.2.2.2.2.2.2.1) (y.2.2.2.2.2.2.2.2) hy)
set_option maxRecDepth 20000 in
theorem sb_isLike_43 (C : mC p s m args meth c cX12_isLike 9 (some .boolean) A D cI cJ cZ) {post : Int32 → mS → Prop} {R43 : Int64 → Int32 → Int32 → Int32 → (Nat → Int32) → (Nat → Nat → Int32) → (Nat → Nat → Int64) → Prop} (hR43 : ∀ (x1 : Int64) (x3 : Int32) (x4 : Int32) (x5 : Int32) (v : Nat → Int32) (f : Nat → Nat → Int32) (g : Nat → Nat → Int64), R43 x1 x3 x4 x5 v f g → mG p l e (mRm 2 46) s m args below meth c A D cI cJ cZ a 9 (MQ below (va_Qi post (mB D cI cJ cZ a) A) args s 0 0 A) 43 [(0, .ref (a 0)), (1, .long x1), (3, .int x3), (4, .int x4), (5, .int x5)] [] v f g) (x1 : Int64) (x3 : Int32) (x4 : Int32) (x5 : Int32) (v : Nat → Int32) (f : Nat → Nat → Int32) (g : Nat → Nat → Int64) (h : r_isLike_43 (fun r v f g => post r (v, f, g)) R43 x1 x3 x4 x5 v f g) : mG p l e (mRm 2 46) s m args below meth c A D cI cJ cZ a 9 (MQ below (va_Qi post (mB D cI cJ cZ a) A) args s 0 0 A) 43 [(0, .ref (a 0)), (1, .long x1), (3, .int x3), (4, .int x4), (5, .int x5)] [] v f g := by
  unfold r_isLike_43 at h
  refine mg_iload C 4 rfl dX12_isLike_43 ?_
  refine mg_aload_n C (i := 0) rfl 0 rfl dX12_isLike_45 ?_
  refine mg_arr C 42 (by decide) (by decide) rfl mL_amounts rfl dX12_isLike_46 ?_
  refine mg_iload_n C (i := 3) rfl 2 rfl dX12_isLike_49 ?_
  obtain ⟨hc_50, h⟩ := h
  refine mg_ialoadR C (n := 1968) 42 (by decide) (by decide) rfl rfl hc_50 dX12_isLike_50 ?_
  refine mg_icmp_ge C 227 (by decide) dX12_isLike_51 (fun c_ => ?_) (fun c_ => ?_)
  · have h := h.1 c_
    refine mg_aload_n C (i := 0) rfl 0 rfl dX12_isLike_227 ?_
    refine mg_arr C 52 (by decide) (by decide) rfl mL_row rfl dX12_isLike_228 ?_
    refine mg_iload C 3 rfl dX12_isLike_231 ?_
    obtain ⟨hc_233, h⟩ := h
    refine mg_ialoadR C (n := 14) 52 (by decide) (by decide) rfl rfl hc_233 dX12_isLike_233 ?_
    refine mg_iconst C (x := nI 1) rfl dX12_isLike_234 ?_
    refine mg_icmp_ne C 242 (by decide) dX12_isLike_235 (fun c_ => ?_) (fun c_ => ?_)
    · have h := h.1 c_
      refine mg_iconst C (x := nI 0) rfl dX12_isLike_242 ?_
      refine mg_cast (bI false) rfl ?_
      exact mg_zret C (bI_nar _) h dX12_isLike_243
    · have h := h.2 c_
      refine mg_iconst C (x := nI 1) rfl dX12_isLike_238 ?_
      refine mg_goto C 243 (by decide) dX12_isLike_239 ?_
      refine mg_cast (bI true) rfl ?_
      exact mg_zret C (bI_nar _) h dX12_isLike_243
  · have h := h.2 c_
    refine mg_aload_n C (i := 0) rfl 0 rfl dX12_isLike_54 ?_
    refine mg_arr C 47 (by decide) (by decide) rfl mL_wilds rfl dX12_isLike_55 ?_
    refine mg_bipush C (x := nI 12) rfl dX12_isLike_58 ?_
    refine mg_iload_n C (i := 3) rfl 2 rfl dX12_isLike_60 ?_
    refine mg_imul C dX12_isLike_61 ?_
    refine mg_iload C 4 rfl dX12_isLike_62 ?_
    refine mg_iadd C dX12_isLike_64 ?_
    obtain ⟨hc_65, h⟩ := h
    refine mg_ialoadR C (n := 23616) 47 (by decide) (by decide) rfl rfl hc_65 dX12_isLike_65 ?_
    refine mg_nmI (fun x6_2 e_x6_2 => ?_)
    have h := h x6_2 e_x6_2
    refine mg_istore C (lv' := [(6, .int x6_2), (0, .ref (a 0)), (1, .long x1), (3, .int x3), (4, .int x4), (5, .int x5)]) (Nat.le_of_ble_eq_true rfl) rfl dX12_isLike_66 ?_
    refine mg_iconst C (x := nI 0) rfl dX12_isLike_68 ?_
    refine mg_istore C (lv' := [(7, .int ((nI 0))), (6, .int x6_2), (0, .ref (a 0)), (1, .long x1), (3, .int x3), (4, .int x4), (5, .int x5)]) (Nat.le_of_ble_eq_true rfl) rfl dX12_isLike_69 ?_
    exact mg_sub [2, 3, 4, 5, 6, 1, 0] rfl (sl_isLike_71 C hR43 x1 x3 x4 x5 x6_2 (((nI 0))) v f g h)
set_option maxRecDepth 20000 in
theorem sl_isLike_43 (C : mC p s m args meth c cX12_isLike 9 (some .boolean) A D cI cJ cZ) {post : Int32 → mS → Prop}   (x1 : Int64) (x3 : Int32) (x4 : Int32) (x5 : Int32) (v : Nat → Int32) (f : Nat → Nat → Int32) (g : Nat → Nat → Int64) (h : r_isLike_43L (fun r v f g => post r (v, f, g))  x1 x3 x4 x5 v f g) : mG p l e (mRm 2 46) s m args below meth c A D cI cJ cZ a 9 (MQ below (va_Qi post (mB D cI cJ cZ a) A) args s 0 0 A) 43 [(0, .ref (a 0)), (1, .long x1), (3, .int x3), (4, .int x4), (5, .int x5)] [] v f g :=
  h (fun y => mG p l e (mRm 2 46) s m args below meth c A D cI cJ cZ a 9 (MQ below (va_Qi post (mB D cI cJ cZ a) A) args s 0 0 A) 43 [(0, .ref (a 0)), (1, .long (y.1)), (3, .int (y.2.1)), (4, .int (y.2.2.1)), (5, .int (y.2.2.2.1))] [] (y.2.2.2.2.1) (y.2.2.2.2.2.1) (y.2.2.2.2.2.2)) (fun y hy => sb_isLike_43 C  (fun b0 b1 b2 b3 v f g z => z) (y.1) (y.2.1) (y.2.2.1) (y.2.2.2.1) (y.2.2.2.2.1) (y.2.2.2.2.2.1) (y.2.2.2.2.2.2) hy)
set_option maxRecDepth 20000 in
theorem sb_isLike_33 (C : mC p s m args meth c cX12_isLike 9 (some .boolean) A D cI cJ cZ) {post : Int32 → mS → Prop} {R10 : Int64 → Int32 → Int32 → Int32 → (Nat → Int32) → (Nat → Nat → Int32) → (Nat → Nat → Int64) → Prop} (hR10 : ∀ (x1 : Int64) (x3 : Int32) (x4 : Int32) (x5 : Int32) (v : Nat → Int32) (f : Nat → Nat → Int32) (g : Nat → Nat → Int64), R10 x1 x3 x4 x5 v f g → mG p l e (mRm 2 46) s m args below meth c A D cI cJ cZ a 9 (MQ below (va_Qi post (mB D cI cJ cZ a) A) args s 0 0 A) 10 [(0, .ref (a 0)), (1, .long x1), (3, .int x3), (4, .int x4), (5, .int x5)] [] v f g) (x1 : Int64) (x3 : Int32) (x4 : Int32) (x5 : Int32) (t0 : Int32) (t1 : Int32) (v : Nat → Int32) (f : Nat → Nat → Int32) (g : Nat → Nat → Int64) (h : r_isLike_33 (fun r v f g => post r (v, f, g)) R10 x1 x3 x4 x5 t0 t1 v f g) : mG p l e (mRm 2 46) s m args below meth c A D cI cJ cZ a 9 (MQ below (va_Qi post (mB D cI cJ cZ a) A) args s 0 0 A) 33 [(0, .ref (a 0)), (1, .long x1), (3, .int x3), (4, .int x4), (5, .int x5)] [.int t0, .int t1, .ref (a 52)] v f g := by
  unfold r_isLike_33 at h
  obtain ⟨hc_33, h⟩ := h
  refine mg_iastoreR C (n := 14) 52 (by decide) (by decide) rfl rfl hc_33 dX12_isLike_33 ?_
  refine mg_nmF (fun f9 e_f9 => ?_)
  have h := h f9 e_f9
  obtain ⟨x5_10, e_x5_10⟩ : ∃ z : Int32, z = x5 + nI 1 := ⟨_, rfl⟩
  have h := h x5_10 e_x5_10
  refine mg_iinc C (lv' := [(5, .int x5_10), (0, .ref (a 0)), (1, .long x1), (3, .int x3), (4, .int x4)]) 4 rfl (by rw [e_x5_10]; rfl) (Nat.le_of_ble_eq_true rfl) rfl dX12_isLike_34 ?_
  refine mg_goto C 10 (by decide) dX12_isLike_37 ?_
  exact mg_sub [1, 2, 3, 4, 0] rfl (hR10 x1 x3 x4 x5_10 v f9 g h)
set_option maxRecDepth 20000 in
theorem sb_isLike_10 (C : mC p s m args meth c cX12_isLike 9 (some .boolean) A D cI cJ cZ) {post : Int32 → mS → Prop} {R10 : Int64 → Int32 → Int32 → Int32 → (Nat → Int32) → (Nat → Nat → Int32) → (Nat → Nat → Int64) → Prop} (hR10 : ∀ (x1 : Int64) (x3 : Int32) (x4 : Int32) (x5 : Int32) (v : Nat → Int32) (f : Nat → Nat → Int32) (g : Nat → Nat → Int64), R10 x1 x3 x4 x5 v f g → mG p l e (mRm 2 46) s m args below meth c A D cI cJ cZ a 9 (MQ below (va_Qi post (mB D cI cJ cZ a) A) args s 0 0 A) 10 [(0, .ref (a 0)), (1, .long x1), (3, .int x3), (4, .int x4), (5, .int x5)] [] v f g) (x1 : Int64) (x3 : Int32) (x4 : Int32) (x5 : Int32) (v : Nat → Int32) (f : Nat → Nat → Int32) (g : Nat → Nat → Int64) (h : r_isLike_10 (fun r v f g => post r (v, f, g)) R10 x1 x3 x4 x5 v f g) : mG p l e (mRm 2 46) s m args below meth c A D cI cJ cZ a 9 (MQ below (va_Qi post (mB D cI cJ cZ a) A) args s 0 0 A) 10 [(0, .ref (a 0)), (1, .long x1), (3, .int x3), (4, .int x4), (5, .int x5)] [] v f g := by
  unfold r_isLike_10 at h
  refine mg_iload C 4 rfl dX12_isLike_10 ?_
  refine mg_iload C 3 rfl dX12_isLike_12 ?_
  refine mg_icmp_gt C 40 (by decide) dX12_isLike_14 (fun c_ => ?_) (fun c_ => ?_)
  · have h := h.1 c_
    refine mg_iconst C (x := nI 0) rfl dX12_isLike_40 ?_
    refine mg_istore C (lv' := [(5, .int ((nI 0))), (0, .ref (a 0)), (1, .long x1), (3, .int x3), (4, .int x4)]) (Nat.le_of_ble_eq_true rfl) rfl dX12_isLike_41 ?_
    exact mg_sub [1, 2, 3, 4, 0] rfl (sl_isLike_43 C  x1 x3 x4 (((nI 0))) v f g h)
  · have h := h.2 c_
    refine mg_aload_n C (i := 0) rfl 0 rfl dX12_isLike_17 ?_
    refine mg_arr C 52 (by decide) (by decide) rfl mL_row rfl dX12_isLike_18 ?_
    refine mg_iload C 4 rfl dX12_isLike_21 ?_
    refine mg_iload C 4 rfl dX12_isLike_23 ?_
    refine mg_if_ne C 32 (by decide) dX12_isLike_25 (fun c_ => ?_) (fun c_ => ?_)
    · have h := h.1 c_
      refine mg_iconst C (x := nI 0) rfl dX12_isLike_32 ?_
      exact mg_sub [0, 1, 2, 3, 4] rfl (sb_isLike_33 C hR10 x1 x3 x4 x5 ((nI 0)) x5 v f g h)
    · have h := h.2 c_
      refine mg_iconst C (x := nI 1) rfl dX12_isLike_28 ?_
      refine mg_goto C 33 (by decide) dX12_isLike_29 ?_
      exact mg_sub [0, 1, 2, 3, 4] rfl (sb_isLike_33 C hR10 x1 x3 x4 x5 ((nI 1)) x5 v f g h)
set_option maxRecDepth 20000 in
theorem sl_isLike_10 (C : mC p s m args meth c cX12_isLike 9 (some .boolean) A D cI cJ cZ) {post : Int32 → mS → Prop}   (x1 : Int64) (x3 : Int32) (x4 : Int32) (x5 : Int32) (v : Nat → Int32) (f : Nat → Nat → Int32) (g : Nat → Nat → Int64) (h : r_isLike_10L (fun r v f g => post r (v, f, g))  x1 x3 x4 x5 v f g) : mG p l e (mRm 2 46) s m args below meth c A D cI cJ cZ a 9 (MQ below (va_Qi post (mB D cI cJ cZ a) A) args s 0 0 A) 10 [(0, .ref (a 0)), (1, .long x1), (3, .int x3), (4, .int x4), (5, .int x5)] [] v f g :=
  h (fun y => mG p l e (mRm 2 46) s m args below meth c A D cI cJ cZ a 9 (MQ below (va_Qi post (mB D cI cJ cZ a) A) args s 0 0 A) 10 [(0, .ref (a 0)), (1, .long (y.1)), (3, .int (y.2.1)), (4, .int (y.2.2.1)), (5, .int (y.2.2.2.1))] [] (y.2.2.2.2.1) (y.2.2.2.2.2.1) (y.2.2.2.2.2.2)) (fun y hy => sb_isLike_10 C  (fun b0 b1 b2 b3 v f g z => z) (y.1) (y.2.1) (y.2.2.1) (y.2.2.2.1) (y.2.2.2.2.1) (y.2.2.2.2.2.1) (y.2.2.2.2.2.2) hy)
end S_isLike
set_option maxHeartbeats 1000000 in
set_option maxRecDepth 20000 in
theorem s_isLike (l : Launch) (x1 : Int64) (x3 : Int32) (v : Nat → Int32) (f : Nat → Nat → Int32) (g : Nat → Nat → Int64) {P : Int32 → (Nat → Int32) → (Nat → Nat → Int32) → (Nat → Nat → Int64) → Prop} (h : r_isLike P x1 x3 v f g) : mMi l yX12_isLike cX12_isLike 9 (some .boolean) 2 46 false [.long x1, .int x3] v f g (fun r w => P r w.1 w.2.1 w.2.2) := by
  intro D cI cJ cZ a sz
  refine mg_body (by decide +kernel) rfl (Nat.le_of_ble_eq_true rfl) ?_
  intro p e s m args below meth c hsz C
  clear hsz
  generalize va_A (mW cI cJ cZ a v f g) sz = A at C ⊢
  refine mg_lv (lv' := [(0, .ref (a 0)), (1, .long x1), (3, .int x3)]) rfl ?_
  unfold r_isLike at h
  refine mg_aload_n C (i := 0) rfl 0 rfl dX12_isLike_0 ?_
  refine mg_lload_n C (i := 1) rfl 1 rfl dX12_isLike_1 ?_
  refine mg_calliW C (s_length l x1 v f g h) mCal_length rfl ⟨by decide, by decide⟩ rfl (Nat.le_of_ble_eq_true rfl) dX12_isLike_2 (fun r_1 v_1 f_1 g_1 h => ?_)
  refine mg_istore C (lv' := [(4, .int r_1), (0, .ref (a 0)), (1, .long x1), (3, .int x3)]) (Nat.le_of_ble_eq_true rfl) rfl dX12_isLike_5 ?_
  refine mg_iconst C (x := nI 0) rfl dX12_isLike_7 ?_
  refine mg_istore C (lv' := [(5, .int ((nI 0))), (4, .int r_1), (0, .ref (a 0)), (1, .long x1), (3, .int x3)]) (Nat.le_of_ble_eq_true rfl) rfl dX12_isLike_8 ?_
  exact mg_sub [2, 3, 4, 1, 0] rfl (sl_isLike_10 C  x1 x3 r_1 (((nI 0))) v_1 f_1 g_1 h)
def r_edits_177 (Q : Int32 → (Nat → Int32) → (Nat → Nat → Int32) → (Nat → Nat → Int64) → Prop) (R35 : Int64 → Int64 → Int32 → Int32 → (Nat → Int32) → (Nat → Nat → Int32) → (Nat → Nat → Int64) → Prop) (R177 : Int64 → Int64 → Int32 → Int32 → Int32 → (Nat → Int32) → (Nat → Nat → Int32) → (Nat → Nat → Int64) → Prop) (x1 : Int64) (x3 : Int64) (x5 : Int32) (x6 : Int32) (x7 : Int32) (v : Nat → Int32) (f : Nat → Nat → Int32) (g : Nat → Nat → Int64) : Prop :=
((x5 < x7 →
  ∀ x6_3 : Int32, x6_3 = x6 + nI 1 → R35 x1 x3 x5 x6_3 v f g) ∧
 (¬ x5 < x7 →
  vp_in x7 14 ∧ (vp_in x7 14 ∧ (∀ f4 : Nat → Nat → Int32, f4 = mU f 52 (x7).toNatClampNeg ((f 53 (x7).toNatClampNeg)) → ∀ x7_5 : Int32, x7_5 = x7 + nI 1 → R177 x1 x3 x5 x6 x7_5 v f4 g))))
def r_edits_177L (Q : Int32 → (Nat → Int32) → (Nat → Nat → Int32) → (Nat → Nat → Int64) → Prop) (R35 : Int64 → Int64 → Int32 → Int32 → (Nat → Int32) → (Nat → Nat → Int32) → (Nat → Nat → Int64) → Prop) (x1 : Int64) (x3 : Int64) (x5 : Int32) (x6 : Int32) (x7 : Int32) (v : Nat → Int32) (f : Nat → Nat → Int32) (g : Nat → Nat → Int64) : Prop :=
  lfp (X := Int64 × Int64 × Int32 × Int32 × Int32 × (Nat → Int32) × (Nat → Nat → Int32) × (Nat → Nat → Int64)) (fun P y => r_edits_177 Q R35 (fun b0 b1 b2 b3 b4 v f g => P (b0, b1, b2, b3, b4, v, f, g)) y.1 y.2.1 y.2.2.1 y.2.2.2.1 y.2.2.2.2.1 y.2.2.2.2.2.1 y.2.2.2.2.2.2.1 y.2.2.2.2.2.2.2) (x1, x3, x5, x6, x7, v, f, g)
def r_edits_159 (Q : Int32 → (Nat → Int32) → (Nat → Nat → Int32) → (Nat → Nat → Int64) → Prop) (R35 : Int64 → Int64 → Int32 → Int32 → (Nat → Int32) → (Nat → Nat → Int32) → (Nat → Nat → Int64) → Prop) (R48 : Int64 → Int64 → Int32 → Int32 → Int32 → (Nat → Int32) → (Nat → Nat → Int32) → (Nat → Nat → Int64) → Prop) (x1 : Int64) (x3 : Int64) (x5 : Int32) (x6 : Int32) (x7 : Int32) (x8 : Int32) (v : Nat → Int32) (f : Nat → Nat → Int32) (g : Nat → Nat → Int64) : Prop :=
vp_in x7 14 ∧ (∀ f7 : Nat → Nat → Int32, f7 = mU f 53 (x7).toNatClampNeg x8 → ∀ x7_8 : Int32, x7_8 = x7 + nI 1 → R48 x1 x3 x5 x6 x7_8 v f7 g)
def r_edits_157 (Q : Int32 → (Nat → Int32) → (Nat → Nat → Int32) → (Nat → Nat → Int64) → Prop) (R35 : Int64 → Int64 → Int32 → Int32 → (Nat → Int32) → (Nat → Nat → Int32) → (Nat → Nat → Int64) → Prop) (R48 : Int64 → Int64 → Int32 → Int32 → Int32 → (Nat → Int32) → (Nat → Nat → Int32) → (Nat → Nat → Int64) → Prop) (x1 : Int64) (x3 : Int64) (x5 : Int32) (x6 : Int32) (x7 : Int32) (t0 : Int32) (v : Nat → Int32) (f : Nat → Nat → Int32) (g : Nat → Nat → Int64) : Prop :=
r_edits_159 Q R35 R48 x1 x3 x5 x6 x7 t0 v f g
def r_edits_140 (Q : Int32 → (Nat → Int32) → (Nat → Nat → Int32) → (Nat → Nat → Int64) → Prop) (R35 : Int64 → Int64 → Int32 → Int32 → (Nat → Int32) → (Nat → Nat → Int32) → (Nat → Nat → Int64) → Prop) (R48 : Int64 → Int64 → Int32 → Int32 → Int32 → (Nat → Int32) → (Nat → Nat → Int32) → (Nat → Nat → Int64) → Prop) (x1 : Int64) (x3 : Int64) (x5 : Int32) (x6 : Int32) (x7 : Int32) (x8 : Int32) (t0 : Int32) (t1 : Int32) (v : Nat → Int32) (f : Nat → Nat → Int32) (g : Nat → Nat → Int64) : Prop :=
∀ x9_11 : Int32, x9_11 = (t1 + t0) → ((x8 ≤ x9_11 →
  r_edits_157 Q R35 R48 x1 x3 x5 x6 x7 x8 v f g) ∧
 (¬ x8 ≤ x9_11 →
  r_edits_157 Q R35 R48 x1 x3 x5 x6 x7 x9_11 v f g))
def r_edits_103 (Q : Int32 → (Nat → Int32) → (Nat → Nat → Int32) → (Nat → Nat → Int64) → Prop) (R35 : Int64 → Int64 → Int32 → Int32 → (Nat → Int32) → (Nat → Nat → Int32) → (Nat → Nat → Int64) → Prop) (R48 : Int64 → Int64 → Int32 → Int32 → Int32 → (Nat → Int32) → (Nat → Nat → Int32) → (Nat → Nat → Int64) → Prop) (x1 : Int64) (x3 : Int64) (x5 : Int32) (x6 : Int32) (x7 : Int32) (t0 : Int32) (v : Nat → Int32) (f : Nat → Nat → Int32) (g : Nat → Nat → Int64) : Prop :=
vp_in ((x7 - ((nI 1)))) 14 ∧ (r_at (fun r_9 v_9 f_9 g_9 => 
r_at (fun r_10 v_10 f_10 g_10 => 
((¬ r_9 = r_10 →
  r_edits_140 Q R35 R48 x1 x3 x5 x6 x7 t0 ((nI 1)) ((f 52 ((x7 - ((nI 1)))).toNatClampNeg)) v_10 f_10 g_10) ∧
 (r_9 = r_10 →
  r_edits_140 Q R35 R48 x1 x3 x5 x6 x7 t0 ((nI 0)) ((f 52 ((x7 - ((nI 1)))).toNatClampNeg)) v_10 f_10 g_10))) x3 ((x6 - ((nI 1)))) v_9 f_9 g_9) x1 ((x7 - ((nI 1)))) v f g)
def r_edits_48 (Q : Int32 → (Nat → Int32) → (Nat → Nat → Int32) → (Nat → Nat → Int64) → Prop) (R35 : Int64 → Int64 → Int32 → Int32 → (Nat → Int32) → (Nat → Nat → Int32) → (Nat → Nat → Int64) → Prop) (R48 : Int64 → Int64 → Int32 → Int32 → Int32 → (Nat → Int32) → (Nat → Nat → Int32) → (Nat → Nat → Int64) → Prop) (x1 : Int64) (x3 : Int64) (x5 : Int32) (x6 : Int32) (x7 : Int32) (v : Nat → Int32) (f : Nat → Nat → Int32) (g : Nat → Nat → Int64) : Prop :=
((x5 < x7 →
  r_edits_177L Q R35 x1 x3 x5 x6 (((nI 0))) v f g) ∧
 (¬ x5 < x7 →
  vp_in x7 14 ∧ (∀ x8_6 : Int32, x8_6 = (((f 52 (x7).toNatClampNeg)) + ((nI 1))) → ((x7 ≤ 0 →
    r_edits_159 Q R35 R48 x1 x3 x5 x6 x7 x8_6 v f g) ∧
   (¬ x7 ≤ 0 →
    vp_in ((x7 - ((nI 1)))) 14 ∧ (((x8_6 ≤ ((((f 53 ((x7 - ((nI 1)))).toNatClampNeg)) + ((nI 1)))) →
      r_edits_103 Q R35 R48 x1 x3 x5 x6 x7 x8_6 v f g) ∧
     (¬ x8_6 ≤ ((((f 53 ((x7 - ((nI 1)))).toNatClampNeg)) + ((nI 1)))) →
      vp_in ((x7 - ((nI 1)))) 14 ∧ (r_edits_103 Q R35 R48 x1 x3 x5 x6 x7 ((((f 53 ((x7 - ((nI 1)))).toNatClampNeg)) + ((nI 1)))) v f g)))))))))
def r_edits_48L (Q : Int32 → (Nat → Int32) → (Nat → Nat → Int32) → (Nat → Nat → Int64) → Prop) (R35 : Int64 → Int64 → Int32 → Int32 → (Nat → Int32) → (Nat → Nat → Int32) → (Nat → Nat → Int64) → Prop) (x1 : Int64) (x3 : Int64) (x5 : Int32) (x6 : Int32) (x7 : Int32) (v : Nat → Int32) (f : Nat → Nat → Int32) (g : Nat → Nat → Int64) : Prop :=
  lfp (X := Int64 × Int64 × Int32 × Int32 × Int32 × (Nat → Int32) × (Nat → Nat → Int32) × (Nat → Nat → Int64)) (fun P y => r_edits_48 Q R35 (fun b0 b1 b2 b3 b4 v f g => P (b0, b1, b2, b3, b4, v, f, g)) y.1 y.2.1 y.2.2.1 y.2.2.2.1 y.2.2.2.2.1 y.2.2.2.2.2.1 y.2.2.2.2.2.2.1 y.2.2.2.2.2.2.2) (x1, x3, x5, x6, x7, v, f, g)
def r_edits_35 (Q : Int32 → (Nat → Int32) → (Nat → Nat → Int32) → (Nat → Nat → Int64) → Prop) (R35 : Int64 → Int64 → Int32 → Int32 → (Nat → Int32) → (Nat → Nat → Int32) → (Nat → Nat → Int64) → Prop) (x1 : Int64) (x3 : Int64) (x5 : Int32) (x6 : Int32) (v : Nat → Int32) (f : Nat → Nat → Int32) (g : Nat → Nat → Int64) : Prop :=
r_length (fun r_2 v_2 f_2 g_2 => 
((r_2 < x6 →
  vp_in x5 14 ∧ (Q ((f_2 52 (x5).toNatClampNeg)) v_2 f_2 g_2)) ∧
 (¬ r_2 < x6 →
  r_edits_48L Q R35 x1 x3 x5 x6 (((nI 0))) v_2 f_2 g_2))) x3 v f g
def r_edits_35L (Q : Int32 → (Nat → Int32) → (Nat → Nat → Int32) → (Nat → Nat → Int64) → Prop)  (x1 : Int64) (x3 : Int64) (x5 : Int32) (x6 : Int32) (v : Nat → Int32) (f : Nat → Nat → Int32) (g : Nat → Nat → Int64) : Prop :=
  lfp (X := Int64 × Int64 × Int32 × Int32 × (Nat → Int32) × (Nat → Nat → Int32) × (Nat → Nat → Int64)) (fun P y => r_edits_35 Q  (fun b0 b1 b2 b3 v f g => P (b0, b1, b2, b3, v, f, g)) y.1 y.2.1 y.2.2.1 y.2.2.2.1 y.2.2.2.2.1 y.2.2.2.2.2.1 y.2.2.2.2.2.2) (x1, x3, x5, x6, v, f, g)
def r_edits_10 (Q : Int32 → (Nat → Int32) → (Nat → Nat → Int32) → (Nat → Nat → Int64) → Prop) (R10 : Int64 → Int64 → Int32 → Int32 → (Nat → Int32) → (Nat → Nat → Int32) → (Nat → Nat → Int64) → Prop) (x1 : Int64) (x3 : Int64) (x5 : Int32) (x6 : Int32) (v : Nat → Int32) (f : Nat → Nat → Int32) (g : Nat → Nat → Int64) : Prop :=
((x5 < x6 →
  r_edits_35L Q  x1 x3 x5 (((nI 1))) v f g) ∧
 (¬ x5 < x6 →
  vp_in x6 14 ∧ (∀ f12 : Nat → Nat → Int32, f12 = mU f 52 (x6).toNatClampNeg x6 → ∀ x6_13 : Int32, x6_13 = x6 + nI 1 → R10 x1 x3 x5 x6_13 v f12 g)))
def r_edits_10L (Q : Int32 → (Nat → Int32) → (Nat → Nat → Int32) → (Nat → Nat → Int64) → Prop)  (x1 : Int64) (x3 : Int64) (x5 : Int32) (x6 : Int32) (v : Nat → Int32) (f : Nat → Nat → Int32) (g : Nat → Nat → Int64) : Prop :=
  lfp (X := Int64 × Int64 × Int32 × Int32 × (Nat → Int32) × (Nat → Nat → Int32) × (Nat → Nat → Int64)) (fun P y => r_edits_10 Q  (fun b0 b1 b2 b3 v f g => P (b0, b1, b2, b3, v, f, g)) y.1 y.2.1 y.2.2.1 y.2.2.2.1 y.2.2.2.2.1 y.2.2.2.2.2.1 y.2.2.2.2.2.2) (x1, x3, x5, x6, v, f, g)
def r_edits (Q : Int32 → (Nat → Int32) → (Nat → Nat → Int32) → (Nat → Nat → Int64) → Prop) (x1 : Int64) (x3 : Int64) (v : Nat → Int32) (f : Nat → Nat → Int32) (g : Nat → Nat → Int64) : Prop :=
r_length (fun r_1 v_1 f_1 g_1 => 
r_edits_10L Q  x1 x3 r_1 (((nI 0))) v_1 f_1 g_1) x1 v f g
section S_edits
variable {p : Program} {l : Launch} {e : Env} {s : State} {m : MethodId} {args : Array Value} {below : List Frame} {meth : Method} {c : Code} {A : Nat → Prop} {D : va_G} {cI cJ cZ : ClassId} {a : Nat → Nat}
set_option maxRecDepth 20000 in
theorem sb_edits_177 (C : mC p s m args meth c cX12_edits 10 (some .int) A D cI cJ cZ) {post : Int32 → mS → Prop} {R35 : Int64 → Int64 → Int32 → Int32 → (Nat → Int32) → (Nat → Nat → Int32) → (Nat → Nat → Int64) → Prop} {R177 : Int64 → Int64 → Int32 → Int32 → Int32 → (Nat → Int32) → (Nat → Nat → Int32) → (Nat → Nat → Int64) → Prop} (hR35 : ∀ (x1 : Int64) (x3 : Int64) (x5 : Int32) (x6 : Int32) (v : Nat → Int32) (f : Nat → Nat → Int32) (g : Nat → Nat → Int64), R35 x1 x3 x5 x6 v f g → mG p l e (mRm 2 46) s m args below meth c A D cI cJ cZ a 10 (MQ below (va_Qi post (mB D cI cJ cZ a) A) args s 0 0 A) 35 [(0, .ref (a 0)), (1, .long x1), (3, .long x3), (5, .int x5), (6, .int x6)] [] v f g) (hR177 : ∀ (x1 : Int64) (x3 : Int64) (x5 : Int32) (x6 : Int32) (x7 : Int32) (v : Nat → Int32) (f : Nat → Nat → Int32) (g : Nat → Nat → Int64), R177 x1 x3 x5 x6 x7 v f g → mG p l e (mRm 2 46) s m args below meth c A D cI cJ cZ a 10 (MQ below (va_Qi post (mB D cI cJ cZ a) A) args s 0 0 A) 177 [(0, .ref (a 0)), (1, .long x1), (3, .long x3), (5, .int x5), (6, .int x6), (7, .int x7)] [] v f g) (x1 : Int64) (x3 : Int64) (x5 : Int32) (x6 : Int32) (x7 : Int32) (v : Nat → Int32) (f : Nat → Nat → Int32) (g : Nat → Nat → Int64) (h : r_edits_177 (fun r v f g => post r (v, f, g)) R35 R177 x1 x3 x5 x6 x7 v f g) : mG p l e (mRm 2 46) s m args below meth c A D cI cJ cZ a 10 (MQ below (va_Qi post (mB D cI cJ cZ a) A) args s 0 0 A) 177 [(0, .ref (a 0)), (1, .long x1), (3, .long x3), (5, .int x5), (6, .int x6), (7, .int x7)] [] v f g := by
  unfold r_edits_177 at h
  refine mg_iload C 5 rfl dX12_edits_177 ?_
  refine mg_iload C 3 rfl dX12_edits_179 ?_
  refine mg_icmp_gt C 204 (by decide) dX12_edits_181 (fun c_ => ?_) (fun c_ => ?_)
  · have h := h.1 c_
    obtain ⟨x6_3, e_x6_3⟩ : ∃ z : Int32, z = x6 + nI 1 := ⟨_, rfl⟩
    have h := h x6_3 e_x6_3
    refine mg_iinc C (lv' := [(6, .int x6_3), (0, .ref (a 0)), (1, .long x1), (3, .long x3), (5, .int x5), (7, .int x7)]) 4 rfl (by rw [e_x6_3]; rfl) (Nat.le_of_ble_eq_true rfl) rfl dX12_edits_204 ?_
    refine mg_goto C 35 (by decide) dX12_edits_207 ?_
    exact mg_sub [1, 2, 3, 4, 0] rfl (hR35 x1 x3 x5 x6_3 v f g h)
  · have h := h.2 c_
    refine mg_aload_n C (i := 0) rfl 0 rfl dX12_edits_184 ?_
    refine mg_arr C 52 (by decide) (by decide) rfl mL_row rfl dX12_edits_185 ?_
    refine mg_iload C 5 rfl dX12_edits_188 ?_
    refine mg_aload_n C (i := 0) rfl 0 rfl dX12_edits_190 ?_
    refine mg_arr C 53 (by decide) (by decide) rfl mL_next rfl dX12_edits_191 ?_
    refine mg_iload C 5 rfl dX12_edits_194 ?_
    obtain ⟨hc_196, h⟩ := h
    refine mg_ialoadR C (n := 14) 53 (by decide) (by decide) rfl rfl hc_196 dX12_edits_196 ?_
    obtain ⟨hc_197, h⟩ := h
    refine mg_iastoreR C (n := 14) 52 (by decide) (by decide) rfl rfl hc_197 dX12_edits_197 ?_
    refine mg_nmF (fun f4 e_f4 => ?_)
    have h := h f4 e_f4
    obtain ⟨x7_5, e_x7_5⟩ : ∃ z : Int32, z = x7 + nI 1 := ⟨_, rfl⟩
    have h := h x7_5 e_x7_5
    refine mg_iinc C (lv' := [(7, .int x7_5), (0, .ref (a 0)), (1, .long x1), (3, .long x3), (5, .int x5), (6, .int x6)]) 5 rfl (by rw [e_x7_5]; rfl) (Nat.le_of_ble_eq_true rfl) rfl dX12_edits_198 ?_
    refine mg_goto C 177 (by decide) dX12_edits_201 ?_
    exact mg_sub [1, 2, 3, 4, 5, 0] rfl (hR177 x1 x3 x5 x6 x7_5 v f4 g h)
set_option maxRecDepth 20000 in
theorem sl_edits_177 (C : mC p s m args meth c cX12_edits 10 (some .int) A D cI cJ cZ) {post : Int32 → mS → Prop} {R35 : Int64 → Int64 → Int32 → Int32 → (Nat → Int32) → (Nat → Nat → Int32) → (Nat → Nat → Int64) → Prop} (hR35 : ∀ (x1 : Int64) (x3 : Int64) (x5 : Int32) (x6 : Int32) (v : Nat → Int32) (f : Nat → Nat → Int32) (g : Nat → Nat → Int64), R35 x1 x3 x5 x6 v f g → mG p l e (mRm 2 46) s m args below meth c A D cI cJ cZ a 10 (MQ below (va_Qi post (mB D cI cJ cZ a) A) args s 0 0 A) 35 [(0, .ref (a 0)), (1, .long x1), (3, .long x3), (5, .int x5), (6, .int x6)] [] v f g) (x1 : Int64) (x3 : Int64) (x5 : Int32) (x6 : Int32) (x7 : Int32) (v : Nat → Int32) (f : Nat → Nat → Int32) (g : Nat → Nat → Int64) (h : r_edits_177L (fun r v f g => post r (v, f, g)) R35 x1 x3 x5 x6 x7 v f g) : mG p l e (mRm 2 46) s m args below meth c A D cI cJ cZ a 10 (MQ below (va_Qi post (mB D cI cJ cZ a) A) args s 0 0 A) 177 [(0, .ref (a 0)), (1, .long x1), (3, .long x3), (5, .int x5), (6, .int x6), (7, .int x7)] [] v f g :=
  h (fun y => mG p l e (mRm 2 46) s m args below meth c A D cI cJ cZ a 10 (MQ below (va_Qi post (mB D cI cJ cZ a) A) args s 0 0 A) 177 [(0, .ref (a 0)), (1, .long (y.1)), (3, .long (y.2.1)), (5, .int (y.2.2.1)), (6, .int (y.2.2.2.1)), (7, .int (y.2.2.2.2.1))] [] (y.2.2.2.2.2.1) (y.2.2.2.2.2.2.1) (y.2.2.2.2.2.2.2)) (fun y hy => sb_edits_177 C hR35 (fun b0 b1 b2 b3 b4 v f g z => z) (y.1) (y.2.1) (y.2.2.1) (y.2.2.2.1) (y.2.2.2.2.1) (y.2.2.2.2.2.1) (y.2.2.2.2.2.2.1) (y.2.2.2.2.2.2.2) hy)
set_option maxRecDepth 20000 in
theorem sb_edits_159 (C : mC p s m args meth c cX12_edits 10 (some .int) A D cI cJ cZ) {post : Int32 → mS → Prop} {R35 : Int64 → Int64 → Int32 → Int32 → (Nat → Int32) → (Nat → Nat → Int32) → (Nat → Nat → Int64) → Prop} {R48 : Int64 → Int64 → Int32 → Int32 → Int32 → (Nat → Int32) → (Nat → Nat → Int32) → (Nat → Nat → Int64) → Prop} (hR35 : ∀ (x1 : Int64) (x3 : Int64) (x5 : Int32) (x6 : Int32) (v : Nat → Int32) (f : Nat → Nat → Int32) (g : Nat → Nat → Int64), R35 x1 x3 x5 x6 v f g → mG p l e (mRm 2 46) s m args below meth c A D cI cJ cZ a 10 (MQ below (va_Qi post (mB D cI cJ cZ a) A) args s 0 0 A) 35 [(0, .ref (a 0)), (1, .long x1), (3, .long x3), (5, .int x5), (6, .int x6)] [] v f g) (hR48 : ∀ (x1 : Int64) (x3 : Int64) (x5 : Int32) (x6 : Int32) (x7 : Int32) (v : Nat → Int32) (f : Nat → Nat → Int32) (g : Nat → Nat → Int64), R48 x1 x3 x5 x6 x7 v f g → mG p l e (mRm 2 46) s m args below meth c A D cI cJ cZ a 10 (MQ below (va_Qi post (mB D cI cJ cZ a) A) args s 0 0 A) 48 [(0, .ref (a 0)), (1, .long x1), (3, .long x3), (5, .int x5), (6, .int x6), (7, .int x7)] [] v f g) (x1 : Int64) (x3 : Int64) (x5 : Int32) (x6 : Int32) (x7 : Int32) (x8 : Int32) (v : Nat → Int32) (f : Nat → Nat → Int32) (g : Nat → Nat → Int64) (h : r_edits_159 (fun r v f g => post r (v, f, g)) R35 R48 x1 x3 x5 x6 x7 x8 v f g) : mG p l e (mRm 2 46) s m args below meth c A D cI cJ cZ a 10 (MQ below (va_Qi post (mB D cI cJ cZ a) A) args s 0 0 A) 159 [(0, .ref (a 0)), (1, .long x1), (3, .long x3), (5, .int x5), (6, .int x6), (7, .int x7), (8, .int x8)] [] v f g := by
  unfold r_edits_159 at h
  refine mg_aload_n C (i := 0) rfl 0 rfl dX12_edits_159 ?_
  refine mg_arr C 53 (by decide) (by decide) rfl mL_next rfl dX12_edits_160 ?_
  refine mg_iload C 5 rfl dX12_edits_163 ?_
  refine mg_iload C 6 rfl dX12_edits_165 ?_
  obtain ⟨hc_167, h⟩ := h
  refine mg_iastoreR C (n := 14) 53 (by decide) (by decide) rfl rfl hc_167 dX12_edits_167 ?_
  refine mg_nmF (fun f7 e_f7 => ?_)
  have h := h f7 e_f7
  obtain ⟨x7_8, e_x7_8⟩ : ∃ z : Int32, z = x7 + nI 1 := ⟨_, rfl⟩
  have h := h x7_8 e_x7_8
  refine mg_iinc C (lv' := [(7, .int x7_8), (0, .ref (a 0)), (1, .long x1), (3, .long x3), (5, .int x5), (6, .int x6), (8, .int x8)]) 5 rfl (by rw [e_x7_8]; rfl) (Nat.le_of_ble_eq_true rfl) rfl dX12_edits_168 ?_
  refine mg_goto C 48 (by decide) dX12_edits_171 ?_
  exact mg_sub [1, 2, 3, 4, 5, 0] rfl (hR48 x1 x3 x5 x6 x7_8 v f7 g h)
set_option maxRecDepth 20000 in
theorem sb_edits_157 (C : mC p s m args meth c cX12_edits 10 (some .int) A D cI cJ cZ) {post : Int32 → mS → Prop} {R35 : Int64 → Int64 → Int32 → Int32 → (Nat → Int32) → (Nat → Nat → Int32) → (Nat → Nat → Int64) → Prop} {R48 : Int64 → Int64 → Int32 → Int32 → Int32 → (Nat → Int32) → (Nat → Nat → Int32) → (Nat → Nat → Int64) → Prop} (hR35 : ∀ (x1 : Int64) (x3 : Int64) (x5 : Int32) (x6 : Int32) (v : Nat → Int32) (f : Nat → Nat → Int32) (g : Nat → Nat → Int64), R35 x1 x3 x5 x6 v f g → mG p l e (mRm 2 46) s m args below meth c A D cI cJ cZ a 10 (MQ below (va_Qi post (mB D cI cJ cZ a) A) args s 0 0 A) 35 [(0, .ref (a 0)), (1, .long x1), (3, .long x3), (5, .int x5), (6, .int x6)] [] v f g) (hR48 : ∀ (x1 : Int64) (x3 : Int64) (x5 : Int32) (x6 : Int32) (x7 : Int32) (v : Nat → Int32) (f : Nat → Nat → Int32) (g : Nat → Nat → Int64), R48 x1 x3 x5 x6 x7 v f g → mG p l e (mRm 2 46) s m args below meth c A D cI cJ cZ a 10 (MQ below (va_Qi post (mB D cI cJ cZ a) A) args s 0 0 A) 48 [(0, .ref (a 0)), (1, .long x1), (3, .long x3), (5, .int x5), (6, .int x6), (7, .int x7)] [] v f g) (x1 : Int64) (x3 : Int64) (x5 : Int32) (x6 : Int32) (x7 : Int32) (t0 : Int32) (v : Nat → Int32) (f : Nat → Nat → Int32) (g : Nat → Nat → Int64) (h : r_edits_157 (fun r v f g => post r (v, f, g)) R35 R48 x1 x3 x5 x6 x7 t0 v f g) : mG p l e (mRm 2 46) s m args below meth c A D cI cJ cZ a 10 (MQ below (va_Qi post (mB D cI cJ cZ a) A) args s 0 0 A) 157 [(0, .ref (a 0)), (1, .long x1), (3, .long x3), (5, .int x5), (6, .int x6), (7, .int x7)] [.int t0] v f g := by
  unfold r_edits_157 at h
  refine mg_istore C (lv' := [(8, .int t0), (0, .ref (a 0)), (1, .long x1), (3, .long x3), (5, .int x5), (6, .int x6), (7, .int x7)]) (Nat.le_of_ble_eq_true rfl) rfl dX12_edits_157 ?_
  exact mg_sub [1, 2, 3, 4, 5, 6, 0] rfl (sb_edits_159 C hR35 hR48 x1 x3 x5 x6 x7 t0 v f g h)
set_option maxRecDepth 20000 in
theorem sb_edits_140 (C : mC p s m args meth c cX12_edits 10 (some .int) A D cI cJ cZ) {post : Int32 → mS → Prop} {R35 : Int64 → Int64 → Int32 → Int32 → (Nat → Int32) → (Nat → Nat → Int32) → (Nat → Nat → Int64) → Prop} {R48 : Int64 → Int64 → Int32 → Int32 → Int32 → (Nat → Int32) → (Nat → Nat → Int32) → (Nat → Nat → Int64) → Prop} (hR35 : ∀ (x1 : Int64) (x3 : Int64) (x5 : Int32) (x6 : Int32) (v : Nat → Int32) (f : Nat → Nat → Int32) (g : Nat → Nat → Int64), R35 x1 x3 x5 x6 v f g → mG p l e (mRm 2 46) s m args below meth c A D cI cJ cZ a 10 (MQ below (va_Qi post (mB D cI cJ cZ a) A) args s 0 0 A) 35 [(0, .ref (a 0)), (1, .long x1), (3, .long x3), (5, .int x5), (6, .int x6)] [] v f g) (hR48 : ∀ (x1 : Int64) (x3 : Int64) (x5 : Int32) (x6 : Int32) (x7 : Int32) (v : Nat → Int32) (f : Nat → Nat → Int32) (g : Nat → Nat → Int64), R48 x1 x3 x5 x6 x7 v f g → mG p l e (mRm 2 46) s m args below meth c A D cI cJ cZ a 10 (MQ below (va_Qi post (mB D cI cJ cZ a) A) args s 0 0 A) 48 [(0, .ref (a 0)), (1, .long x1), (3, .long x3), (5, .int x5), (6, .int x6), (7, .int x7)] [] v f g) (x1 : Int64) (x3 : Int64) (x5 : Int32) (x6 : Int32) (x7 : Int32) (x8 : Int32) (t0 : Int32) (t1 : Int32) (v : Nat → Int32) (f : Nat → Nat → Int32) (g : Nat → Nat → Int64) (h : r_edits_140 (fun r v f g => post r (v, f, g)) R35 R48 x1 x3 x5 x6 x7 x8 t0 t1 v f g) : mG p l e (mRm 2 46) s m args below meth c A D cI cJ cZ a 10 (MQ below (va_Qi post (mB D cI cJ cZ a) A) args s 0 0 A) 140 [(0, .ref (a 0)), (1, .long x1), (3, .long x3), (5, .int x5), (6, .int x6), (7, .int x7), (8, .int x8)] [.int t0, .int t1] v f g := by
  unfold r_edits_140 at h
  refine mg_iadd C dX12_edits_140 ?_
  refine mg_nmI (fun x9_11 e_x9_11 => ?_)
  have h := h x9_11 e_x9_11
  refine mg_istore C (lv' := [(9, .int x9_11), (0, .ref (a 0)), (1, .long x1), (3, .long x3), (5, .int x5), (6, .int x6), (7, .int x7), (8, .int x8)]) (Nat.le_of_ble_eq_true rfl) rfl dX12_edits_141 ?_
  refine mg_iload C 0 rfl dX12_edits_143 ?_
  refine mg_iload C 7 rfl dX12_edits_145 ?_
  refine mg_icmp_ge C 155 (by decide) dX12_edits_147 (fun c_ => ?_) (fun c_ => ?_)
  · have h := h.1 c_
    refine mg_iload C 7 rfl dX12_edits_155 ?_
    exact mg_sub [1, 2, 3, 4, 5, 6] rfl (sb_edits_157 C hR35 hR48 x1 x3 x5 x6 x7 x8 v f g h)
  · have h := h.2 c_
    refine mg_iload C 0 rfl dX12_edits_150 ?_
    refine mg_goto C 157 (by decide) dX12_edits_152 ?_
    exact mg_sub [1, 2, 3, 4, 5, 6] rfl (sb_edits_157 C hR35 hR48 x1 x3 x5 x6 x7 x9_11 v f g h)
set_option maxRecDepth 20000 in
theorem sb_edits_103 (C : mC p s m args meth c cX12_edits 10 (some .int) A D cI cJ cZ) {post : Int32 → mS → Prop} {R35 : Int64 → Int64 → Int32 → Int32 → (Nat → Int32) → (Nat → Nat → Int32) → (Nat → Nat → Int64) → Prop} {R48 : Int64 → Int64 → Int32 → Int32 → Int32 → (Nat → Int32) → (Nat → Nat → Int32) → (Nat → Nat → Int64) → Prop} (hR35 : ∀ (x1 : Int64) (x3 : Int64) (x5 : Int32) (x6 : Int32) (v : Nat → Int32) (f : Nat → Nat → Int32) (g : Nat → Nat → Int64), R35 x1 x3 x5 x6 v f g → mG p l e (mRm 2 46) s m args below meth c A D cI cJ cZ a 10 (MQ below (va_Qi post (mB D cI cJ cZ a) A) args s 0 0 A) 35 [(0, .ref (a 0)), (1, .long x1), (3, .long x3), (5, .int x5), (6, .int x6)] [] v f g) (hR48 : ∀ (x1 : Int64) (x3 : Int64) (x5 : Int32) (x6 : Int32) (x7 : Int32) (v : Nat → Int32) (f : Nat → Nat → Int32) (g : Nat → Nat → Int64), R48 x1 x3 x5 x6 x7 v f g → mG p l e (mRm 2 46) s m args below meth c A D cI cJ cZ a 10 (MQ below (va_Qi post (mB D cI cJ cZ a) A) args s 0 0 A) 48 [(0, .ref (a 0)), (1, .long x1), (3, .long x3), (5, .int x5), (6, .int x6), (7, .int x7)] [] v f g) (x1 : Int64) (x3 : Int64) (x5 : Int32) (x6 : Int32) (x7 : Int32) (t0 : Int32) (v : Nat → Int32) (f : Nat → Nat → Int32) (g : Nat → Nat → Int64) (h : r_edits_103 (fun r v f g => post r (v, f, g)) R35 R48 x1 x3 x5 x6 x7 t0 v f g) : mG p l e (mRm 2 46) s m args below meth c A D cI cJ cZ a 10 (MQ below (va_Qi post (mB D cI cJ cZ a) A) args s 0 0 A) 103 [(0, .ref (a 0)), (1, .long x1), (3, .long x3), (5, .int x5), (6, .int x6), (7, .int x7)] [.int t0] v f g := by
  unfold r_edits_103 at h
  refine mg_istore C (lv' := [(8, .int t0), (0, .ref (a 0)), (1, .long x1), (3, .long x3), (5, .int x5), (6, .int x6), (7, .int x7)]) (Nat.le_of_ble_eq_true rfl) rfl dX12_edits_103 ?_
  refine mg_aload_n C (i := 0) rfl 1 rfl dX12_edits_105 ?_
  refine mg_arr C 52 (by decide) (by decide) rfl mL_row rfl dX12_edits_106 ?_
  refine mg_iload C 6 rfl dX12_edits_109 ?_
  refine mg_iconst C (x := nI 1) rfl dX12_edits_111 ?_
  refine mg_isub C dX12_edits_112 ?_
  obtain ⟨hc_113, h⟩ := h
  refine mg_ialoadR C (n := 14) 52 (by decide) (by decide) rfl rfl hc_113 dX12_edits_113 ?_
  refine mg_aload_n C (i := 0) rfl 1 rfl dX12_edits_114 ?_
  refine mg_lload_n C (i := 1) rfl 2 rfl dX12_edits_115 ?_
  refine mg_iload C 6 rfl dX12_edits_116 ?_
  refine mg_iconst C (x := nI 1) rfl dX12_edits_118 ?_
  refine mg_isub C dX12_edits_119 ?_
  refine mg_calliW C (s_at l x1 ((x7 - ((nI 1)))) v f g h) mCal_at rfl ⟨by decide, by decide⟩ rfl (Nat.le_of_ble_eq_true rfl) dX12_edits_120 (fun r_9 v_9 f_9 g_9 h => ?_)
  refine mg_aload_n C (i := 0) rfl 1 rfl dX12_edits_123 ?_
  refine mg_lload_n C (i := 3) rfl 3 rfl dX12_edits_124 ?_
  refine mg_iload C 5 rfl dX12_edits_125 ?_
  refine mg_iconst C (x := nI 1) rfl dX12_edits_127 ?_
  refine mg_isub C dX12_edits_128 ?_
  refine mg_calliW C (s_at l x3 ((x6 - ((nI 1)))) v_9 f_9 g_9 h) mCal_at rfl ⟨by decide, by decide⟩ rfl (Nat.le_of_ble_eq_true rfl) dX12_edits_129 (fun r_10 v_10 f_10 g_10 h => ?_)
  refine mg_icmp_ne C 139 (by decide) dX12_edits_132 (fun c_ => ?_) (fun c_ => ?_)
  · have h := h.1 c_
    refine mg_iconst C (x := nI 1) rfl dX12_edits_139 ?_
    exact mg_sub [1, 2, 3, 4, 5, 6, 0] rfl (sb_edits_140 C hR35 hR48 x1 x3 x5 x6 x7 t0 ((nI 1)) ((f 52 ((x7 - ((nI 1)))).toNatClampNeg)) v_10 f_10 g_10 h)
  · have h := h.2 c_
    refine mg_iconst C (x := nI 0) rfl dX12_edits_135 ?_
    refine mg_goto C 140 (by decide) dX12_edits_136 ?_
    exact mg_sub [1, 2, 3, 4, 5, 6, 0] rfl (sb_edits_140 C hR35 hR48 x1 x3 x5 x6 x7 t0 ((nI 0)) ((f 52 ((x7 - ((nI 1)))).toNatClampNeg)) v_10 f_10 g_10 h)
set_option maxRecDepth 20000 in
theorem sb_edits_48 (C : mC p s m args meth c cX12_edits 10 (some .int) A D cI cJ cZ) {post : Int32 → mS → Prop} {R35 : Int64 → Int64 → Int32 → Int32 → (Nat → Int32) → (Nat → Nat → Int32) → (Nat → Nat → Int64) → Prop} {R48 : Int64 → Int64 → Int32 → Int32 → Int32 → (Nat → Int32) → (Nat → Nat → Int32) → (Nat → Nat → Int64) → Prop} (hR35 : ∀ (x1 : Int64) (x3 : Int64) (x5 : Int32) (x6 : Int32) (v : Nat → Int32) (f : Nat → Nat → Int32) (g : Nat → Nat → Int64), R35 x1 x3 x5 x6 v f g → mG p l e (mRm 2 46) s m args below meth c A D cI cJ cZ a 10 (MQ below (va_Qi post (mB D cI cJ cZ a) A) args s 0 0 A) 35 [(0, .ref (a 0)), (1, .long x1), (3, .long x3), (5, .int x5), (6, .int x6)] [] v f g) (hR48 : ∀ (x1 : Int64) (x3 : Int64) (x5 : Int32) (x6 : Int32) (x7 : Int32) (v : Nat → Int32) (f : Nat → Nat → Int32) (g : Nat → Nat → Int64), R48 x1 x3 x5 x6 x7 v f g → mG p l e (mRm 2 46) s m args below meth c A D cI cJ cZ a 10 (MQ below (va_Qi post (mB D cI cJ cZ a) A) args s 0 0 A) 48 [(0, .ref (a 0)), (1, .long x1), (3, .long x3), (5, .int x5), (6, .int x6), (7, .int x7)] [] v f g) (x1 : Int64) (x3 : Int64) (x5 : Int32) (x6 : Int32) (x7 : Int32) (v : Nat → Int32) (f : Nat → Nat → Int32) (g : Nat → Nat → Int64) (h : r_edits_48 (fun r v f g => post r (v, f, g)) R35 R48 x1 x3 x5 x6 x7 v f g) : mG p l e (mRm 2 46) s m args below meth c A D cI cJ cZ a 10 (MQ below (va_Qi post (mB D cI cJ cZ a) A) args s 0 0 A) 48 [(0, .ref (a 0)), (1, .long x1), (3, .long x3), (5, .int x5), (6, .int x6), (7, .int x7)] [] v f g := by
  unfold r_edits_48 at h
  refine mg_iload C 5 rfl dX12_edits_48 ?_
  refine mg_iload C 3 rfl dX12_edits_50 ?_
  refine mg_icmp_gt C 174 (by decide) dX12_edits_52 (fun c_ => ?_) (fun c_ => ?_)
  · have h := h.1 c_
    refine mg_iconst C (x := nI 0) rfl dX12_edits_174 ?_
    refine mg_istore C (lv' := [(7, .int ((nI 0))), (0, .ref (a 0)), (1, .long x1), (3, .long x3), (5, .int x5), (6, .int x6)]) (Nat.le_of_ble_eq_true rfl) rfl dX12_edits_175 ?_
    exact mg_sub [1, 2, 3, 4, 5, 0] rfl (sl_edits_177 C hR35 x1 x3 x5 x6 (((nI 0))) v f g h)
  · have h := h.2 c_
    refine mg_aload_n C (i := 0) rfl 0 rfl dX12_edits_55 ?_
    refine mg_arr C 52 (by decide) (by decide) rfl mL_row rfl dX12_edits_56 ?_
    refine mg_iload C 5 rfl dX12_edits_59 ?_
    obtain ⟨hc_61, h⟩ := h
    refine mg_ialoadR C (n := 14) 52 (by decide) (by decide) rfl rfl hc_61 dX12_edits_61 ?_
    refine mg_iconst C (x := nI 1) rfl dX12_edits_62 ?_
    refine mg_iadd C dX12_edits_63 ?_
    refine mg_nmI (fun x8_6 e_x8_6 => ?_)
    have h := h x8_6 e_x8_6
    refine mg_istore C (lv' := [(8, .int x8_6), (0, .ref (a 0)), (1, .long x1), (3, .long x3), (5, .int x5), (6, .int x6), (7, .int x7)]) (Nat.le_of_ble_eq_true rfl) rfl dX12_edits_64 ?_
    refine mg_iload C 6 rfl dX12_edits_66 ?_
    refine mg_if_le C 159 (by decide) dX12_edits_68 (fun c_ => ?_) (fun c_ => ?_)
    · have h := h.1 c_
      exact mg_sub [1, 2, 3, 4, 5, 6, 0] rfl (sb_edits_159 C hR35 hR48 x1 x3 x5 x6 x7 x8_6 v f g h)
    · have h := h.2 c_
      refine mg_aload_n C (i := 0) rfl 1 rfl dX12_edits_71 ?_
      refine mg_arr C 53 (by decide) (by decide) rfl mL_next rfl dX12_edits_72 ?_
      refine mg_iload C 6 rfl dX12_edits_75 ?_
      refine mg_iconst C (x := nI 1) rfl dX12_edits_77 ?_
      refine mg_isub C dX12_edits_78 ?_
      obtain ⟨hc_79, h⟩ := h
      refine mg_ialoadR C (n := 14) 53 (by decide) (by decide) rfl rfl hc_79 dX12_edits_79 ?_
      refine mg_iconst C (x := nI 1) rfl dX12_edits_80 ?_
      refine mg_iadd C dX12_edits_81 ?_
      refine mg_iload C 0 rfl dX12_edits_82 ?_
      refine mg_icmp_ge C 101 (by decide) dX12_edits_84 (fun c_ => ?_) (fun c_ => ?_)
      · have h := h.1 c_
        refine mg_iload C 0 rfl dX12_edits_101 ?_
        exact mg_sub [1, 2, 3, 4, 5, 6] rfl (sb_edits_103 C hR35 hR48 x1 x3 x5 x6 x7 x8_6 v f g h)
      · have h := h.2 c_
        refine mg_aload_n C (i := 0) rfl 1 rfl dX12_edits_87 ?_
        refine mg_arr C 53 (by decide) (by decide) rfl mL_next rfl dX12_edits_88 ?_
        refine mg_iload C 6 rfl dX12_edits_91 ?_
        refine mg_iconst C (x := nI 1) rfl dX12_edits_93 ?_
        refine mg_isub C dX12_edits_94 ?_
        obtain ⟨hc_95, h⟩ := h
        refine mg_ialoadR C (n := 14) 53 (by decide) (by decide) rfl rfl hc_95 dX12_edits_95 ?_
        refine mg_iconst C (x := nI 1) rfl dX12_edits_96 ?_
        refine mg_iadd C dX12_edits_97 ?_
        refine mg_goto C 103 (by decide) dX12_edits_98 ?_
        exact mg_sub [1, 2, 3, 4, 5, 6] rfl (sb_edits_103 C hR35 hR48 x1 x3 x5 x6 x7 ((((f 53 ((x7 - ((nI 1)))).toNatClampNeg)) + ((nI 1)))) v f g h)
set_option maxRecDepth 20000 in
theorem sl_edits_48 (C : mC p s m args meth c cX12_edits 10 (some .int) A D cI cJ cZ) {post : Int32 → mS → Prop} {R35 : Int64 → Int64 → Int32 → Int32 → (Nat → Int32) → (Nat → Nat → Int32) → (Nat → Nat → Int64) → Prop} (hR35 : ∀ (x1 : Int64) (x3 : Int64) (x5 : Int32) (x6 : Int32) (v : Nat → Int32) (f : Nat → Nat → Int32) (g : Nat → Nat → Int64), R35 x1 x3 x5 x6 v f g → mG p l e (mRm 2 46) s m args below meth c A D cI cJ cZ a 10 (MQ below (va_Qi post (mB D cI cJ cZ a) A) args s 0 0 A) 35 [(0, .ref (a 0)), (1, .long x1), (3, .long x3), (5, .int x5), (6, .int x6)] [] v f g) (x1 : Int64) (x3 : Int64) (x5 : Int32) (x6 : Int32) (x7 : Int32) (v : Nat → Int32) (f : Nat → Nat → Int32) (g : Nat → Nat → Int64) (h : r_edits_48L (fun r v f g => post r (v, f, g)) R35 x1 x3 x5 x6 x7 v f g) : mG p l e (mRm 2 46) s m args below meth c A D cI cJ cZ a 10 (MQ below (va_Qi post (mB D cI cJ cZ a) A) args s 0 0 A) 48 [(0, .ref (a 0)), (1, .long x1), (3, .long x3), (5, .int x5), (6, .int x6), (7, .int x7)] [] v f g :=
  h (fun y => mG p l e (mRm 2 46) s m args below meth c A D cI cJ cZ a 10 (MQ below (va_Qi post (mB D cI cJ cZ a) A) args s 0 0 A) 48 [(0, .ref (a 0)), (1, .long (y.1)), (3, .long (y.2.1)), (5, .int (y.2.2.1)), (6, .int (y.2.2.2.1)), (7, .int (y.2.2.2.2.1))] [] (y.2.2.2.2.2.1) (y.2.2.2.2.2.2.1) (y.2.2.2.2.2.2.2)) (fun y hy => sb_edits_48 C hR35 (fun b0 b1 b2 b3 b4 v f g z => z) (y.1) (y.2.1) (y.2.2.1) (y.2.2.2.1) (y.2.2.2.2.1) (y.2.2.2.2.2.1) (y.2.2.2.2.2.2.1) (y.2.2.2.2.2.2.2) hy)
set_option maxRecDepth 20000 in
theorem sb_edits_35 (C : mC p s m args meth c cX12_edits 10 (some .int) A D cI cJ cZ) {post : Int32 → mS → Prop} {R35 : Int64 → Int64 → Int32 → Int32 → (Nat → Int32) → (Nat → Nat → Int32) → (Nat → Nat → Int64) → Prop} (hR35 : ∀ (x1 : Int64) (x3 : Int64) (x5 : Int32) (x6 : Int32) (v : Nat → Int32) (f : Nat → Nat → Int32) (g : Nat → Nat → Int64), R35 x1 x3 x5 x6 v f g → mG p l e (mRm 2 46) s m args below meth c A D cI cJ cZ a 10 (MQ below (va_Qi post (mB D cI cJ cZ a) A) args s 0 0 A) 35 [(0, .ref (a 0)), (1, .long x1), (3, .long x3), (5, .int x5), (6, .int x6)] [] v f g) (x1 : Int64) (x3 : Int64) (x5 : Int32) (x6 : Int32) (v : Nat → Int32) (f : Nat → Nat → Int32) (g : Nat → Nat → Int64) (h : r_edits_35 (fun r v f g => post r (v, f, g)) R35 x1 x3 x5 x6 v f g) : mG p l e (mRm 2 46) s m args below meth c A D cI cJ cZ a 10 (MQ below (va_Qi post (mB D cI cJ cZ a) A) args s 0 0 A) 35 [(0, .ref (a 0)), (1, .long x1), (3, .long x3), (5, .int x5), (6, .int x6)] [] v f g := by
  unfold r_edits_35 at h
  refine mg_iload C 4 rfl dX12_edits_35 ?_
  refine mg_aload_n C (i := 0) rfl 0 rfl dX12_edits_37 ?_
  refine mg_lload_n C (i := 3) rfl 2 rfl dX12_edits_38 ?_
  refine mg_calliW C (s_length l x3 v f g h) mCal_length rfl ⟨by decide, by decide⟩ rfl (Nat.le_of_ble_eq_true rfl) dX12_edits_39 (fun r_2 v_2 f_2 g_2 h => ?_)
  refine mg_icmp_gt C 210 (by decide) dX12_edits_42 (fun c_ => ?_) (fun c_ => ?_)
  · have h := h.1 c_
    refine mg_aload_n C (i := 0) rfl 0 rfl dX12_edits_210 ?_
    refine mg_arr C 52 (by decide) (by decide) rfl mL_row rfl dX12_edits_211 ?_
    refine mg_iload C 3 rfl dX12_edits_214 ?_
    obtain ⟨hc_216, h⟩ := h
    refine mg_ialoadR C (n := 14) 52 (by decide) (by decide) rfl rfl hc_216 dX12_edits_216 ?_
    exact mg_iret C h dX12_edits_217
  · have h := h.2 c_
    refine mg_iconst C (x := nI 0) rfl dX12_edits_45 ?_
    refine mg_istore C (lv' := [(7, .int ((nI 0))), (0, .ref (a 0)), (1, .long x1), (3, .long x3), (5, .int x5), (6, .int x6)]) (Nat.le_of_ble_eq_true rfl) rfl dX12_edits_46 ?_
    exact mg_sub [1, 2, 3, 4, 5, 0] rfl (sl_edits_48 C hR35 x1 x3 x5 x6 (((nI 0))) v_2 f_2 g_2 h)
set_option maxRecDepth 20000 in
theorem sl_edits_35 (C : mC p s m args meth c cX12_edits 10 (some .int) A D cI cJ cZ) {post : Int32 → mS → Prop}   (x1 : Int64) (x3 : Int64) (x5 : Int32) (x6 : Int32) (v : Nat → Int32) (f : Nat → Nat → Int32) (g : Nat → Nat → Int64) (h : r_edits_35L (fun r v f g => post r (v, f, g))  x1 x3 x5 x6 v f g) : mG p l e (mRm 2 46) s m args below meth c A D cI cJ cZ a 10 (MQ below (va_Qi post (mB D cI cJ cZ a) A) args s 0 0 A) 35 [(0, .ref (a 0)), (1, .long x1), (3, .long x3), (5, .int x5), (6, .int x6)] [] v f g :=
  h (fun y => mG p l e (mRm 2 46) s m args below meth c A D cI cJ cZ a 10 (MQ below (va_Qi post (mB D cI cJ cZ a) A) args s 0 0 A) 35 [(0, .ref (a 0)), (1, .long (y.1)), (3, .long (y.2.1)), (5, .int (y.2.2.1)), (6, .int (y.2.2.2.1))] [] (y.2.2.2.2.1) (y.2.2.2.2.2.1) (y.2.2.2.2.2.2)) (fun y hy => sb_edits_35 C  (fun b0 b1 b2 b3 v f g z => z) (y.1) (y.2.1) (y.2.2.1) (y.2.2.2.1) (y.2.2.2.2.1) (y.2.2.2.2.2.1) (y.2.2.2.2.2.2) hy)
set_option maxRecDepth 20000 in
theorem sb_edits_10 (C : mC p s m args meth c cX12_edits 10 (some .int) A D cI cJ cZ) {post : Int32 → mS → Prop} {R10 : Int64 → Int64 → Int32 → Int32 → (Nat → Int32) → (Nat → Nat → Int32) → (Nat → Nat → Int64) → Prop} (hR10 : ∀ (x1 : Int64) (x3 : Int64) (x5 : Int32) (x6 : Int32) (v : Nat → Int32) (f : Nat → Nat → Int32) (g : Nat → Nat → Int64), R10 x1 x3 x5 x6 v f g → mG p l e (mRm 2 46) s m args below meth c A D cI cJ cZ a 10 (MQ below (va_Qi post (mB D cI cJ cZ a) A) args s 0 0 A) 10 [(0, .ref (a 0)), (1, .long x1), (3, .long x3), (5, .int x5), (6, .int x6)] [] v f g) (x1 : Int64) (x3 : Int64) (x5 : Int32) (x6 : Int32) (v : Nat → Int32) (f : Nat → Nat → Int32) (g : Nat → Nat → Int64) (h : r_edits_10 (fun r v f g => post r (v, f, g)) R10 x1 x3 x5 x6 v f g) : mG p l e (mRm 2 46) s m args below meth c A D cI cJ cZ a 10 (MQ below (va_Qi post (mB D cI cJ cZ a) A) args s 0 0 A) 10 [(0, .ref (a 0)), (1, .long x1), (3, .long x3), (5, .int x5), (6, .int x6)] [] v f g := by
  unfold r_edits_10 at h
  refine mg_iload C 4 rfl dX12_edits_10 ?_
  refine mg_iload C 3 rfl dX12_edits_12 ?_
  refine mg_icmp_gt C 32 (by decide) dX12_edits_14 (fun c_ => ?_) (fun c_ => ?_)
  · have h := h.1 c_
    refine mg_iconst C (x := nI 1) rfl dX12_edits_32 ?_
    refine mg_istore C (lv' := [(6, .int ((nI 1))), (0, .ref (a 0)), (1, .long x1), (3, .long x3), (5, .int x5)]) (Nat.le_of_ble_eq_true rfl) rfl dX12_edits_33 ?_
    exact mg_sub [1, 2, 3, 4, 0] rfl (sl_edits_35 C  x1 x3 x5 (((nI 1))) v f g h)
  · have h := h.2 c_
    refine mg_aload_n C (i := 0) rfl 0 rfl dX12_edits_17 ?_
    refine mg_arr C 52 (by decide) (by decide) rfl mL_row rfl dX12_edits_18 ?_
    refine mg_iload C 4 rfl dX12_edits_21 ?_
    refine mg_iload C 4 rfl dX12_edits_23 ?_
    obtain ⟨hc_25, h⟩ := h
    refine mg_iastoreR C (n := 14) 52 (by decide) (by decide) rfl rfl hc_25 dX12_edits_25 ?_
    refine mg_nmF (fun f12 e_f12 => ?_)
    have h := h f12 e_f12
    obtain ⟨x6_13, e_x6_13⟩ : ∃ z : Int32, z = x6 + nI 1 := ⟨_, rfl⟩
    have h := h x6_13 e_x6_13
    refine mg_iinc C (lv' := [(6, .int x6_13), (0, .ref (a 0)), (1, .long x1), (3, .long x3), (5, .int x5)]) 4 rfl (by rw [e_x6_13]; rfl) (Nat.le_of_ble_eq_true rfl) rfl dX12_edits_26 ?_
    refine mg_goto C 10 (by decide) dX12_edits_29 ?_
    exact mg_sub [1, 2, 3, 4, 0] rfl (hR10 x1 x3 x5 x6_13 v f12 g h)
set_option maxRecDepth 20000 in
theorem sl_edits_10 (C : mC p s m args meth c cX12_edits 10 (some .int) A D cI cJ cZ) {post : Int32 → mS → Prop}   (x1 : Int64) (x3 : Int64) (x5 : Int32) (x6 : Int32) (v : Nat → Int32) (f : Nat → Nat → Int32) (g : Nat → Nat → Int64) (h : r_edits_10L (fun r v f g => post r (v, f, g))  x1 x3 x5 x6 v f g) : mG p l e (mRm 2 46) s m args below meth c A D cI cJ cZ a 10 (MQ below (va_Qi post (mB D cI cJ cZ a) A) args s 0 0 A) 10 [(0, .ref (a 0)), (1, .long x1), (3, .long x3), (5, .int x5), (6, .int x6)] [] v f g :=
  h (fun y => mG p l e (mRm 2 46) s m args below meth c A D cI cJ cZ a 10 (MQ below (va_Qi post (mB D cI cJ cZ a) A) args s 0 0 A) 10 [(0, .ref (a 0)), (1, .long (y.1)), (3, .long (y.2.1)), (5, .int (y.2.2.1)), (6, .int (y.2.2.2.1))] [] (y.2.2.2.2.1) (y.2.2.2.2.2.1) (y.2.2.2.2.2.2)) (fun y hy => sb_edits_10 C  (fun b0 b1 b2 b3 v f g z => z) (y.1) (y.2.1) (y.2.2.1) (y.2.2.2.1) (y.2.2.2.2.1) (y.2.2.2.2.2.1) (y.2.2.2.2.2.2) hy)
end S_edits
set_option maxHeartbeats 1000000 in
set_option maxRecDepth 20000 in
theorem s_edits (l : Launch) (x1 : Int64) (x3 : Int64) (v : Nat → Int32) (f : Nat → Nat → Int32) (g : Nat → Nat → Int64) {P : Int32 → (Nat → Int32) → (Nat → Nat → Int32) → (Nat → Nat → Int64) → Prop} (h : r_edits P x1 x3 v f g) : mMi l yX12_edits cX12_edits 10 (some .int) 2 46 false [.long x1, .long x3] v f g (fun r w => P r w.1 w.2.1 w.2.2) := by
  intro D cI cJ cZ a sz
  refine mg_body (by decide +kernel) rfl (Nat.le_of_ble_eq_true rfl) ?_
  intro p e s m args below meth c hsz C
  clear hsz
  generalize va_A (mW cI cJ cZ a v f g) sz = A at C ⊢
  refine mg_lv (lv' := [(0, .ref (a 0)), (1, .long x1), (3, .long x3)]) rfl ?_
  unfold r_edits at h
  refine mg_aload_n C (i := 0) rfl 0 rfl dX12_edits_0 ?_
  refine mg_lload_n C (i := 1) rfl 1 rfl dX12_edits_1 ?_
  refine mg_calliW C (s_length l x1 v f g h) mCal_length rfl ⟨by decide, by decide⟩ rfl (Nat.le_of_ble_eq_true rfl) dX12_edits_2 (fun r_1 v_1 f_1 g_1 h => ?_)
  refine mg_istore C (lv' := [(5, .int r_1), (0, .ref (a 0)), (1, .long x1), (3, .long x3)]) (Nat.le_of_ble_eq_true rfl) rfl dX12_edits_5 ?_
  refine mg_iconst C (x := nI 0) rfl dX12_edits_7 ?_
  refine mg_istore C (lv' := [(6, .int ((nI 0))), (5, .int r_1), (0, .ref (a 0)), (1, .long x1), (3, .long x3)]) (Nat.le_of_ble_eq_true rfl) rfl dX12_edits_8 ?_
  exact mg_sub [2, 3, 4, 1, 0] rfl (sl_edits_10 C  x1 x3 r_1 (((nI 0))) v_1 f_1 g_1 h)
def r_fitsWord (Q : Int32 → (Nat → Int32) → (Nat → Nat → Int32) → (Nat → Nat → Int64) → Prop) (x1 : Int64) (x3 : Int32) (v : Nat → Int32) (f : Nat → Nat → Int32) (g : Nat → Nat → Int64) : Prop :=
vp_in ((((nI 6)) * x3)) 11808 ∧ (∀ x4_1 : Int64, x4_1 = g 45 ((((nI 6)) * x3)).toNatClampNeg → vp_in x3 1968 ∧ (((¬ ((f 40 (x3).toNatClampNeg)) = ((nI 3)) →
  vp_in x3 1968 ∧ (((¬ ((f 40 (x3).toNatClampNeg)) = ((nI 4)) →
    r_edits (fun r_2 v_2 f_2 g_2 => 
    vp_in x3 1968 ∧ (((((f_2 42 (x3).toNatClampNeg)) < r_2 →
      Q ((bI false)) v_2 f_2 g_2) ∧
     (¬ ((f_2 42 (x3).toNatClampNeg)) < r_2 →
      Q ((bI true)) v_2 f_2 g_2)))) x1 x4_1 v f g) ∧
   (((f 40 (x3).toNatClampNeg)) = ((nI 4)) →
    r_isLike (fun r_3 v_3 f_3 g_3 => 
    isZ r_3 ∧ (Q r_3 v_3 f_3 g_3)) x1 x3 v f g)))) ∧
 (((f 40 (x3).toNatClampNeg)) = ((nI 3)) →
  r_begins (fun r_4 v_4 f_4 g_4 => 
  isZ r_4 ∧ (Q r_4 v_4 f_4 g_4)) x1 x4_1 v f g))))
set_option maxHeartbeats 1000000 in
set_option maxRecDepth 20000 in
theorem s_fitsWord (l : Launch) (x1 : Int64) (x3 : Int32) (v : Nat → Int32) (f : Nat → Nat → Int32) (g : Nat → Nat → Int64) {P : Int32 → (Nat → Int32) → (Nat → Nat → Int32) → (Nat → Nat → Int64) → Prop} (h : r_fitsWord P x1 x3 v f g) : mMi l yX12_fitsWord cX12_fitsWord 6 (some .boolean) 3 75 false [.long x1, .int x3] v f g (fun r w => P r w.1 w.2.1 w.2.2) := by
  intro D cI cJ cZ a sz
  refine mg_body (by decide +kernel) rfl (Nat.le_of_ble_eq_true rfl) ?_
  intro p e s m args below meth c hsz C
  clear hsz
  generalize va_A (mW cI cJ cZ a v f g) sz = A at C ⊢
  refine mg_lv (lv' := [(0, .ref (a 0)), (1, .long x1), (3, .int x3)]) rfl ?_
  unfold r_fitsWord at h
  refine mg_aload_n C (i := 0) rfl 0 rfl dX12_fitsWord_0 ?_
  refine mg_arr C 45 (by decide) (by decide) rfl mL_leafTokens rfl dX12_fitsWord_1 ?_
  refine mg_bipush C (x := nI 6) rfl dX12_fitsWord_4 ?_
  refine mg_iload_n C (i := 3) rfl 2 rfl dX12_fitsWord_6 ?_
  refine mg_imul C dX12_fitsWord_7 ?_
  obtain ⟨hc_8, h⟩ := h
  refine mg_laloadR C (n := 11808) 45 (by decide) (by decide) rfl rfl hc_8 dX12_fitsWord_8 ?_
  refine mg_nmL (fun x4_1 e_x4_1 => ?_)
  have h := h x4_1 e_x4_1
  refine mg_lstore C (lv' := [(4, .long x4_1), (0, .ref (a 0)), (1, .long x1), (3, .int x3)]) (Nat.le_of_ble_eq_true rfl) rfl dX12_fitsWord_9 ?_
  refine mg_aload_n C (i := 0) rfl 1 rfl dX12_fitsWord_11 ?_
  refine mg_arr C 40 (by decide) (by decide) rfl mL_kinds rfl dX12_fitsWord_12 ?_
  refine mg_iload_n C (i := 3) rfl 3 rfl dX12_fitsWord_15 ?_
  obtain ⟨hc_16, h⟩ := h
  refine mg_ialoadR C (n := 1968) 40 (by decide) (by decide) rfl rfl hc_16 dX12_fitsWord_16 ?_
  refine mg_iconst C (x := nI 3) rfl dX12_fitsWord_17 ?_
  refine mg_icmp_ne C 31 (by decide) dX12_fitsWord_18 (fun c_ => ?_) (fun c_ => ?_)
  · have h := h.1 c_
    refine mg_aload_n C (i := 0) rfl 1 rfl dX12_fitsWord_31 ?_
    refine mg_arr C 40 (by decide) (by decide) rfl mL_kinds rfl dX12_fitsWord_32 ?_
    refine mg_iload_n C (i := 3) rfl 3 rfl dX12_fitsWord_35 ?_
    obtain ⟨hc_36, h⟩ := h
    refine mg_ialoadR C (n := 1968) 40 (by decide) (by decide) rfl rfl hc_36 dX12_fitsWord_36 ?_
    refine mg_iconst C (x := nI 4) rfl dX12_fitsWord_37 ?_
    refine mg_icmp_ne C 50 (by decide) dX12_fitsWord_38 (fun c_ => ?_) (fun c_ => ?_)
    · have h := h.1 c_
      refine mg_aload_n C (i := 0) rfl 1 rfl dX12_fitsWord_50 ?_
      refine mg_lload_n C (i := 1) rfl 2 rfl dX12_fitsWord_51 ?_
      refine mg_lload C 0 rfl dX12_fitsWord_52 ?_
      refine mg_calliW C (s_edits l x1 x4_1 v f g h) mCal_edits rfl ⟨by decide, by decide⟩ rfl (Nat.le_of_ble_eq_true rfl) dX12_fitsWord_54 (fun r_2 v_2 f_2 g_2 h => ?_)
      refine mg_aload_n C (i := 0) rfl 1 rfl dX12_fitsWord_57 ?_
      refine mg_arr C 42 (by decide) (by decide) rfl mL_amounts rfl dX12_fitsWord_58 ?_
      refine mg_iload_n C (i := 3) rfl 3 rfl dX12_fitsWord_61 ?_
      obtain ⟨hc_62, h⟩ := h
      refine mg_ialoadR C (n := 1968) 42 (by decide) (by decide) rfl rfl hc_62 dX12_fitsWord_62 ?_
      refine mg_icmp_gt C 70 (by decide) dX12_fitsWord_63 (fun c_ => ?_) (fun c_ => ?_)
      · have h := h.1 c_
        refine mg_iconst C (x := nI 0) rfl dX12_fitsWord_70 ?_
        refine mg_cast (bI false) rfl ?_
        exact mg_zret C (bI_nar _) h dX12_fitsWord_71
      · have h := h.2 c_
        refine mg_iconst C (x := nI 1) rfl dX12_fitsWord_66 ?_
        refine mg_goto C 71 (by decide) dX12_fitsWord_67 ?_
        refine mg_cast (bI true) rfl ?_
        exact mg_zret C (bI_nar _) h dX12_fitsWord_71
    · have h := h.2 c_
      refine mg_aload_n C (i := 0) rfl 1 rfl dX12_fitsWord_41 ?_
      refine mg_lload_n C (i := 1) rfl 2 rfl dX12_fitsWord_42 ?_
      refine mg_iload_n C (i := 3) rfl 3 rfl dX12_fitsWord_43 ?_
      refine mg_calliW C (s_isLike l x1 x3 v f g h) mCal_isLike rfl ⟨by decide, by decide⟩ rfl (Nat.le_of_ble_eq_true rfl) dX12_fitsWord_44 (fun r_3 v_3 f_3 g_3 h => ?_)
      refine mg_goto C 71 (by decide) dX12_fitsWord_47 ?_
      obtain ⟨hc_71, h⟩ := h
      exact mg_zret C (isZ_nar hc_71) h dX12_fitsWord_71
  · have h := h.2 c_
    refine mg_aload_n C (i := 0) rfl 1 rfl dX12_fitsWord_21 ?_
    refine mg_lload_n C (i := 1) rfl 2 rfl dX12_fitsWord_22 ?_
    refine mg_lload C 0 rfl dX12_fitsWord_23 ?_
    refine mg_calliW C (s_begins l x1 x4_1 v f g h) mCal_begins rfl ⟨by decide, by decide⟩ rfl (Nat.le_of_ble_eq_true rfl) dX12_fitsWord_25 (fun r_4 v_4 f_4 g_4 h => ?_)
    refine mg_goto C 71 (by decide) dX12_fitsWord_28 ?_
    obtain ⟨hc_71, h⟩ := h
    exact mg_zret C (isZ_nar hc_71) h dX12_fitsWord_71
def r_fitsAt_90 (Q : Int32 → (Nat → Int32) → (Nat → Nat → Int32) → (Nat → Nat → Int64) → Prop) (R42 : Int32 → Int64 → Int32 → Int32 → (Nat → Int32) → (Nat → Nat → Int32) → (Nat → Nat → Int64) → Prop) (x4 : Int32) (x5 : Int64) (x8 : Int32) (t0 : Int32) (v : Nat → Int32) (f : Nat → Nat → Int32) (g : Nat → Nat → Int64) : Prop :=
∀ x8_4 : Int32, x8_4 = x8 + nI 1 → R42 x4 x5 t0 x8_4 v f g
def r_fitsAt_89 (Q : Int32 → (Nat → Int32) → (Nat → Nat → Int32) → (Nat → Nat → Int64) → Prop) (R42 : Int32 → Int64 → Int32 → Int32 → (Nat → Int32) → (Nat → Nat → Int32) → (Nat → Nat → Int64) → Prop) (x4 : Int32) (x5 : Int64) (x8 : Int32) (v : Nat → Int32) (f : Nat → Nat → Int32) (g : Nat → Nat → Int64) : Prop :=
r_fitsAt_90 Q R42 x4 x5 x8 ((nI 0)) v f g
def r_fitsAt_42 (Q : Int32 → (Nat → Int32) → (Nat → Nat → Int32) → (Nat → Nat → Int64) → Prop) (R42 : Int32 → Int64 → Int32 → Int32 → (Nat → Int32) → (Nat → Nat → Int32) → (Nat → Nat → Int64) → Prop) (x4 : Int32) (x5 : Int64) (x7 : Int32) (x8 : Int32) (v : Nat → Int32) (f : Nat → Nat → Int32) (g : Nat → Nat → Int64) : Prop :=
((((v 9)) ≤ x8 →
  isZ x7 ∧ (Q x7 v f g)) ∧
 (¬ ((v 9)) ≤ x8 →
  ((¬ x7 = 0 →
    r_fitsAt_90 Q R42 x4 x5 x8 ((nI 1)) v f g) ∧
   (x7 = 0 →
    vp_in x8 10 ∧ (((¬ (g 5 (x8).toNatClampNeg) = x5 →
      r_fitsAt_89 Q R42 x4 x5 x8 v f g) ∧
     ((g 5 (x8).toNatClampNeg) = x5 →
      vp_in x8 10 ∧ (r_fitsWord (fun r_5 v_5 f_5 g_5 => 
      ((r_5 = 0 →
        r_fitsAt_89 Q R42 x4 x5 x8 v_5 f_5 g_5) ∧
       (¬ r_5 = 0 →
        r_fitsAt_90 Q R42 x4 x5 x8 ((nI 1)) v_5 f_5 g_5))) (g 6 (x8).toNatClampNeg) x4 v f g))))))))
def r_fitsAt_42L (Q : Int32 → (Nat → Int32) → (Nat → Nat → Int32) → (Nat → Nat → Int64) → Prop)  (x4 : Int32) (x5 : Int64) (x7 : Int32) (x8 : Int32) (v : Nat → Int32) (f : Nat → Nat → Int32) (g : Nat → Nat → Int64) : Prop :=
  lfp (X := Int32 × Int64 × Int32 × Int32 × (Nat → Int32) × (Nat → Nat → Int32) × (Nat → Nat → Int64)) (fun P y => r_fitsAt_42 Q  (fun b0 b1 b2 b3 v f g => P (b0, b1, b2, b3, v, f, g)) y.1 y.2.1 y.2.2.1 y.2.2.2.1 y.2.2.2.2.1 y.2.2.2.2.2.1 y.2.2.2.2.2.2) (x4, x5, x7, x8, v, f, g)
def r_fitsAt (Q : Int32 → (Nat → Int32) → (Nat → Nat → Int32) → (Nat → Nat → Int64) → Prop) (x1 : Int32) (x2 : Int32) (x3 : Int32) (x4 : Int32) (v : Nat → Int32) (f : Nat → Nat → Int32) (g : Nat → Nat → Int64) : Prop :=
vp_in ((((((((nI 40)) * x1)) + ((((nI 20)) * x2)))) + x3)) 96960 ∧ (∀ x5_1 : Int64, x5_1 = g 17 ((((((((nI 40)) * x1)) + ((((nI 20)) * x2)))) + x3)).toNatClampNeg → r_isStop (fun r_2 v_2 f_2 g_2 => 
((r_2 = 0 →
  r_fitsWord (fun r_3 v_3 f_3 g_3 => 
  r_fitsAt_42L Q  x4 x5_1 r_3 (((nI 0))) v_3 f_3 g_3) x5_1 x4 v_2 f_2 g_2) ∧
 (¬ r_2 = 0 →
  Q ((bI false)) v_2 f_2 g_2))) x5_1 v f g)
section S_fitsAt
variable {p : Program} {l : Launch} {e : Env} {s : State} {m : MethodId} {args : Array Value} {below : List Frame} {meth : Method} {c : Code} {A : Nat → Prop} {D : va_G} {cI cJ cZ : ClassId} {a : Nat → Nat}
set_option maxRecDepth 20000 in
theorem sb_fitsAt_90 (C : mC p s m args meth c cX12_fitsAt 9 (some .boolean) A D cI cJ cZ) {post : Int32 → mS → Prop} {R42 : Int32 → Int64 → Int32 → Int32 → (Nat → Int32) → (Nat → Nat → Int32) → (Nat → Nat → Int64) → Prop} (hR42 : ∀ (x4 : Int32) (x5 : Int64) (x7 : Int32) (x8 : Int32) (v : Nat → Int32) (f : Nat → Nat → Int32) (g : Nat → Nat → Int64), R42 x4 x5 x7 x8 v f g → mG p l e (mRm 4 100) s m args below meth c A D cI cJ cZ a 9 (MQ below (va_Qi post (mB D cI cJ cZ a) A) args s 0 0 A) 42 [(0, .ref (a 0)), (4, .int x4), (5, .long x5), (7, .int x7), (8, .int x8)] [] v f g) (x4 : Int32) (x5 : Int64) (x8 : Int32) (t0 : Int32) (v : Nat → Int32) (f : Nat → Nat → Int32) (g : Nat → Nat → Int64) (h : r_fitsAt_90 (fun r v f g => post r (v, f, g)) R42 x4 x5 x8 t0 v f g) : mG p l e (mRm 4 100) s m args below meth c A D cI cJ cZ a 9 (MQ below (va_Qi post (mB D cI cJ cZ a) A) args s 0 0 A) 90 [(0, .ref (a 0)), (4, .int x4), (5, .long x5), (8, .int x8)] [.int t0] v f g := by
  unfold r_fitsAt_90 at h
  refine mg_istore C (lv' := [(7, .int t0), (0, .ref (a 0)), (4, .int x4), (5, .long x5), (8, .int x8)]) (Nat.le_of_ble_eq_true rfl) rfl dX12_fitsAt_90 ?_
  obtain ⟨x8_4, e_x8_4⟩ : ∃ z : Int32, z = x8 + nI 1 := ⟨_, rfl⟩
  have h := h x8_4 e_x8_4
  refine mg_iinc C (lv' := [(8, .int x8_4), (7, .int t0), (0, .ref (a 0)), (4, .int x4), (5, .long x5)]) 4 rfl (by rw [e_x8_4]; rfl) (Nat.le_of_ble_eq_true rfl) rfl dX12_fitsAt_92 ?_
  refine mg_goto C 42 (by decide) dX12_fitsAt_95 ?_
  exact mg_sub [2, 3, 4, 1, 0] rfl (hR42 x4 x5 t0 x8_4 v f g h)
set_option maxRecDepth 20000 in
theorem sb_fitsAt_89 (C : mC p s m args meth c cX12_fitsAt 9 (some .boolean) A D cI cJ cZ) {post : Int32 → mS → Prop} {R42 : Int32 → Int64 → Int32 → Int32 → (Nat → Int32) → (Nat → Nat → Int32) → (Nat → Nat → Int64) → Prop} (hR42 : ∀ (x4 : Int32) (x5 : Int64) (x7 : Int32) (x8 : Int32) (v : Nat → Int32) (f : Nat → Nat → Int32) (g : Nat → Nat → Int64), R42 x4 x5 x7 x8 v f g → mG p l e (mRm 4 100) s m args below meth c A D cI cJ cZ a 9 (MQ below (va_Qi post (mB D cI cJ cZ a) A) args s 0 0 A) 42 [(0, .ref (a 0)), (4, .int x4), (5, .long x5), (7, .int x7), (8, .int x8)] [] v f g) (x4 : Int32) (x5 : Int64) (x8 : Int32) (v : Nat → Int32) (f : Nat → Nat → Int32) (g : Nat → Nat → Int64) (h : r_fitsAt_89 (fun r v f g => post r (v, f, g)) R42 x4 x5 x8 v f g) : mG p l e (mRm 4 100) s m args below meth c A D cI cJ cZ a 9 (MQ below (va_Qi post (mB D cI cJ cZ a) A) args s 0 0 A) 89 [(0, .ref (a 0)), (4, .int x4), (5, .long x5), (8, .int x8)] [] v f g := by
  unfold r_fitsAt_89 at h
  refine mg_iconst C (x := nI 0) rfl dX12_fitsAt_89 ?_
  exact mg_sub [0, 1, 2, 3] rfl (sb_fitsAt_90 C hR42 x4 x5 x8 ((nI 0)) v f g h)
set_option maxRecDepth 20000 in
theorem sb_fitsAt_42 (C : mC p s m args meth c cX12_fitsAt 9 (some .boolean) A D cI cJ cZ) {post : Int32 → mS → Prop} {R42 : Int32 → Int64 → Int32 → Int32 → (Nat → Int32) → (Nat → Nat → Int32) → (Nat → Nat → Int64) → Prop} (hR42 : ∀ (x4 : Int32) (x5 : Int64) (x7 : Int32) (x8 : Int32) (v : Nat → Int32) (f : Nat → Nat → Int32) (g : Nat → Nat → Int64), R42 x4 x5 x7 x8 v f g → mG p l e (mRm 4 100) s m args below meth c A D cI cJ cZ a 9 (MQ below (va_Qi post (mB D cI cJ cZ a) A) args s 0 0 A) 42 [(0, .ref (a 0)), (4, .int x4), (5, .long x5), (7, .int x7), (8, .int x8)] [] v f g) (x4 : Int32) (x5 : Int64) (x7 : Int32) (x8 : Int32) (v : Nat → Int32) (f : Nat → Nat → Int32) (g : Nat → Nat → Int64) (h : r_fitsAt_42 (fun r v f g => post r (v, f, g)) R42 x4 x5 x7 x8 v f g) : mG p l e (mRm 4 100) s m args below meth c A D cI cJ cZ a 9 (MQ below (va_Qi post (mB D cI cJ cZ a) A) args s 0 0 A) 42 [(0, .ref (a 0)), (4, .int x4), (5, .long x5), (7, .int x7), (8, .int x8)] [] v f g := by
  unfold r_fitsAt_42 at h
  refine mg_iload C 4 rfl dX12_fitsAt_42 ?_
  refine mg_aload_n C (i := 0) rfl 0 rfl dX12_fitsAt_44 ?_
  refine mg_getI C (k := 9) (by decide) rfl mL_synonyms rfl dX12_fitsAt_45 ?_
  refine mg_icmp_ge C 98 (by decide) dX12_fitsAt_48 (fun c_ => ?_) (fun c_ => ?_)
  · have h := h.1 c_
    refine mg_iload C 3 rfl dX12_fitsAt_98 ?_
    obtain ⟨hc_100, h⟩ := h
    exact mg_zret C (isZ_nar hc_100) h dX12_fitsAt_100
  · have h := h.2 c_
    refine mg_iload C 3 rfl dX12_fitsAt_51 ?_
    refine mg_if_ne C 85 (by decide) dX12_fitsAt_53 (fun c_ => ?_) (fun c_ => ?_)
    · have h := h.1 c_
      refine mg_iconst C (x := nI 1) rfl dX12_fitsAt_85 ?_
      refine mg_goto C 90 (by decide) dX12_fitsAt_86 ?_
      exact mg_sub [0, 1, 2, 4] rfl (sb_fitsAt_90 C hR42 x4 x5 x8 ((nI 1)) v f g h)
    · have h := h.2 c_
      refine mg_aload_n C (i := 0) rfl 0 rfl dX12_fitsAt_56 ?_
      refine mg_arr C 5 (by decide) (by decide) rfl mL_firsts rfl dX12_fitsAt_57 ?_
      refine mg_iload C 4 rfl dX12_fitsAt_60 ?_
      obtain ⟨hc_62, h⟩ := h
      refine mg_laloadR C (n := 10) 5 (by decide) (by decide) rfl rfl hc_62 dX12_fitsAt_62 ?_
      refine mg_lload C 2 rfl dX12_fitsAt_63 ?_
      refine mg_lcmp C dX12_fitsAt_65 ?_
      refine mg_if_neL C 89 (by decide) dX12_fitsAt_66 (fun c_ => ?_) (fun c_ => ?_)
      · have h := h.1 c_
        exact mg_sub [0, 1, 2, 4] rfl (sb_fitsAt_89 C hR42 x4 x5 x8 v f g h)
      · have h := h.2 c_
        refine mg_aload_n C (i := 0) rfl 0 rfl dX12_fitsAt_69 ?_
        refine mg_aload_n C (i := 0) rfl 0 rfl dX12_fitsAt_70 ?_
        refine mg_arr C 6 (by decide) (by decide) rfl mL_seconds rfl dX12_fitsAt_71 ?_
        refine mg_iload C 4 rfl dX12_fitsAt_74 ?_
        obtain ⟨hc_76, h⟩ := h
        refine mg_laloadR C (n := 10) 6 (by decide) (by decide) rfl rfl hc_76 dX12_fitsAt_76 ?_
        refine mg_iload C 1 rfl dX12_fitsAt_77 ?_
        refine mg_calliW C (s_fitsWord l (g 6 (x8).toNatClampNeg) x4 v f g h) mCal_fitsWord rfl ⟨by decide, by decide⟩ rfl (Nat.le_of_ble_eq_true rfl) dX12_fitsAt_79 (fun r_5 v_5 f_5 g_5 h => ?_)
        refine mg_if_eq C 89 (by decide) dX12_fitsAt_82 (fun c_ => ?_) (fun c_ => ?_)
        · have h := h.1 c_
          exact mg_sub [0, 1, 2, 4] rfl (sb_fitsAt_89 C hR42 x4 x5 x8 v_5 f_5 g_5 h)
        · have h := h.2 c_
          refine mg_iconst C (x := nI 1) rfl dX12_fitsAt_85 ?_
          refine mg_goto C 90 (by decide) dX12_fitsAt_86 ?_
          exact mg_sub [0, 1, 2, 4] rfl (sb_fitsAt_90 C hR42 x4 x5 x8 ((nI 1)) v_5 f_5 g_5 h)
set_option maxRecDepth 20000 in
theorem sl_fitsAt_42 (C : mC p s m args meth c cX12_fitsAt 9 (some .boolean) A D cI cJ cZ) {post : Int32 → mS → Prop}   (x4 : Int32) (x5 : Int64) (x7 : Int32) (x8 : Int32) (v : Nat → Int32) (f : Nat → Nat → Int32) (g : Nat → Nat → Int64) (h : r_fitsAt_42L (fun r v f g => post r (v, f, g))  x4 x5 x7 x8 v f g) : mG p l e (mRm 4 100) s m args below meth c A D cI cJ cZ a 9 (MQ below (va_Qi post (mB D cI cJ cZ a) A) args s 0 0 A) 42 [(0, .ref (a 0)), (4, .int x4), (5, .long x5), (7, .int x7), (8, .int x8)] [] v f g :=
  h (fun y => mG p l e (mRm 4 100) s m args below meth c A D cI cJ cZ a 9 (MQ below (va_Qi post (mB D cI cJ cZ a) A) args s 0 0 A) 42 [(0, .ref (a 0)), (4, .int (y.1)), (5, .long (y.2.1)), (7, .int (y.2.2.1)), (8, .int (y.2.2.2.1))] [] (y.2.2.2.2.1) (y.2.2.2.2.2.1) (y.2.2.2.2.2.2)) (fun y hy => sb_fitsAt_42 C  (fun b0 b1 b2 b3 v f g z => z) (y.1) (y.2.1) (y.2.2.1) (y.2.2.2.1) (y.2.2.2.2.1) (y.2.2.2.2.2.1) (y.2.2.2.2.2.2) hy)
end S_fitsAt
set_option maxHeartbeats 1000000 in
set_option maxRecDepth 20000 in
theorem s_fitsAt (l : Launch) (x1 : Int32) (x2 : Int32) (x3 : Int32) (x4 : Int32) (v : Nat → Int32) (f : Nat → Nat → Int32) (g : Nat → Nat → Int64) {P : Int32 → (Nat → Int32) → (Nat → Nat → Int32) → (Nat → Nat → Int64) → Prop} (h : r_fitsAt P x1 x2 x3 x4 v f g) : mMi l yX12_fitsAt cX12_fitsAt 9 (some .boolean) 4 100 false [.int x1, .int x2, .int x3, .int x4] v f g (fun r w => P r w.1 w.2.1 w.2.2) := by
  intro D cI cJ cZ a sz
  refine mg_body (by decide +kernel) rfl (Nat.le_of_ble_eq_true rfl) ?_
  intro p e s m args below meth c hsz C
  clear hsz
  generalize va_A (mW cI cJ cZ a v f g) sz = A at C ⊢
  refine mg_lv (lv' := [(0, .ref (a 0)), (1, .int x1), (2, .int x2), (3, .int x3), (4, .int x4)]) rfl ?_
  unfold r_fitsAt at h
  refine mg_aload_n C (i := 0) rfl 0 rfl dX12_fitsAt_0 ?_
  refine mg_arr C 17 (by decide) (by decide) rfl mL_stems rfl dX12_fitsAt_1 ?_
  refine mg_bipush C (x := nI 40) rfl dX12_fitsAt_4 ?_
  refine mg_iload_n C (i := 1) rfl 1 rfl dX12_fitsAt_6 ?_
  refine mg_imul C dX12_fitsAt_7 ?_
  refine mg_bipush C (x := nI 20) rfl dX12_fitsAt_8 ?_
  refine mg_iload_n C (i := 2) rfl 2 rfl dX12_fitsAt_10 ?_
  refine mg_imul C dX12_fitsAt_11 ?_
  refine mg_iadd C dX12_fitsAt_12 ?_
  refine mg_iload_n C (i := 3) rfl 3 rfl dX12_fitsAt_13 ?_
  refine mg_iadd C dX12_fitsAt_14 ?_
  obtain ⟨hc_15, h⟩ := h
  refine mg_laloadR C (n := 96960) 17 (by decide) (by decide) rfl rfl hc_15 dX12_fitsAt_15 ?_
  refine mg_nmL (fun x5_1 e_x5_1 => ?_)
  have h := h x5_1 e_x5_1
  refine mg_lstore C (lv' := [(5, .long x5_1), (0, .ref (a 0)), (1, .int x1), (2, .int x2), (3, .int x3), (4, .int x4)]) (Nat.le_of_ble_eq_true rfl) rfl dX12_fitsAt_16 ?_
  refine mg_aload_n C (i := 0) rfl 1 rfl dX12_fitsAt_18 ?_
  refine mg_lload C 0 rfl dX12_fitsAt_19 ?_
  refine mg_calliW C (s_isStop l x5_1 v f g h) mCal_isStop rfl ⟨by decide, by decide⟩ rfl (Nat.le_of_ble_eq_true rfl) dX12_fitsAt_21 (fun r_2 v_2 f_2 g_2 h => ?_)
  refine mg_if_eq C 29 (by decide) dX12_fitsAt_24 (fun c_ => ?_) (fun c_ => ?_)
  · have h := h.1 c_
    refine mg_aload_n C (i := 0) rfl 1 rfl dX12_fitsAt_29 ?_
    refine mg_lload C 0 rfl dX12_fitsAt_30 ?_
    refine mg_iload C 5 rfl dX12_fitsAt_32 ?_
    refine mg_calliW C (s_fitsWord l x5_1 x4 v_2 f_2 g_2 h) mCal_fitsWord rfl ⟨by decide, by decide⟩ rfl (Nat.le_of_ble_eq_true rfl) dX12_fitsAt_34 (fun r_3 v_3 f_3 g_3 h => ?_)
    refine mg_istore C (lv' := [(7, .int r_3), (5, .long x5_1), (0, .ref (a 0)), (1, .int x1), (2, .int x2), (3, .int x3), (4, .int x4)]) (Nat.le_of_ble_eq_true rfl) rfl dX12_fitsAt_37 ?_
    refine mg_iconst C (x := nI 0) rfl dX12_fitsAt_39 ?_
    refine mg_istore C (lv' := [(8, .int ((nI 0))), (7, .int r_3), (5, .long x5_1), (0, .ref (a 0)), (1, .int x1), (2, .int x2), (3, .int x3), (4, .int x4)]) (Nat.le_of_ble_eq_true rfl) rfl dX12_fitsAt_40 ?_
    exact mg_sub [3, 7, 2, 1, 0] rfl (sl_fitsAt_42 C  x4 x5_1 r_3 (((nI 0))) v_3 f_3 g_3 h)
  · have h := h.2 c_
    refine mg_iconst C (x := nI 0) rfl dX12_fitsAt_27 ?_
    refine mg_cast (bI false) rfl ?_
    exact mg_zret C (bI_nar _) h dX12_fitsAt_28
def r_isPhraseAt_103 (Q : Int32 → (Nat → Int32) → (Nat → Nat → Int32) → (Nat → Nat → Int64) → Prop) (R14 : Int32 → Int32 → Int32 → Int32 → Int32 → Int32 → (Nat → Int32) → (Nat → Nat → Int32) → (Nat → Nat → Int64) → Prop) (x1 : Int32) (x2 : Int32) (x3 : Int32) (x4 : Int32) (x6 : Int32) (x7 : Int32) (v : Nat → Int32) (f : Nat → Nat → Int32) (g : Nat → Nat → Int64) : Prop :=
vp_in ((((((nI 2)) * x1)) + x4)) 4848 ∧ (((x7 < ((f 18 ((((((nI 2)) * x1)) + x4)).toNatClampNeg)) →
  ∀ x6_4 : Int32, x6_4 = x6 + nI 1 → R14 x1 x2 x3 x4 x7 x6_4 v f g) ∧
 (¬ x7 < ((f 18 ((((((nI 2)) * x1)) + x4)).toNatClampNeg)) →
  Q ((bI false)) v f g)))
def r_isPhraseAt_57 (Q : Int32 → (Nat → Int32) → (Nat → Nat → Int32) → (Nat → Nat → Int64) → Prop) (R14 : Int32 → Int32 → Int32 → Int32 → Int32 → Int32 → (Nat → Int32) → (Nat → Nat → Int32) → (Nat → Nat → Int64) → Prop) (R57 : Int32 → Int32 → Int32 → Int32 → Int32 → Int32 → (Nat → Int32) → (Nat → Nat → Int32) → (Nat → Nat → Int64) → Prop) (x1 : Int32) (x2 : Int32) (x3 : Int32) (x4 : Int32) (x6 : Int32) (x7 : Int32) (v : Nat → Int32) (f : Nat → Nat → Int32) (g : Nat → Nat → Int64) : Prop :=
vp_in ((((((nI 2)) * x1)) + x4)) 4848 ∧ (((((f 18 ((((((nI 2)) * x1)) + x4)).toNatClampNeg)) ≤ x7 →
  r_isPhraseAt_103 Q R14 x1 x2 x3 x4 x6 x7 v f g) ∧
 (¬ ((f 18 ((((((nI 2)) * x1)) + x4)).toNatClampNeg)) ≤ x7 →
  vp_in ((((((nI 6)) * x2)) + x6)) 11808 ∧ (r_hasAt (fun r_5 v_5 f_5 g_5 => 
  ((¬ r_5 = 0 →
    r_isPhraseAt_103 Q R14 x1 x2 x3 x4 x6 x7 v_5 f_5 g_5) ∧
   (r_5 = 0 →
    ∀ x7_6 : Int32, x7_6 = x7 + nI 1 → R57 x1 x2 x3 x4 x6 x7_6 v_5 f_5 g_5))) x1 x4 x7 (g 45 ((((((nI 6)) * x2)) + x6)).toNatClampNeg) v f g))))
def r_isPhraseAt_57L (Q : Int32 → (Nat → Int32) → (Nat → Nat → Int32) → (Nat → Nat → Int64) → Prop) (R14 : Int32 → Int32 → Int32 → Int32 → Int32 → Int32 → (Nat → Int32) → (Nat → Nat → Int32) → (Nat → Nat → Int64) → Prop) (x1 : Int32) (x2 : Int32) (x3 : Int32) (x4 : Int32) (x6 : Int32) (x7 : Int32) (v : Nat → Int32) (f : Nat → Nat → Int32) (g : Nat → Nat → Int64) : Prop :=
  lfp (X := Int32 × Int32 × Int32 × Int32 × Int32 × Int32 × (Nat → Int32) × (Nat → Nat → Int32) × (Nat → Nat → Int64)) (fun P y => r_isPhraseAt_57 Q R14 (fun b0 b1 b2 b3 b4 b5 v f g => P (b0, b1, b2, b3, b4, b5, v, f, g)) y.1 y.2.1 y.2.2.1 y.2.2.2.1 y.2.2.2.2.1 y.2.2.2.2.2.1 y.2.2.2.2.2.2.1 y.2.2.2.2.2.2.2.1 y.2.2.2.2.2.2.2.2) (x1, x2, x3, x4, x6, x7, v, f, g)
def r_isPhraseAt_14 (Q : Int32 → (Nat → Int32) → (Nat → Nat → Int32) → (Nat → Nat → Int64) → Prop) (R14 : Int32 → Int32 → Int32 → Int32 → Int32 → Int32 → (Nat → Int32) → (Nat → Nat → Int32) → (Nat → Nat → Int64) → Prop) (x1 : Int32) (x2 : Int32) (x3 : Int32) (x4 : Int32) (x5 : Int32) (x6 : Int32) (v : Nat → Int32) (f : Nat → Nat → Int32) (g : Nat → Nat → Int64) : Prop :=
vp_in x2 1968 ∧ (((((f 44 (x2).toNatClampNeg)) ≤ x6 →
  vp_in x2 1968 ∧ (vp_in ((((((((nI 6)) * x2)) + ((f 44 (x2).toNatClampNeg)))) - ((nI 1)))) 11808 ∧ (vp_in ((((nI 6)) * x2)) 11808 ∧ (vp_in x2 1968 ∧ (∀ x6_2 : Int32, x6_2 = (((((f 46 ((((((((nI 6)) * x2)) + ((f 44 (x2).toNatClampNeg)))) - ((nI 1)))).toNatClampNeg)) - ((f 46 ((((nI 6)) * x2)).toNatClampNeg)))) + ((f 42 (x2).toNatClampNeg))) → ((x6_2 < ((x5 - x3)) →
    Q ((bI false)) v f g) ∧
   (¬ x6_2 < ((x5 - x3)) →
    Q ((bI true)) v f g))))))) ∧
 (¬ ((f 44 (x2).toNatClampNeg)) ≤ x6 →
  vp_in ((((((nI 6)) * x2)) + x6)) 11808 ∧ (vp_in ((((((((nI 6)) * x2)) + x6)) - ((nI 1)))) 11808 ∧ (∀ x7_3 : Int32, x7_3 = (((x5 + ((f 46 ((((((nI 6)) * x2)) + x6)).toNatClampNeg)))) - ((f 46 ((((((((nI 6)) * x2)) + x6)) - ((nI 1)))).toNatClampNeg))) → r_isPhraseAt_57L Q R14 x1 x2 x3 x4 x6 x7_3 v f g)))))
def r_isPhraseAt_14L (Q : Int32 → (Nat → Int32) → (Nat → Nat → Int32) → (Nat → Nat → Int64) → Prop)  (x1 : Int32) (x2 : Int32) (x3 : Int32) (x4 : Int32) (x5 : Int32) (x6 : Int32) (v : Nat → Int32) (f : Nat → Nat → Int32) (g : Nat → Nat → Int64) : Prop :=
  lfp (X := Int32 × Int32 × Int32 × Int32 × Int32 × Int32 × (Nat → Int32) × (Nat → Nat → Int32) × (Nat → Nat → Int64)) (fun P y => r_isPhraseAt_14 Q  (fun b0 b1 b2 b3 b4 b5 v f g => P (b0, b1, b2, b3, b4, b5, v, f, g)) y.1 y.2.1 y.2.2.1 y.2.2.2.1 y.2.2.2.2.1 y.2.2.2.2.2.1 y.2.2.2.2.2.2.1 y.2.2.2.2.2.2.2.1 y.2.2.2.2.2.2.2.2) (x1, x2, x3, x4, x5, x6, v, f, g)
def r_isPhraseAt (Q : Int32 → (Nat → Int32) → (Nat → Nat → Int32) → (Nat → Nat → Int64) → Prop) (x1 : Int32) (x2 : Int32) (x3 : Int32) (v : Nat → Int32) (f : Nat → Nat → Int32) (g : Nat → Nat → Int64) : Prop :=
vp_in x2 1968 ∧ (∀ x4_1 : Int32, x4_1 = (f 41 (x2).toNatClampNeg) → r_isPhraseAt_14L Q  x1 x2 x3 x4_1 x3 (((nI 1))) v f g)
section S_isPhraseAt
variable {p : Program} {l : Launch} {e : Env} {s : State} {m : MethodId} {args : Array Value} {below : List Frame} {meth : Method} {c : Code} {A : Nat → Prop} {D : va_G} {cI cJ cZ : ClassId} {a : Nat → Nat}
set_option maxRecDepth 20000 in
theorem sb_isPhraseAt_103 (C : mC p s m args meth c cX12_isPhraseAt 8 (some .boolean) A D cI cJ cZ) {post : Int32 → mS → Prop} {R14 : Int32 → Int32 → Int32 → Int32 → Int32 → Int32 → (Nat → Int32) → (Nat → Nat → Int32) → (Nat → Nat → Int64) → Prop} (hR14 : ∀ (x1 : Int32) (x2 : Int32) (x3 : Int32) (x4 : Int32) (x5 : Int32) (x6 : Int32) (v : Nat → Int32) (f : Nat → Nat → Int32) (g : Nat → Nat → Int64), R14 x1 x2 x3 x4 x5 x6 v f g → mG p l e (mRm 2 53) s m args below meth c A D cI cJ cZ a 8 (MQ below (va_Qi post (mB D cI cJ cZ a) A) args s 0 0 A) 14 [(0, .ref (a 0)), (1, .int x1), (2, .int x2), (3, .int x3), (4, .int x4), (5, .int x5), (6, .int x6)] [] v f g) (x1 : Int32) (x2 : Int32) (x3 : Int32) (x4 : Int32) (x6 : Int32) (x7 : Int32) (v : Nat → Int32) (f : Nat → Nat → Int32) (g : Nat → Nat → Int64) (h : r_isPhraseAt_103 (fun r v f g => post r (v, f, g)) R14 x1 x2 x3 x4 x6 x7 v f g) : mG p l e (mRm 2 53) s m args below meth c A D cI cJ cZ a 8 (MQ below (va_Qi post (mB D cI cJ cZ a) A) args s 0 0 A) 103 [(0, .ref (a 0)), (1, .int x1), (2, .int x2), (3, .int x3), (4, .int x4), (6, .int x6), (7, .int x7)] [] v f g := by
  unfold r_isPhraseAt_103 at h
  refine mg_iload C 6 rfl dX12_isPhraseAt_103 ?_
  refine mg_aload_n C (i := 0) rfl 0 rfl dX12_isPhraseAt_105 ?_
  refine mg_arr C 18 (by decide) (by decide) rfl mL_places rfl dX12_isPhraseAt_106 ?_
  refine mg_iconst C (x := nI 2) rfl dX12_isPhraseAt_109 ?_
  refine mg_iload_n C (i := 1) rfl 1 rfl dX12_isPhraseAt_110 ?_
  refine mg_imul C dX12_isPhraseAt_111 ?_
  refine mg_iload C 4 rfl dX12_isPhraseAt_112 ?_
  refine mg_iadd C dX12_isPhraseAt_114 ?_
  obtain ⟨hc_115, h⟩ := h
  refine mg_ialoadR C (n := 4848) 18 (by decide) (by decide) rfl rfl hc_115 dX12_isPhraseAt_115 ?_
  refine mg_icmp_lt C 121 (by decide) dX12_isPhraseAt_116 (fun c_ => ?_) (fun c_ => ?_)
  · have h := h.1 c_
    refine mg_iload C 6 rfl dX12_isPhraseAt_121 ?_
    refine mg_istore C (lv' := [(5, .int x7), (0, .ref (a 0)), (1, .int x1), (2, .int x2), (3, .int x3), (4, .int x4), (6, .int x6), (7, .int x7)]) (Nat.le_of_ble_eq_true rfl) rfl dX12_isPhraseAt_123 ?_
    obtain ⟨x6_4, e_x6_4⟩ : ∃ z : Int32, z = x6 + nI 1 := ⟨_, rfl⟩
    have h := h x6_4 e_x6_4
    refine mg_iinc C (lv' := [(6, .int x6_4), (5, .int x7), (0, .ref (a 0)), (1, .int x1), (2, .int x2), (3, .int x3), (4, .int x4), (7, .int x7)]) 6 rfl (by rw [e_x6_4]; rfl) (Nat.le_of_ble_eq_true rfl) rfl dX12_isPhraseAt_125 ?_
    refine mg_goto C 14 (by decide) dX12_isPhraseAt_128 ?_
    exact mg_sub [2, 3, 4, 5, 6, 1, 0] rfl (hR14 x1 x2 x3 x4 x7 x6_4 v f g h)
  · have h := h.2 c_
    refine mg_iconst C (x := nI 0) rfl dX12_isPhraseAt_119 ?_
    refine mg_cast (bI false) rfl ?_
    exact mg_zret C (bI_nar _) h dX12_isPhraseAt_120
set_option maxRecDepth 20000 in
theorem sb_isPhraseAt_57 (C : mC p s m args meth c cX12_isPhraseAt 8 (some .boolean) A D cI cJ cZ) {post : Int32 → mS → Prop} {R14 : Int32 → Int32 → Int32 → Int32 → Int32 → Int32 → (Nat → Int32) → (Nat → Nat → Int32) → (Nat → Nat → Int64) → Prop} {R57 : Int32 → Int32 → Int32 → Int32 → Int32 → Int32 → (Nat → Int32) → (Nat → Nat → Int32) → (Nat → Nat → Int64) → Prop} (hR14 : ∀ (x1 : Int32) (x2 : Int32) (x3 : Int32) (x4 : Int32) (x5 : Int32) (x6 : Int32) (v : Nat → Int32) (f : Nat → Nat → Int32) (g : Nat → Nat → Int64), R14 x1 x2 x3 x4 x5 x6 v f g → mG p l e (mRm 2 53) s m args below meth c A D cI cJ cZ a 8 (MQ below (va_Qi post (mB D cI cJ cZ a) A) args s 0 0 A) 14 [(0, .ref (a 0)), (1, .int x1), (2, .int x2), (3, .int x3), (4, .int x4), (5, .int x5), (6, .int x6)] [] v f g) (hR57 : ∀ (x1 : Int32) (x2 : Int32) (x3 : Int32) (x4 : Int32) (x6 : Int32) (x7 : Int32) (v : Nat → Int32) (f : Nat → Nat → Int32) (g : Nat → Nat → Int64), R57 x1 x2 x3 x4 x6 x7 v f g → mG p l e (mRm 2 53) s m args below meth c A D cI cJ cZ a 8 (MQ below (va_Qi post (mB D cI cJ cZ a) A) args s 0 0 A) 57 [(0, .ref (a 0)), (1, .int x1), (2, .int x2), (3, .int x3), (4, .int x4), (6, .int x6), (7, .int x7)] [] v f g) (x1 : Int32) (x2 : Int32) (x3 : Int32) (x4 : Int32) (x6 : Int32) (x7 : Int32) (v : Nat → Int32) (f : Nat → Nat → Int32) (g : Nat → Nat → Int64) (h : r_isPhraseAt_57 (fun r v f g => post r (v, f, g)) R14 R57 x1 x2 x3 x4 x6 x7 v f g) : mG p l e (mRm 2 53) s m args below meth c A D cI cJ cZ a 8 (MQ below (va_Qi post (mB D cI cJ cZ a) A) args s 0 0 A) 57 [(0, .ref (a 0)), (1, .int x1), (2, .int x2), (3, .int x3), (4, .int x4), (6, .int x6), (7, .int x7)] [] v f g := by
  unfold r_isPhraseAt_57 at h
  refine mg_iload C 6 rfl dX12_isPhraseAt_57 ?_
  refine mg_aload_n C (i := 0) rfl 0 rfl dX12_isPhraseAt_59 ?_
  refine mg_arr C 18 (by decide) (by decide) rfl mL_places rfl dX12_isPhraseAt_60 ?_
  refine mg_iconst C (x := nI 2) rfl dX12_isPhraseAt_63 ?_
  refine mg_iload_n C (i := 1) rfl 1 rfl dX12_isPhraseAt_64 ?_
  refine mg_imul C dX12_isPhraseAt_65 ?_
  refine mg_iload C 4 rfl dX12_isPhraseAt_66 ?_
  refine mg_iadd C dX12_isPhraseAt_68 ?_
  obtain ⟨hc_69, h⟩ := h
  refine mg_ialoadR C (n := 4848) 18 (by decide) (by decide) rfl rfl hc_69 dX12_isPhraseAt_69 ?_
  refine mg_icmp_ge C 103 (by decide) dX12_isPhraseAt_70 (fun c_ => ?_) (fun c_ => ?_)
  · have h := h.1 c_
    exact mg_sub [0, 1, 2, 3, 4, 5, 6] rfl (sb_isPhraseAt_103 C hR14 x1 x2 x3 x4 x6 x7 v f g h)
  · have h := h.2 c_
    refine mg_aload_n C (i := 0) rfl 0 rfl dX12_isPhraseAt_73 ?_
    refine mg_iload_n C (i := 1) rfl 1 rfl dX12_isPhraseAt_74 ?_
    refine mg_iload C 4 rfl dX12_isPhraseAt_75 ?_
    refine mg_iload C 6 rfl dX12_isPhraseAt_77 ?_
    refine mg_aload_n C (i := 0) rfl 0 rfl dX12_isPhraseAt_79 ?_
    refine mg_arr C 45 (by decide) (by decide) rfl mL_leafTokens rfl dX12_isPhraseAt_80 ?_
    refine mg_bipush C (x := nI 6) rfl dX12_isPhraseAt_83 ?_
    refine mg_iload_n C (i := 2) rfl 2 rfl dX12_isPhraseAt_85 ?_
    refine mg_imul C dX12_isPhraseAt_86 ?_
    refine mg_iload C 5 rfl dX12_isPhraseAt_87 ?_
    refine mg_iadd C dX12_isPhraseAt_89 ?_
    obtain ⟨hc_90, h⟩ := h
    refine mg_laloadR C (n := 11808) 45 (by decide) (by decide) rfl rfl hc_90 dX12_isPhraseAt_90 ?_
    refine mg_calliW C (s_hasAt l x1 x4 x7 (g 45 ((((((nI 6)) * x2)) + x6)).toNatClampNeg) v f g h) mCal_hasAt rfl ⟨by decide, by decide⟩ rfl (Nat.le_of_ble_eq_true rfl) dX12_isPhraseAt_91 (fun r_5 v_5 f_5 g_5 h => ?_)
    refine mg_if_ne C 103 (by decide) dX12_isPhraseAt_94 (fun c_ => ?_) (fun c_ => ?_)
    · have h := h.1 c_
      exact mg_sub [0, 1, 2, 3, 4, 5, 6] rfl (sb_isPhraseAt_103 C hR14 x1 x2 x3 x4 x6 x7 v_5 f_5 g_5 h)
    · have h := h.2 c_
      obtain ⟨x7_6, e_x7_6⟩ : ∃ z : Int32, z = x7 + nI 1 := ⟨_, rfl⟩
      have h := h x7_6 e_x7_6
      refine mg_iinc C (lv' := [(7, .int x7_6), (0, .ref (a 0)), (1, .int x1), (2, .int x2), (3, .int x3), (4, .int x4), (6, .int x6)]) 6 rfl (by rw [e_x7_6]; rfl) (Nat.le_of_ble_eq_true rfl) rfl dX12_isPhraseAt_97 ?_
      refine mg_goto C 57 (by decide) dX12_isPhraseAt_100 ?_
      exact mg_sub [1, 2, 3, 4, 5, 6, 0] rfl (hR57 x1 x2 x3 x4 x6 x7_6 v_5 f_5 g_5 h)
set_option maxRecDepth 20000 in
theorem sl_isPhraseAt_57 (C : mC p s m args meth c cX12_isPhraseAt 8 (some .boolean) A D cI cJ cZ) {post : Int32 → mS → Prop} {R14 : Int32 → Int32 → Int32 → Int32 → Int32 → Int32 → (Nat → Int32) → (Nat → Nat → Int32) → (Nat → Nat → Int64) → Prop} (hR14 : ∀ (x1 : Int32) (x2 : Int32) (x3 : Int32) (x4 : Int32) (x5 : Int32) (x6 : Int32) (v : Nat → Int32) (f : Nat → Nat → Int32) (g : Nat → Nat → Int64), R14 x1 x2 x3 x4 x5 x6 v f g → mG p l e (mRm 2 53) s m args below meth c A D cI cJ cZ a 8 (MQ below (va_Qi post (mB D cI cJ cZ a) A) args s 0 0 A) 14 [(0, .ref (a 0)), (1, .int x1), (2, .int x2), (3, .int x3), (4, .int x4), (5, .int x5), (6, .int x6)] [] v f g) (x1 : Int32) (x2 : Int32) (x3 : Int32) (x4 : Int32) (x6 : Int32) (x7 : Int32) (v : Nat → Int32) (f : Nat → Nat → Int32) (g : Nat → Nat → Int64) (h : r_isPhraseAt_57L (fun r v f g => post r (v, f, g)) R14 x1 x2 x3 x4 x6 x7 v f g) : mG p l e (mRm 2 53) s m args below meth c A D cI cJ cZ a 8 (MQ below (va_Qi post (mB D cI cJ cZ a) A) args s 0 0 A) 57 [(0, .ref (a 0)), (1, .int x1), (2, .int x2), (3, .int x3), (4, .int x4), (6, .int x6), (7, .int x7)] [] v f g :=
  h (fun y => mG p l e (mRm 2 53) s m args below meth c A D cI cJ cZ a 8 (MQ below (va_Qi post (mB D cI cJ cZ a) A) args s 0 0 A) 57 [(0, .ref (a 0)), (1, .int (y.1)), (2, .int (y.2.1)), (3, .int (y.2.2.1)), (4, .int (y.2.2.2.1)), (6, .int (y.2.2.2.2.1)), (7, .int (y.2.2.2.2.2.1))] [] (y.2.2.2.2.2.2.1) (y.2.2.2.2.2.2.2.1) (y.2.2.2.2.2.2.2.2)) (fun y hy => sb_isPhraseAt_57 C hR14 (fun b0 b1 b2 b3 b4 b5 v f g z => z) (y.1) (y.2.1) (y.2.2.1) (y.2.2.2.1) (y.2.2.2.2.1) (y.2.2.2.2.2.1) (y.2.2.2.2.2.2.1) (y.2.2.2.2.2.2.2.1) (y.2.2.2.2.2.2.2.2) hy)
set_option maxRecDepth 20000 in
theorem sb_isPhraseAt_14 (C : mC p s m args meth c cX12_isPhraseAt 8 (some .boolean) A D cI cJ cZ) {post : Int32 → mS → Prop} {R14 : Int32 → Int32 → Int32 → Int32 → Int32 → Int32 → (Nat → Int32) → (Nat → Nat → Int32) → (Nat → Nat → Int64) → Prop} (hR14 : ∀ (x1 : Int32) (x2 : Int32) (x3 : Int32) (x4 : Int32) (x5 : Int32) (x6 : Int32) (v : Nat → Int32) (f : Nat → Nat → Int32) (g : Nat → Nat → Int64), R14 x1 x2 x3 x4 x5 x6 v f g → mG p l e (mRm 2 53) s m args below meth c A D cI cJ cZ a 8 (MQ below (va_Qi post (mB D cI cJ cZ a) A) args s 0 0 A) 14 [(0, .ref (a 0)), (1, .int x1), (2, .int x2), (3, .int x3), (4, .int x4), (5, .int x5), (6, .int x6)] [] v f g) (x1 : Int32) (x2 : Int32) (x3 : Int32) (x4 : Int32) (x5 : Int32) (x6 : Int32) (v : Nat → Int32) (f : Nat → Nat → Int32) (g : Nat → Nat → Int64) (h : r_isPhraseAt_14 (fun r v f g => post r (v, f, g)) R14 x1 x2 x3 x4 x5 x6 v f g) : mG p l e (mRm 2 53) s m args below meth c A D cI cJ cZ a 8 (MQ below (va_Qi post (mB D cI cJ cZ a) A) args s 0 0 A) 14 [(0, .ref (a 0)), (1, .int x1), (2, .int x2), (3, .int x3), (4, .int x4), (5, .int x5), (6, .int x6)] [] v f g := by
  unfold r_isPhraseAt_14 at h
  refine mg_iload C 6 rfl dX12_isPhraseAt_14 ?_
  refine mg_aload_n C (i := 0) rfl 0 rfl dX12_isPhraseAt_16 ?_
  refine mg_arr C 44 (by decide) (by decide) rfl mL_many rfl dX12_isPhraseAt_17 ?_
  refine mg_iload_n C (i := 2) rfl 2 rfl dX12_isPhraseAt_20 ?_
  obtain ⟨hc_21, h⟩ := h
  refine mg_ialoadR C (n := 1968) 44 (by decide) (by decide) rfl rfl hc_21 dX12_isPhraseAt_21 ?_
  refine mg_icmp_ge C 131 (by decide) dX12_isPhraseAt_22 (fun c_ => ?_) (fun c_ => ?_)
  · have h := h.1 c_
    refine mg_aload_n C (i := 0) rfl 0 rfl dX12_isPhraseAt_131 ?_
    refine mg_arr C 46 (by decide) (by decide) rfl mL_leafPlaces rfl dX12_isPhraseAt_132 ?_
    refine mg_bipush C (x := nI 6) rfl dX12_isPhraseAt_135 ?_
    refine mg_iload_n C (i := 2) rfl 2 rfl dX12_isPhraseAt_137 ?_
    refine mg_imul C dX12_isPhraseAt_138 ?_
    refine mg_aload_n C (i := 0) rfl 0 rfl dX12_isPhraseAt_139 ?_
    refine mg_arr C 44 (by decide) (by decide) rfl mL_many rfl dX12_isPhraseAt_140 ?_
    refine mg_iload_n C (i := 2) rfl 2 rfl dX12_isPhraseAt_143 ?_
    obtain ⟨hc_144, h⟩ := h
    refine mg_ialoadR C (n := 1968) 44 (by decide) (by decide) rfl rfl hc_144 dX12_isPhraseAt_144 ?_
    refine mg_iadd C dX12_isPhraseAt_145 ?_
    refine mg_iconst C (x := nI 1) rfl dX12_isPhraseAt_146 ?_
    refine mg_isub C dX12_isPhraseAt_147 ?_
    obtain ⟨hc_148, h⟩ := h
    refine mg_ialoadR C (n := 11808) 46 (by decide) (by decide) rfl rfl hc_148 dX12_isPhraseAt_148 ?_
    refine mg_aload_n C (i := 0) rfl 0 rfl dX12_isPhraseAt_149 ?_
    refine mg_arr C 46 (by decide) (by decide) rfl mL_leafPlaces rfl dX12_isPhraseAt_150 ?_
    refine mg_bipush C (x := nI 6) rfl dX12_isPhraseAt_153 ?_
    refine mg_iload_n C (i := 2) rfl 2 rfl dX12_isPhraseAt_155 ?_
    refine mg_imul C dX12_isPhraseAt_156 ?_
    obtain ⟨hc_157, h⟩ := h
    refine mg_ialoadR C (n := 11808) 46 (by decide) (by decide) rfl rfl hc_157 dX12_isPhraseAt_157 ?_
    refine mg_isub C dX12_isPhraseAt_158 ?_
    refine mg_aload_n C (i := 0) rfl 0 rfl dX12_isPhraseAt_159 ?_
    refine mg_arr C 42 (by decide) (by decide) rfl mL_amounts rfl dX12_isPhraseAt_160 ?_
    refine mg_iload_n C (i := 2) rfl 2 rfl dX12_isPhraseAt_163 ?_
    obtain ⟨hc_164, h⟩ := h
    refine mg_ialoadR C (n := 1968) 42 (by decide) (by decide) rfl rfl hc_164 dX12_isPhraseAt_164 ?_
    refine mg_iadd C dX12_isPhraseAt_165 ?_
    refine mg_nmI (fun x6_2 e_x6_2 => ?_)
    have h := h x6_2 e_x6_2
    refine mg_istore C (lv' := [(6, .int x6_2), (0, .ref (a 0)), (1, .int x1), (2, .int x2), (3, .int x3), (4, .int x4), (5, .int x5)]) (Nat.le_of_ble_eq_true rfl) rfl dX12_isPhraseAt_166 ?_
    refine mg_iload C 6 rfl dX12_isPhraseAt_168 ?_
    refine mg_iload_n C (i := 3) rfl 4 rfl dX12_isPhraseAt_170 ?_
    refine mg_isub C dX12_isPhraseAt_171 ?_
    refine mg_iload C 0 rfl dX12_isPhraseAt_172 ?_
    refine mg_icmp_gt C 181 (by decide) dX12_isPhraseAt_174 (fun c_ => ?_) (fun c_ => ?_)
    · have h := h.1 c_
      refine mg_iconst C (x := nI 0) rfl dX12_isPhraseAt_181 ?_
      refine mg_cast (bI false) rfl ?_
      exact mg_zret C (bI_nar _) h dX12_isPhraseAt_182
    · have h := h.2 c_
      refine mg_iconst C (x := nI 1) rfl dX12_isPhraseAt_177 ?_
      refine mg_goto C 182 (by decide) dX12_isPhraseAt_178 ?_
      refine mg_cast (bI true) rfl ?_
      exact mg_zret C (bI_nar _) h dX12_isPhraseAt_182
  · have h := h.2 c_
    refine mg_iload C 5 rfl dX12_isPhraseAt_25 ?_
    refine mg_aload_n C (i := 0) rfl 0 rfl dX12_isPhraseAt_27 ?_
    refine mg_arr C 46 (by decide) (by decide) rfl mL_leafPlaces rfl dX12_isPhraseAt_28 ?_
    refine mg_bipush C (x := nI 6) rfl dX12_isPhraseAt_31 ?_
    refine mg_iload_n C (i := 2) rfl 2 rfl dX12_isPhraseAt_33 ?_
    refine mg_imul C dX12_isPhraseAt_34 ?_
    refine mg_iload C 6 rfl dX12_isPhraseAt_35 ?_
    refine mg_iadd C dX12_isPhraseAt_37 ?_
    obtain ⟨hc_38, h⟩ := h
    refine mg_ialoadR C (n := 11808) 46 (by decide) (by decide) rfl rfl hc_38 dX12_isPhraseAt_38 ?_
    refine mg_iadd C dX12_isPhraseAt_39 ?_
    refine mg_aload_n C (i := 0) rfl 0 rfl dX12_isPhraseAt_40 ?_
    refine mg_arr C 46 (by decide) (by decide) rfl mL_leafPlaces rfl dX12_isPhraseAt_41 ?_
    refine mg_bipush C (x := nI 6) rfl dX12_isPhraseAt_44 ?_
    refine mg_iload_n C (i := 2) rfl 2 rfl dX12_isPhraseAt_46 ?_
    refine mg_imul C dX12_isPhraseAt_47 ?_
    refine mg_iload C 6 rfl dX12_isPhraseAt_48 ?_
    refine mg_iadd C dX12_isPhraseAt_50 ?_
    refine mg_iconst C (x := nI 1) rfl dX12_isPhraseAt_51 ?_
    refine mg_isub C dX12_isPhraseAt_52 ?_
    obtain ⟨hc_53, h⟩ := h
    refine mg_ialoadR C (n := 11808) 46 (by decide) (by decide) rfl rfl hc_53 dX12_isPhraseAt_53 ?_
    refine mg_isub C dX12_isPhraseAt_54 ?_
    refine mg_nmI (fun x7_3 e_x7_3 => ?_)
    have h := h x7_3 e_x7_3
    refine mg_istore C (lv' := [(7, .int x7_3), (0, .ref (a 0)), (1, .int x1), (2, .int x2), (3, .int x3), (4, .int x4), (5, .int x5), (6, .int x6)]) (Nat.le_of_ble_eq_true rfl) rfl dX12_isPhraseAt_55 ?_
    exact mg_sub [1, 2, 3, 4, 5, 7, 0] rfl (sl_isPhraseAt_57 C hR14 x1 x2 x3 x4 x6 x7_3 v f g h)
set_option maxRecDepth 20000 in
theorem sl_isPhraseAt_14 (C : mC p s m args meth c cX12_isPhraseAt 8 (some .boolean) A D cI cJ cZ) {post : Int32 → mS → Prop}   (x1 : Int32) (x2 : Int32) (x3 : Int32) (x4 : Int32) (x5 : Int32) (x6 : Int32) (v : Nat → Int32) (f : Nat → Nat → Int32) (g : Nat → Nat → Int64) (h : r_isPhraseAt_14L (fun r v f g => post r (v, f, g))  x1 x2 x3 x4 x5 x6 v f g) : mG p l e (mRm 2 53) s m args below meth c A D cI cJ cZ a 8 (MQ below (va_Qi post (mB D cI cJ cZ a) A) args s 0 0 A) 14 [(0, .ref (a 0)), (1, .int x1), (2, .int x2), (3, .int x3), (4, .int x4), (5, .int x5), (6, .int x6)] [] v f g :=
  h (fun y => mG p l e (mRm 2 53) s m args below meth c A D cI cJ cZ a 8 (MQ below (va_Qi post (mB D cI cJ cZ a) A) args s 0 0 A) 14 [(0, .ref (a 0)), (1, .int (y.1)), (2, .int (y.2.1)), (3, .int (y.2.2.1)), (4, .int (y.2.2.2.1)), (5, .int (y.2.2.2.2.1)), (6, .int (y.2.2.2.2.2.1))] [] (y.2.2.2.2.2.2.1) (y.2.2.2.2.2.2.2.1) (y.2.2.2.2.2.2.2.2)) (fun y hy => sb_isPhraseAt_14 C  (fun b0 b1 b2 b3 b4 b5 v f g z => z) (y.1) (y.2.1) (y.2.2.1) (y.2.2.2.1) (y.2.2.2.2.1) (y.2.2.2.2.2.1) (y.2.2.2.2.2.2.1) (y.2.2.2.2.2.2.2.1) (y.2.2.2.2.2.2.2.2) hy)
end S_isPhraseAt
set_option maxHeartbeats 1000000 in
set_option maxRecDepth 20000 in
theorem s_isPhraseAt (l : Launch) (x1 : Int32) (x2 : Int32) (x3 : Int32) (v : Nat → Int32) (f : Nat → Nat → Int32) (g : Nat → Nat → Int64) {P : Int32 → (Nat → Int32) → (Nat → Nat → Int32) → (Nat → Nat → Int64) → Prop} (h : r_isPhraseAt P x1 x2 x3 v f g) : mMi l yX12_isPhraseAt cX12_isPhraseAt 8 (some .boolean) 2 53 false [.int x1, .int x2, .int x3] v f g (fun r w => P r w.1 w.2.1 w.2.2) := by
  intro D cI cJ cZ a sz
  refine mg_body (by decide +kernel) rfl (Nat.le_of_ble_eq_true rfl) ?_
  intro p e s m args below meth c hsz C
  clear hsz
  generalize va_A (mW cI cJ cZ a v f g) sz = A at C ⊢
  refine mg_lv (lv' := [(0, .ref (a 0)), (1, .int x1), (2, .int x2), (3, .int x3)]) rfl ?_
  unfold r_isPhraseAt at h
  refine mg_aload_n C (i := 0) rfl 0 rfl dX12_isPhraseAt_0 ?_
  refine mg_arr C 41 (by decide) (by decide) rfl mL_fields rfl dX12_isPhraseAt_1 ?_
  refine mg_iload_n C (i := 2) rfl 2 rfl dX12_isPhraseAt_4 ?_
  obtain ⟨hc_5, h⟩ := h
  refine mg_ialoadR C (n := 1968) 41 (by decide) (by decide) rfl rfl hc_5 dX12_isPhraseAt_5 ?_
  refine mg_nmI (fun x4_1 e_x4_1 => ?_)
  have h := h x4_1 e_x4_1
  refine mg_istore C (lv' := [(4, .int x4_1), (0, .ref (a 0)), (1, .int x1), (2, .int x2), (3, .int x3)]) (Nat.le_of_ble_eq_true rfl) rfl dX12_isPhraseAt_6 ?_
  refine mg_iload_n C (i := 3) rfl 4 rfl dX12_isPhraseAt_8 ?_
  refine mg_istore C (lv' := [(5, .int x3), (4, .int x4_1), (0, .ref (a 0)), (1, .int x1), (2, .int x2), (3, .int x3)]) (Nat.le_of_ble_eq_true rfl) rfl dX12_isPhraseAt_9 ?_
  refine mg_iconst C (x := nI 1) rfl dX12_isPhraseAt_11 ?_
  refine mg_istore C (lv' := [(6, .int ((nI 1))), (5, .int x3), (4, .int x4_1), (0, .ref (a 0)), (1, .int x1), (2, .int x2), (3, .int x3)]) (Nat.le_of_ble_eq_true rfl) rfl dX12_isPhraseAt_12 ?_
  exact mg_sub [3, 4, 5, 6, 2, 1, 0] rfl (sl_isPhraseAt_14 C  x1 x2 x3 x4_1 x3 (((nI 1))) v f g h)
def r_isNearAt_114 (Q : Int32 → (Nat → Int32) → (Nat → Nat → Int32) → (Nat → Nat → Int64) → Prop) (R29 : Int32 → Int32 → Int32 → Int32 → Int32 → Int32 → (Nat → Int32) → (Nat → Nat → Int32) → (Nat → Nat → Int64) → Prop) (x1 : Int32) (x2 : Int32) (x3 : Int32) (x4 : Int32) (x6 : Int32) (t0 : Int32) (v : Nat → Int32) (f : Nat → Nat → Int32) (g : Nat → Nat → Int64) : Prop :=
∀ x6_2 : Int32, x6_2 = x6 + nI 1 → R29 x1 x2 x3 x4 t0 x6_2 v f g
def r_isNearAt_113 (Q : Int32 → (Nat → Int32) → (Nat → Nat → Int32) → (Nat → Nat → Int64) → Prop) (R29 : Int32 → Int32 → Int32 → Int32 → Int32 → Int32 → (Nat → Int32) → (Nat → Nat → Int32) → (Nat → Nat → Int64) → Prop) (x1 : Int32) (x2 : Int32) (x3 : Int32) (x4 : Int32) (x6 : Int32) (v : Nat → Int32) (f : Nat → Nat → Int32) (g : Nat → Nat → Int64) : Prop :=
r_isNearAt_114 Q R29 x1 x2 x3 x4 x6 ((nI 0)) v f g
def r_isNearAt_62 (Q : Int32 → (Nat → Int32) → (Nat → Nat → Int32) → (Nat → Nat → Int64) → Prop) (R29 : Int32 → Int32 → Int32 → Int32 → Int32 → Int32 → (Nat → Int32) → (Nat → Nat → Int32) → (Nat → Nat → Int64) → Prop) (x1 : Int32) (x2 : Int32) (x3 : Int32) (x4 : Int32) (x5 : Int32) (x6 : Int32) (t0 : Int32) (v : Nat → Int32) (f : Nat → Nat → Int32) (g : Nat → Nat → Int64) : Prop :=
((¬ x5 = 0 →
  r_isNearAt_114 Q R29 x1 x2 x3 x4 x6 ((nI 1)) v f g) ∧
 (x5 = 0 →
  ((t0 < ((nI 1)) →
    r_isNearAt_113 Q R29 x1 x2 x3 x4 x6 v f g) ∧
   (¬ t0 < ((nI 1)) →
    vp_in x2 1968 ∧ (((((f 42 (x2).toNatClampNeg)) < t0 →
      r_isNearAt_113 Q R29 x1 x2 x3 x4 x6 v f g) ∧
     (¬ ((f 42 (x2).toNatClampNeg)) < t0 →
      vp_in ((((((nI 6)) * x2)) + ((nI 1)))) 11808 ∧ (r_hasAt (fun r_3 v_3 f_3 g_3 => 
      ((r_3 = 0 →
        r_isNearAt_113 Q R29 x1 x2 x3 x4 x6 v_3 f_3 g_3) ∧
       (¬ r_3 = 0 →
        r_isNearAt_114 Q R29 x1 x2 x3 x4 x6 ((nI 1)) v_3 f_3 g_3))) x1 x4 x6 (g 45 ((((((nI 6)) * x2)) + ((nI 1)))).toNatClampNeg) v f g))))))))
def r_isNearAt_29 (Q : Int32 → (Nat → Int32) → (Nat → Nat → Int32) → (Nat → Nat → Int64) → Prop) (R29 : Int32 → Int32 → Int32 → Int32 → Int32 → Int32 → (Nat → Int32) → (Nat → Nat → Int32) → (Nat → Nat → Int64) → Prop) (x1 : Int32) (x2 : Int32) (x3 : Int32) (x4 : Int32) (x5 : Int32) (x6 : Int32) (v : Nat → Int32) (f : Nat → Nat → Int32) (g : Nat → Nat → Int64) : Prop :=
vp_in ((((((nI 2)) * x1)) + x4)) 4848 ∧ (((((f 18 ((((((nI 2)) * x1)) + x4)).toNatClampNeg)) ≤ x6 →
  isZ x5 ∧ (Q x5 v f g)) ∧
 (¬ ((f 18 ((((((nI 2)) * x1)) + x4)).toNatClampNeg)) ≤ x6 →
  ((x6 ≤ x3 →
    r_isNearAt_62 Q R29 x1 x2 x3 x4 x5 x6 ((x3 - x6)) v f g) ∧
   (¬ x6 ≤ x3 →
    r_isNearAt_62 Q R29 x1 x2 x3 x4 x5 x6 ((x6 - x3)) v f g)))))
def r_isNearAt_29L (Q : Int32 → (Nat → Int32) → (Nat → Nat → Int32) → (Nat → Nat → Int64) → Prop)  (x1 : Int32) (x2 : Int32) (x3 : Int32) (x4 : Int32) (x5 : Int32) (x6 : Int32) (v : Nat → Int32) (f : Nat → Nat → Int32) (g : Nat → Nat → Int64) : Prop :=
  lfp (X := Int32 × Int32 × Int32 × Int32 × Int32 × Int32 × (Nat → Int32) × (Nat → Nat → Int32) × (Nat → Nat → Int64)) (fun P y => r_isNearAt_29 Q  (fun b0 b1 b2 b3 b4 b5 v f g => P (b0, b1, b2, b3, b4, b5, v, f, g)) y.1 y.2.1 y.2.2.1 y.2.2.2.1 y.2.2.2.2.1 y.2.2.2.2.2.1 y.2.2.2.2.2.2.1 y.2.2.2.2.2.2.2.1 y.2.2.2.2.2.2.2.2) (x1, x2, x3, x4, x5, x6, v, f, g)
def r_isNearAt_27 (Q : Int32 → (Nat → Int32) → (Nat → Nat → Int32) → (Nat → Nat → Int64) → Prop)  (x1 : Int32) (x2 : Int32) (x3 : Int32) (x4 : Int32) (x5 : Int32) (t0 : Int32) (v : Nat → Int32) (f : Nat → Nat → Int32) (g : Nat → Nat → Int64) : Prop :=
r_isNearAt_29L Q  x1 x2 x3 x4 x5 t0 v f g
def r_isNearAt (Q : Int32 → (Nat → Int32) → (Nat → Nat → Int32) → (Nat → Nat → Int64) → Prop) (x1 : Int32) (x2 : Int32) (x3 : Int32) (v : Nat → Int32) (f : Nat → Nat → Int32) (g : Nat → Nat → Int64) : Prop :=
vp_in x2 1968 ∧ (∀ x4_1 : Int32, x4_1 = (f 41 (x2).toNatClampNeg) → vp_in x2 1968 ∧ (((((f 43 (x2).toNatClampNeg)) = 0 →
  r_isNearAt_27 Q  x1 x2 x3 x4_1 (((nI 0))) ((nI 0)) v f g) ∧
 (¬ ((f 43 (x2).toNatClampNeg)) = 0 →
  r_isNearAt_27 Q  x1 x2 x3 x4_1 (((nI 0))) ((x3 + ((nI 1)))) v f g))))
section S_isNearAt
variable {p : Program} {l : Launch} {e : Env} {s : State} {m : MethodId} {args : Array Value} {below : List Frame} {meth : Method} {c : Code} {A : Nat → Prop} {D : va_G} {cI cJ cZ : ClassId} {a : Nat → Nat}
set_option maxRecDepth 20000 in
theorem sb_isNearAt_114 (C : mC p s m args meth c cX12_isNearAt 8 (some .boolean) A D cI cJ cZ) {post : Int32 → mS → Prop} {R29 : Int32 → Int32 → Int32 → Int32 → Int32 → Int32 → (Nat → Int32) → (Nat → Nat → Int32) → (Nat → Nat → Int64) → Prop} (hR29 : ∀ (x1 : Int32) (x2 : Int32) (x3 : Int32) (x4 : Int32) (x5 : Int32) (x6 : Int32) (v : Nat → Int32) (f : Nat → Nat → Int32) (g : Nat → Nat → Int64), R29 x1 x2 x3 x4 x5 x6 v f g → mG p l e (mRm 2 53) s m args below meth c A D cI cJ cZ a 8 (MQ below (va_Qi post (mB D cI cJ cZ a) A) args s 0 0 A) 29 [(0, .ref (a 0)), (1, .int x1), (2, .int x2), (3, .int x3), (4, .int x4), (5, .int x5), (6, .int x6)] [] v f g) (x1 : Int32) (x2 : Int32) (x3 : Int32) (x4 : Int32) (x6 : Int32) (t0 : Int32) (v : Nat → Int32) (f : Nat → Nat → Int32) (g : Nat → Nat → Int64) (h : r_isNearAt_114 (fun r v f g => post r (v, f, g)) R29 x1 x2 x3 x4 x6 t0 v f g) : mG p l e (mRm 2 53) s m args below meth c A D cI cJ cZ a 8 (MQ below (va_Qi post (mB D cI cJ cZ a) A) args s 0 0 A) 114 [(0, .ref (a 0)), (1, .int x1), (2, .int x2), (3, .int x3), (4, .int x4), (6, .int x6)] [.int t0] v f g := by
  unfold r_isNearAt_114 at h
  refine mg_istore C (lv' := [(5, .int t0), (0, .ref (a 0)), (1, .int x1), (2, .int x2), (3, .int x3), (4, .int x4), (6, .int x6)]) (Nat.le_of_ble_eq_true rfl) rfl dX12_isNearAt_114 ?_
  obtain ⟨x6_2, e_x6_2⟩ : ∃ z : Int32, z = x6 + nI 1 := ⟨_, rfl⟩
  have h := h x6_2 e_x6_2
  refine mg_iinc C (lv' := [(6, .int x6_2), (5, .int t0), (0, .ref (a 0)), (1, .int x1), (2, .int x2), (3, .int x3), (4, .int x4)]) 6 rfl (by rw [e_x6_2]; rfl) (Nat.le_of_ble_eq_true rfl) rfl dX12_isNearAt_116 ?_
  refine mg_goto C 29 (by decide) dX12_isNearAt_119 ?_
  exact mg_sub [2, 3, 4, 5, 6, 1, 0] rfl (hR29 x1 x2 x3 x4 t0 x6_2 v f g h)
set_option maxRecDepth 20000 in
theorem sb_isNearAt_113 (C : mC p s m args meth c cX12_isNearAt 8 (some .boolean) A D cI cJ cZ) {post : Int32 → mS → Prop} {R29 : Int32 → Int32 → Int32 → Int32 → Int32 → Int32 → (Nat → Int32) → (Nat → Nat → Int32) → (Nat → Nat → Int64) → Prop} (hR29 : ∀ (x1 : Int32) (x2 : Int32) (x3 : Int32) (x4 : Int32) (x5 : Int32) (x6 : Int32) (v : Nat → Int32) (f : Nat → Nat → Int32) (g : Nat → Nat → Int64), R29 x1 x2 x3 x4 x5 x6 v f g → mG p l e (mRm 2 53) s m args below meth c A D cI cJ cZ a 8 (MQ below (va_Qi post (mB D cI cJ cZ a) A) args s 0 0 A) 29 [(0, .ref (a 0)), (1, .int x1), (2, .int x2), (3, .int x3), (4, .int x4), (5, .int x5), (6, .int x6)] [] v f g) (x1 : Int32) (x2 : Int32) (x3 : Int32) (x4 : Int32) (x6 : Int32) (v : Nat → Int32) (f : Nat → Nat → Int32) (g : Nat → Nat → Int64) (h : r_isNearAt_113 (fun r v f g => post r (v, f, g)) R29 x1 x2 x3 x4 x6 v f g) : mG p l e (mRm 2 53) s m args below meth c A D cI cJ cZ a 8 (MQ below (va_Qi post (mB D cI cJ cZ a) A) args s 0 0 A) 113 [(0, .ref (a 0)), (1, .int x1), (2, .int x2), (3, .int x3), (4, .int x4), (6, .int x6)] [] v f g := by
  unfold r_isNearAt_113 at h
  refine mg_iconst C (x := nI 0) rfl dX12_isNearAt_113 ?_
  exact mg_sub [0, 1, 2, 3, 4, 5] rfl (sb_isNearAt_114 C hR29 x1 x2 x3 x4 x6 ((nI 0)) v f g h)
set_option maxRecDepth 20000 in
theorem sb_isNearAt_62 (C : mC p s m args meth c cX12_isNearAt 8 (some .boolean) A D cI cJ cZ) {post : Int32 → mS → Prop} {R29 : Int32 → Int32 → Int32 → Int32 → Int32 → Int32 → (Nat → Int32) → (Nat → Nat → Int32) → (Nat → Nat → Int64) → Prop} (hR29 : ∀ (x1 : Int32) (x2 : Int32) (x3 : Int32) (x4 : Int32) (x5 : Int32) (x6 : Int32) (v : Nat → Int32) (f : Nat → Nat → Int32) (g : Nat → Nat → Int64), R29 x1 x2 x3 x4 x5 x6 v f g → mG p l e (mRm 2 53) s m args below meth c A D cI cJ cZ a 8 (MQ below (va_Qi post (mB D cI cJ cZ a) A) args s 0 0 A) 29 [(0, .ref (a 0)), (1, .int x1), (2, .int x2), (3, .int x3), (4, .int x4), (5, .int x5), (6, .int x6)] [] v f g) (x1 : Int32) (x2 : Int32) (x3 : Int32) (x4 : Int32) (x5 : Int32) (x6 : Int32) (t0 : Int32) (v : Nat → Int32) (f : Nat → Nat → Int32) (g : Nat → Nat → Int64) (h : r_isNearAt_62 (fun r v f g => post r (v, f, g)) R29 x1 x2 x3 x4 x5 x6 t0 v f g) : mG p l e (mRm 2 53) s m args below meth c A D cI cJ cZ a 8 (MQ below (va_Qi post (mB D cI cJ cZ a) A) args s 0 0 A) 62 [(0, .ref (a 0)), (1, .int x1), (2, .int x2), (3, .int x3), (4, .int x4), (5, .int x5), (6, .int x6)] [.int t0] v f g := by
  unfold r_isNearAt_62 at h
  refine mg_istore C (lv' := [(7, .int t0), (0, .ref (a 0)), (1, .int x1), (2, .int x2), (3, .int x3), (4, .int x4), (5, .int x5), (6, .int x6)]) (Nat.le_of_ble_eq_true rfl) rfl dX12_isNearAt_62 ?_
  refine mg_iload C 6 rfl dX12_isNearAt_64 ?_
  refine mg_if_ne C 109 (by decide) dX12_isNearAt_66 (fun c_ => ?_) (fun c_ => ?_)
  · have h := h.1 c_
    refine mg_iconst C (x := nI 1) rfl dX12_isNearAt_109 ?_
    refine mg_goto C 114 (by decide) dX12_isNearAt_110 ?_
    exact mg_sub [1, 2, 3, 4, 5, 7] rfl (sb_isNearAt_114 C hR29 x1 x2 x3 x4 x6 ((nI 1)) v f g h)
  · have h := h.2 c_
    refine mg_iload C 0 rfl dX12_isNearAt_69 ?_
    refine mg_iconst C (x := nI 1) rfl dX12_isNearAt_71 ?_
    refine mg_icmp_lt C 113 (by decide) dX12_isNearAt_72 (fun c_ => ?_) (fun c_ => ?_)
    · have h := h.1 c_
      exact mg_sub [1, 2, 3, 4, 5, 7] rfl (sb_isNearAt_113 C hR29 x1 x2 x3 x4 x6 v f g h)
    · have h := h.2 c_
      refine mg_iload C 0 rfl dX12_isNearAt_75 ?_
      refine mg_aload_n C (i := 0) rfl 1 rfl dX12_isNearAt_77 ?_
      refine mg_arr C 42 (by decide) (by decide) rfl mL_amounts rfl dX12_isNearAt_78 ?_
      refine mg_iload_n C (i := 2) rfl 3 rfl dX12_isNearAt_81 ?_
      obtain ⟨hc_82, h⟩ := h
      refine mg_ialoadR C (n := 1968) 42 (by decide) (by decide) rfl rfl hc_82 dX12_isNearAt_82 ?_
      refine mg_icmp_gt C 113 (by decide) dX12_isNearAt_83 (fun c_ => ?_) (fun c_ => ?_)
      · have h := h.1 c_
        exact mg_sub [1, 2, 3, 4, 5, 7] rfl (sb_isNearAt_113 C hR29 x1 x2 x3 x4 x6 v f g h)
      · have h := h.2 c_
        refine mg_aload_n C (i := 0) rfl 1 rfl dX12_isNearAt_86 ?_
        refine mg_iload_n C (i := 1) rfl 2 rfl dX12_isNearAt_87 ?_
        refine mg_iload C 5 rfl dX12_isNearAt_88 ?_
        refine mg_iload C 7 rfl dX12_isNearAt_90 ?_
        refine mg_aload_n C (i := 0) rfl 1 rfl dX12_isNearAt_92 ?_
        refine mg_arr C 45 (by decide) (by decide) rfl mL_leafTokens rfl dX12_isNearAt_93 ?_
        refine mg_bipush C (x := nI 6) rfl dX12_isNearAt_96 ?_
        refine mg_iload_n C (i := 2) rfl 3 rfl dX12_isNearAt_98 ?_
        refine mg_imul C dX12_isNearAt_99 ?_
        refine mg_iconst C (x := nI 1) rfl dX12_isNearAt_100 ?_
        refine mg_iadd C dX12_isNearAt_101 ?_
        obtain ⟨hc_102, h⟩ := h
        refine mg_laloadR C (n := 11808) 45 (by decide) (by decide) rfl rfl hc_102 dX12_isNearAt_102 ?_
        refine mg_calliW C (s_hasAt l x1 x4 x6 (g 45 ((((((nI 6)) * x2)) + ((nI 1)))).toNatClampNeg) v f g h) mCal_hasAt rfl ⟨by decide, by decide⟩ rfl (Nat.le_of_ble_eq_true rfl) dX12_isNearAt_103 (fun r_3 v_3 f_3 g_3 h => ?_)
        refine mg_if_eq C 113 (by decide) dX12_isNearAt_106 (fun c_ => ?_) (fun c_ => ?_)
        · have h := h.1 c_
          exact mg_sub [1, 2, 3, 4, 5, 7] rfl (sb_isNearAt_113 C hR29 x1 x2 x3 x4 x6 v_3 f_3 g_3 h)
        · have h := h.2 c_
          refine mg_iconst C (x := nI 1) rfl dX12_isNearAt_109 ?_
          refine mg_goto C 114 (by decide) dX12_isNearAt_110 ?_
          exact mg_sub [1, 2, 3, 4, 5, 7] rfl (sb_isNearAt_114 C hR29 x1 x2 x3 x4 x6 ((nI 1)) v_3 f_3 g_3 h)
set_option maxRecDepth 20000 in
theorem sb_isNearAt_29 (C : mC p s m args meth c cX12_isNearAt 8 (some .boolean) A D cI cJ cZ) {post : Int32 → mS → Prop} {R29 : Int32 → Int32 → Int32 → Int32 → Int32 → Int32 → (Nat → Int32) → (Nat → Nat → Int32) → (Nat → Nat → Int64) → Prop} (hR29 : ∀ (x1 : Int32) (x2 : Int32) (x3 : Int32) (x4 : Int32) (x5 : Int32) (x6 : Int32) (v : Nat → Int32) (f : Nat → Nat → Int32) (g : Nat → Nat → Int64), R29 x1 x2 x3 x4 x5 x6 v f g → mG p l e (mRm 2 53) s m args below meth c A D cI cJ cZ a 8 (MQ below (va_Qi post (mB D cI cJ cZ a) A) args s 0 0 A) 29 [(0, .ref (a 0)), (1, .int x1), (2, .int x2), (3, .int x3), (4, .int x4), (5, .int x5), (6, .int x6)] [] v f g) (x1 : Int32) (x2 : Int32) (x3 : Int32) (x4 : Int32) (x5 : Int32) (x6 : Int32) (v : Nat → Int32) (f : Nat → Nat → Int32) (g : Nat → Nat → Int64) (h : r_isNearAt_29 (fun r v f g => post r (v, f, g)) R29 x1 x2 x3 x4 x5 x6 v f g) : mG p l e (mRm 2 53) s m args below meth c A D cI cJ cZ a 8 (MQ below (va_Qi post (mB D cI cJ cZ a) A) args s 0 0 A) 29 [(0, .ref (a 0)), (1, .int x1), (2, .int x2), (3, .int x3), (4, .int x4), (5, .int x5), (6, .int x6)] [] v f g := by
  unfold r_isNearAt_29 at h
  refine mg_iload C 6 rfl dX12_isNearAt_29 ?_
  refine mg_aload_n C (i := 0) rfl 0 rfl dX12_isNearAt_31 ?_
  refine mg_arr C 18 (by decide) (by decide) rfl mL_places rfl dX12_isNearAt_32 ?_
  refine mg_iconst C (x := nI 2) rfl dX12_isNearAt_35 ?_
  refine mg_iload_n C (i := 1) rfl 1 rfl dX12_isNearAt_36 ?_
  refine mg_imul C dX12_isNearAt_37 ?_
  refine mg_iload C 4 rfl dX12_isNearAt_38 ?_
  refine mg_iadd C dX12_isNearAt_40 ?_
  obtain ⟨hc_41, h⟩ := h
  refine mg_ialoadR C (n := 4848) 18 (by decide) (by decide) rfl rfl hc_41 dX12_isNearAt_41 ?_
  refine mg_icmp_ge C 122 (by decide) dX12_isNearAt_42 (fun c_ => ?_) (fun c_ => ?_)
  · have h := h.1 c_
    refine mg_iload C 5 rfl dX12_isNearAt_122 ?_
    obtain ⟨hc_124, h⟩ := h
    exact mg_zret C (isZ_nar hc_124) h dX12_isNearAt_124
  · have h := h.2 c_
    refine mg_iload C 6 rfl dX12_isNearAt_45 ?_
    refine mg_iload_n C (i := 3) rfl 3 rfl dX12_isNearAt_47 ?_
    refine mg_icmp_le C 58 (by decide) dX12_isNearAt_48 (fun c_ => ?_) (fun c_ => ?_)
    · have h := h.1 c_
      refine mg_iload_n C (i := 3) rfl 3 rfl dX12_isNearAt_58 ?_
      refine mg_iload C 6 rfl dX12_isNearAt_59 ?_
      refine mg_isub C dX12_isNearAt_61 ?_
      exact mg_sub [0, 1, 2, 3, 4, 5, 6] rfl (sb_isNearAt_62 C hR29 x1 x2 x3 x4 x5 x6 ((x3 - x6)) v f g h)
    · have h := h.2 c_
      refine mg_iload C 6 rfl dX12_isNearAt_51 ?_
      refine mg_iload_n C (i := 3) rfl 3 rfl dX12_isNearAt_53 ?_
      refine mg_isub C dX12_isNearAt_54 ?_
      refine mg_goto C 62 (by decide) dX12_isNearAt_55 ?_
      exact mg_sub [0, 1, 2, 3, 4, 5, 6] rfl (sb_isNearAt_62 C hR29 x1 x2 x3 x4 x5 x6 ((x6 - x3)) v f g h)
set_option maxRecDepth 20000 in
theorem sl_isNearAt_29 (C : mC p s m args meth c cX12_isNearAt 8 (some .boolean) A D cI cJ cZ) {post : Int32 → mS → Prop}   (x1 : Int32) (x2 : Int32) (x3 : Int32) (x4 : Int32) (x5 : Int32) (x6 : Int32) (v : Nat → Int32) (f : Nat → Nat → Int32) (g : Nat → Nat → Int64) (h : r_isNearAt_29L (fun r v f g => post r (v, f, g))  x1 x2 x3 x4 x5 x6 v f g) : mG p l e (mRm 2 53) s m args below meth c A D cI cJ cZ a 8 (MQ below (va_Qi post (mB D cI cJ cZ a) A) args s 0 0 A) 29 [(0, .ref (a 0)), (1, .int x1), (2, .int x2), (3, .int x3), (4, .int x4), (5, .int x5), (6, .int x6)] [] v f g :=
  h (fun y => mG p l e (mRm 2 53) s m args below meth c A D cI cJ cZ a 8 (MQ below (va_Qi post (mB D cI cJ cZ a) A) args s 0 0 A) 29 [(0, .ref (a 0)), (1, .int (y.1)), (2, .int (y.2.1)), (3, .int (y.2.2.1)), (4, .int (y.2.2.2.1)), (5, .int (y.2.2.2.2.1)), (6, .int (y.2.2.2.2.2.1))] [] (y.2.2.2.2.2.2.1) (y.2.2.2.2.2.2.2.1) (y.2.2.2.2.2.2.2.2)) (fun y hy => sb_isNearAt_29 C  (fun b0 b1 b2 b3 b4 b5 v f g z => z) (y.1) (y.2.1) (y.2.2.1) (y.2.2.2.1) (y.2.2.2.2.1) (y.2.2.2.2.2.1) (y.2.2.2.2.2.2.1) (y.2.2.2.2.2.2.2.1) (y.2.2.2.2.2.2.2.2) hy)
set_option maxRecDepth 20000 in
theorem sb_isNearAt_27 (C : mC p s m args meth c cX12_isNearAt 8 (some .boolean) A D cI cJ cZ) {post : Int32 → mS → Prop}   (x1 : Int32) (x2 : Int32) (x3 : Int32) (x4 : Int32) (x5 : Int32) (t0 : Int32) (v : Nat → Int32) (f : Nat → Nat → Int32) (g : Nat → Nat → Int64) (h : r_isNearAt_27 (fun r v f g => post r (v, f, g))  x1 x2 x3 x4 x5 t0 v f g) : mG p l e (mRm 2 53) s m args below meth c A D cI cJ cZ a 8 (MQ below (va_Qi post (mB D cI cJ cZ a) A) args s 0 0 A) 27 [(0, .ref (a 0)), (1, .int x1), (2, .int x2), (3, .int x3), (4, .int x4), (5, .int x5)] [.int t0] v f g := by
  unfold r_isNearAt_27 at h
  refine mg_istore C (lv' := [(6, .int t0), (0, .ref (a 0)), (1, .int x1), (2, .int x2), (3, .int x3), (4, .int x4), (5, .int x5)]) (Nat.le_of_ble_eq_true rfl) rfl dX12_isNearAt_27 ?_
  exact mg_sub [1, 2, 3, 4, 5, 6, 0] rfl (sl_isNearAt_29 C  x1 x2 x3 x4 x5 t0 v f g h)
end S_isNearAt
set_option maxHeartbeats 1000000 in
set_option maxRecDepth 20000 in
theorem s_isNearAt (l : Launch) (x1 : Int32) (x2 : Int32) (x3 : Int32) (v : Nat → Int32) (f : Nat → Nat → Int32) (g : Nat → Nat → Int64) {P : Int32 → (Nat → Int32) → (Nat → Nat → Int32) → (Nat → Nat → Int64) → Prop} (h : r_isNearAt P x1 x2 x3 v f g) : mMi l yX12_isNearAt cX12_isNearAt 8 (some .boolean) 2 53 false [.int x1, .int x2, .int x3] v f g (fun r w => P r w.1 w.2.1 w.2.2) := by
  intro D cI cJ cZ a sz
  refine mg_body (by decide +kernel) rfl (Nat.le_of_ble_eq_true rfl) ?_
  intro p e s m args below meth c hsz C
  clear hsz
  generalize va_A (mW cI cJ cZ a v f g) sz = A at C ⊢
  refine mg_lv (lv' := [(0, .ref (a 0)), (1, .int x1), (2, .int x2), (3, .int x3)]) rfl ?_
  unfold r_isNearAt at h
  refine mg_aload_n C (i := 0) rfl 0 rfl dX12_isNearAt_0 ?_
  refine mg_arr C 41 (by decide) (by decide) rfl mL_fields rfl dX12_isNearAt_1 ?_
  refine mg_iload_n C (i := 2) rfl 2 rfl dX12_isNearAt_4 ?_
  obtain ⟨hc_5, h⟩ := h
  refine mg_ialoadR C (n := 1968) 41 (by decide) (by decide) rfl rfl hc_5 dX12_isNearAt_5 ?_
  refine mg_nmI (fun x4_1 e_x4_1 => ?_)
  have h := h x4_1 e_x4_1
  refine mg_istore C (lv' := [(4, .int x4_1), (0, .ref (a 0)), (1, .int x1), (2, .int x2), (3, .int x3)]) (Nat.le_of_ble_eq_true rfl) rfl dX12_isNearAt_6 ?_
  refine mg_iconst C (x := nI 0) rfl dX12_isNearAt_8 ?_
  refine mg_istore C (lv' := [(5, .int ((nI 0))), (4, .int x4_1), (0, .ref (a 0)), (1, .int x1), (2, .int x2), (3, .int x3)]) (Nat.le_of_ble_eq_true rfl) rfl dX12_isNearAt_9 ?_
  refine mg_aload_n C (i := 0) rfl 2 rfl dX12_isNearAt_11 ?_
  refine mg_arr C 43 (by decide) (by decide) rfl mL_ordered rfl dX12_isNearAt_12 ?_
  refine mg_iload_n C (i := 2) rfl 4 rfl dX12_isNearAt_15 ?_
  obtain ⟨hc_16, h⟩ := h
  refine mg_baloadR C (n := 1968) 43 (by decide) (by decide) rfl rfl hc_16 dX12_isNearAt_16 ?_
  refine mg_if_eq C 26 (by decide) dX12_isNearAt_17 (fun c_ => ?_) (fun c_ => ?_)
  · have h := h.1 c_
    refine mg_iconst C (x := nI 0) rfl dX12_isNearAt_26 ?_
    exact mg_sub [2, 3, 4, 5, 1, 0] rfl (sb_isNearAt_27 C  x1 x2 x3 x4_1 (((nI 0))) ((nI 0)) v f g h)
  · have h := h.2 c_
    refine mg_iload_n C (i := 3) rfl 5 rfl dX12_isNearAt_20 ?_
    refine mg_iconst C (x := nI 1) rfl dX12_isNearAt_21 ?_
    refine mg_iadd C dX12_isNearAt_22 ?_
    refine mg_goto C 27 (by decide) dX12_isNearAt_23 ?_
    exact mg_sub [2, 3, 4, 5, 1, 0] rfl (sb_isNearAt_27 C  x1 x2 x3 x4_1 (((nI 0))) ((x3 + ((nI 1)))) v f g h)
