/-! the reference's methods as predicates, and their contracts -/
def r_marks_138 (Q : Int32 → (Nat → Int32) → (Nat → Nat → Int32) → (Nat → Nat → Int64) → Prop) (R13 : Int32 → Int32 → Int32 → Int32 → Int32 → (Nat → Int32) → (Nat → Nat → Int32) → (Nat → Nat → Int64) → Prop) (x1 : Int32) (x2 : Int32) (x3 : Int32) (x5 : Int32) (t0 : Int32) (t1 : Int32) (v : Nat → Int32) (f : Nat → Nat → Int32) (g : Nat → Nat → Int64) : Prop :=
∀ x4_3 : Int32, x4_3 = (t1 ||| t0) → ∀ x5_4 : Int32, x5_4 = x5 + nI 1 → R13 x1 x2 x3 x4_3 x5_4 v f g
def r_marks_121 (Q : Int32 → (Nat → Int32) → (Nat → Nat → Int32) → (Nat → Nat → Int64) → Prop) (R13 : Int32 → Int32 → Int32 → Int32 → Int32 → (Nat → Int32) → (Nat → Nat → Int32) → (Nat → Nat → Int64) → Prop) (x1 : Int32) (x2 : Int32) (x3 : Int32) (x4 : Int32) (x5 : Int32) (t0 : Int32) (v : Nat → Int32) (f : Nat → Nat → Int32) (g : Nat → Nat → Int64) : Prop :=
((t0 = 0 →
  r_marks_138 Q R13 x1 x2 x3 x5 ((nI 0)) x4 v f g) ∧
 (¬ t0 = 0 →
  r_marks_138 Q R13 x1 x2 x3 x5 ((((nI 1)) <<< (x5 &&& 31))) x4 v f g))
def r_marks_120 (Q : Int32 → (Nat → Int32) → (Nat → Nat → Int32) → (Nat → Nat → Int64) → Prop) (R13 : Int32 → Int32 → Int32 → Int32 → Int32 → (Nat → Int32) → (Nat → Nat → Int32) → (Nat → Nat → Int64) → Prop) (x1 : Int32) (x2 : Int32) (x3 : Int32) (x4 : Int32) (x5 : Int32) (v : Nat → Int32) (f : Nat → Nat → Int32) (g : Nat → Nat → Int64) : Prop :=
r_marks_121 Q R13 x1 x2 x3 x4 x5 ((nI 0)) v f g
def r_marks_95 (Q : Int32 → (Nat → Int32) → (Nat → Nat → Int32) → (Nat → Nat → Int64) → Prop) (R13 : Int32 → Int32 → Int32 → Int32 → Int32 → (Nat → Int32) → (Nat → Nat → Int32) → (Nat → Nat → Int64) → Prop) (x1 : Int32) (x2 : Int32) (x3 : Int32) (x4 : Int32) (x5 : Int32) (v : Nat → Int32) (f : Nat → Nat → Int32) (g : Nat → Nat → Int64) : Prop :=
vp_in x2 1968 ∧ (((¬ ((f 40 (x2).toNatClampNeg)) = ((nI 2)) →
  r_marks_121 Q R13 x1 x2 x3 x4 x5 ((nI 1)) v f g) ∧
 (((f 40 (x2).toNatClampNeg)) = ((nI 2)) →
  r_isNearAt (fun r_5 v_5 f_5 g_5 => 
  ((r_5 = 0 →
    r_marks_120 Q R13 x1 x2 x3 x4 x5 v_5 f_5 g_5) ∧
   (¬ r_5 = 0 →
    r_marks_121 Q R13 x1 x2 x3 x4 x5 ((nI 1)) v_5 f_5 g_5))) x1 x2 x5 v f g)))
def r_marks_67 (Q : Int32 → (Nat → Int32) → (Nat → Nat → Int32) → (Nat → Nat → Int64) → Prop) (R13 : Int32 → Int32 → Int32 → Int32 → Int32 → (Nat → Int32) → (Nat → Nat → Int32) → (Nat → Nat → Int64) → Prop) (x1 : Int32) (x2 : Int32) (x3 : Int32) (x4 : Int32) (x5 : Int32) (t0 : Int32) (v : Nat → Int32) (f : Nat → Nat → Int32) (g : Nat → Nat → Int64) : Prop :=
((t0 = 0 →
  r_marks_120 Q R13 x1 x2 x3 x4 x5 v f g) ∧
 (¬ t0 = 0 →
  vp_in x2 1968 ∧ (((¬ ((f 40 (x2).toNatClampNeg)) = ((nI 1)) →
    r_marks_95 Q R13 x1 x2 x3 x4 x5 v f g) ∧
   (((f 40 (x2).toNatClampNeg)) = ((nI 1)) →
    r_isPhraseAt (fun r_6 v_6 f_6 g_6 => 
    ((r_6 = 0 →
      r_marks_120 Q R13 x1 x2 x3 x4 x5 v_6 f_6 g_6) ∧
     (¬ r_6 = 0 →
      r_marks_95 Q R13 x1 x2 x3 x4 x5 v_6 f_6 g_6))) x1 x2 x5 v f g)))))
def r_marks_13 (Q : Int32 → (Nat → Int32) → (Nat → Nat → Int32) → (Nat → Nat → Int64) → Prop) (R13 : Int32 → Int32 → Int32 → Int32 → Int32 → (Nat → Int32) → (Nat → Nat → Int32) → (Nat → Nat → Int64) → Prop) (x1 : Int32) (x2 : Int32) (x3 : Int32) (x4 : Int32) (x5 : Int32) (v : Nat → Int32) (f : Nat → Nat → Int32) (g : Nat → Nat → Int64) : Prop :=
vp_in ((((((nI 2)) * x1)) + x3)) 4848 ∧ (((((f 18 ((((((nI 2)) * x1)) + x3)).toNatClampNeg)) ≤ x5 →
  Q x4 v f g) ∧
 (¬ ((f 18 ((((((nI 2)) * x1)) + x3)).toNatClampNeg)) ≤ x5 →
  vp_in x2 1968 ∧ (((((f 40 (x2).toNatClampNeg)) < ((nI 3)) →
    vp_in ((((nI 6)) * x2)) 11808 ∧ (r_hasAt (fun r_2 v_2 f_2 g_2 => 
    r_marks_67 Q R13 x1 x2 x3 x4 x5 r_2 v_2 f_2 g_2) x1 x3 x5 (g 45 ((((nI 6)) * x2)).toNatClampNeg) v f g)) ∧
   (¬ ((f 40 (x2).toNatClampNeg)) < ((nI 3)) →
    r_fitsAt (fun r_7 v_7 f_7 g_7 => 
    r_marks_67 Q R13 x1 x2 x3 x4 x5 r_7 v_7 f_7 g_7) x1 x3 x5 x2 v f g))))))
def r_marks_13L (Q : Int32 → (Nat → Int32) → (Nat → Nat → Int32) → (Nat → Nat → Int64) → Prop)  (x1 : Int32) (x2 : Int32) (x3 : Int32) (x4 : Int32) (x5 : Int32) (v : Nat → Int32) (f : Nat → Nat → Int32) (g : Nat → Nat → Int64) : Prop :=
  lfp (X := Int32 × Int32 × Int32 × Int32 × Int32 × (Nat → Int32) × (Nat → Nat → Int32) × (Nat → Nat → Int64)) (fun P y => r_marks_13 Q  (fun b0 b1 b2 b3 b4 v f g => P (b0, b1, b2, b3, b4, v, f, g)) y.1 y.2.1 y.2.2.1 y.2.2.2.1 y.2.2.2.2.1 y.2.2.2.2.2.1 y.2.2.2.2.2.2.1 y.2.2.2.2.2.2.2) (x1, x2, x3, x4, x5, v, f, g)
def r_marks (Q : Int32 → (Nat → Int32) → (Nat → Nat → Int32) → (Nat → Nat → Int64) → Prop) (x1 : Int32) (x2 : Int32) (v : Nat → Int32) (f : Nat → Nat → Int32) (g : Nat → Nat → Int64) : Prop :=
vp_in x2 1968 ∧ (∀ x3_1 : Int32, x3_1 = (f 41 (x2).toNatClampNeg) → r_marks_13L Q  x1 x2 x3_1 (((nI 0))) (((nI 0))) v f g)
section S_marks
variable {p : Program} {l : Launch} {e : Env} {s : State} {m : MethodId} {args : Array Value} {below : List Frame} {meth : Method} {c : Code} {A : Nat → Prop} {D : va_G} {cI cJ cZ : ClassId} {a : Nat → Nat}
set_option maxRecDepth 20000 in
theorem sb_marks_138 (C : mC p s m args meth c cX12_marks 7 (some .int) A D cI cJ cZ) {post : Int32 → mS → Prop} {R13 : Int32 → Int32 → Int32 → Int32 → Int32 → (Nat → Int32) → (Nat → Nat → Int32) → (Nat → Nat → Int64) → Prop} (hR13 : ∀ (x1 : Int32) (x2 : Int32) (x3 : Int32) (x4 : Int32) (x5 : Int32) (v : Nat → Int32) (f : Nat → Nat → Int32) (g : Nat → Nat → Int64), R13 x1 x2 x3 x4 x5 v f g → mG p l e (mRm 5 128) s m args below meth c A D cI cJ cZ a 7 (MQ below (va_Qi post (mB D cI cJ cZ a) A) args s 0 0 A) 13 [(0, .ref (a 0)), (1, .int x1), (2, .int x2), (3, .int x3), (4, .int x4), (5, .int x5)] [] v f g) (x1 : Int32) (x2 : Int32) (x3 : Int32) (x5 : Int32) (t0 : Int32) (t1 : Int32) (v : Nat → Int32) (f : Nat → Nat → Int32) (g : Nat → Nat → Int64) (h : r_marks_138 (fun r v f g => post r (v, f, g)) R13 x1 x2 x3 x5 t0 t1 v f g) : mG p l e (mRm 5 128) s m args below meth c A D cI cJ cZ a 7 (MQ below (va_Qi post (mB D cI cJ cZ a) A) args s 0 0 A) 138 [(0, .ref (a 0)), (1, .int x1), (2, .int x2), (3, .int x3), (5, .int x5)] [.int t0, .int t1] v f g := by
  unfold r_marks_138 at h
  refine mg_ior C dX12_marks_138 ?_
  refine mg_nmI (fun x4_3 e_x4_3 => ?_)
  have h := h x4_3 e_x4_3
  refine mg_istore C (lv' := [(4, .int x4_3), (0, .ref (a 0)), (1, .int x1), (2, .int x2), (3, .int x3), (5, .int x5)]) (Nat.le_of_ble_eq_true rfl) rfl dX12_marks_139 ?_
  obtain ⟨x5_4, e_x5_4⟩ : ∃ z : Int32, z = x5 + nI 1 := ⟨_, rfl⟩
  have h := h x5_4 e_x5_4
  refine mg_iinc C (lv' := [(5, .int x5_4), (4, .int x4_3), (0, .ref (a 0)), (1, .int x1), (2, .int x2), (3, .int x3)]) 5 rfl (by rw [e_x5_4]; rfl) (Nat.le_of_ble_eq_true rfl) rfl dX12_marks_141 ?_
  refine mg_goto C 13 (by decide) dX12_marks_144 ?_
  exact mg_sub [2, 3, 4, 5, 1, 0] rfl (hR13 x1 x2 x3 x4_3 x5_4 v f g h)
set_option maxRecDepth 20000 in
theorem sb_marks_121 (C : mC p s m args meth c cX12_marks 7 (some .int) A D cI cJ cZ) {post : Int32 → mS → Prop} {R13 : Int32 → Int32 → Int32 → Int32 → Int32 → (Nat → Int32) → (Nat → Nat → Int32) → (Nat → Nat → Int64) → Prop} (hR13 : ∀ (x1 : Int32) (x2 : Int32) (x3 : Int32) (x4 : Int32) (x5 : Int32) (v : Nat → Int32) (f : Nat → Nat → Int32) (g : Nat → Nat → Int64), R13 x1 x2 x3 x4 x5 v f g → mG p l e (mRm 5 128) s m args below meth c A D cI cJ cZ a 7 (MQ below (va_Qi post (mB D cI cJ cZ a) A) args s 0 0 A) 13 [(0, .ref (a 0)), (1, .int x1), (2, .int x2), (3, .int x3), (4, .int x4), (5, .int x5)] [] v f g) (x1 : Int32) (x2 : Int32) (x3 : Int32) (x4 : Int32) (x5 : Int32) (t0 : Int32) (v : Nat → Int32) (f : Nat → Nat → Int32) (g : Nat → Nat → Int64) (h : r_marks_121 (fun r v f g => post r (v, f, g)) R13 x1 x2 x3 x4 x5 t0 v f g) : mG p l e (mRm 5 128) s m args below meth c A D cI cJ cZ a 7 (MQ below (va_Qi post (mB D cI cJ cZ a) A) args s 0 0 A) 121 [(0, .ref (a 0)), (1, .int x1), (2, .int x2), (3, .int x3), (4, .int x4), (5, .int x5)] [.int t0] v f g := by
  unfold r_marks_121 at h
  refine mg_istore C (lv' := [(6, .int t0), (0, .ref (a 0)), (1, .int x1), (2, .int x2), (3, .int x3), (4, .int x4), (5, .int x5)]) (Nat.le_of_ble_eq_true rfl) rfl dX12_marks_121 ?_
  refine mg_iload C 5 rfl dX12_marks_123 ?_
  refine mg_iload C 0 rfl dX12_marks_125 ?_
  refine mg_if_eq C 137 (by decide) dX12_marks_127 (fun c_ => ?_) (fun c_ => ?_)
  · have h := h.1 c_
    refine mg_iconst C (x := nI 0) rfl dX12_marks_137 ?_
    exact mg_sub [1, 2, 3, 4, 6] rfl (sb_marks_138 C hR13 x1 x2 x3 x5 ((nI 0)) x4 v f g h)
  · have h := h.2 c_
    refine mg_iconst C (x := nI 1) rfl dX12_marks_130 ?_
    refine mg_iload C 6 rfl dX12_marks_131 ?_
    refine mg_ishl C dX12_marks_133 ?_
    refine mg_goto C 138 (by decide) dX12_marks_134 ?_
    exact mg_sub [1, 2, 3, 4, 6] rfl (sb_marks_138 C hR13 x1 x2 x3 x5 ((((nI 1)) <<< (x5 &&& 31))) x4 v f g h)
set_option maxRecDepth 20000 in
theorem sb_marks_120 (C : mC p s m args meth c cX12_marks 7 (some .int) A D cI cJ cZ) {post : Int32 → mS → Prop} {R13 : Int32 → Int32 → Int32 → Int32 → Int32 → (Nat → Int32) → (Nat → Nat → Int32) → (Nat → Nat → Int64) → Prop} (hR13 : ∀ (x1 : Int32) (x2 : Int32) (x3 : Int32) (x4 : Int32) (x5 : Int32) (v : Nat → Int32) (f : Nat → Nat → Int32) (g : Nat → Nat → Int64), R13 x1 x2 x3 x4 x5 v f g → mG p l e (mRm 5 128) s m args below meth c A D cI cJ cZ a 7 (MQ below (va_Qi post (mB D cI cJ cZ a) A) args s 0 0 A) 13 [(0, .ref (a 0)), (1, .int x1), (2, .int x2), (3, .int x3), (4, .int x4), (5, .int x5)] [] v f g) (x1 : Int32) (x2 : Int32) (x3 : Int32) (x4 : Int32) (x5 : Int32) (v : Nat → Int32) (f : Nat → Nat → Int32) (g : Nat → Nat → Int64) (h : r_marks_120 (fun r v f g => post r (v, f, g)) R13 x1 x2 x3 x4 x5 v f g) : mG p l e (mRm 5 128) s m args below meth c A D cI cJ cZ a 7 (MQ below (va_Qi post (mB D cI cJ cZ a) A) args s 0 0 A) 120 [(0, .ref (a 0)), (1, .int x1), (2, .int x2), (3, .int x3), (4, .int x4), (5, .int x5)] [] v f g := by
  unfold r_marks_120 at h
  refine mg_iconst C (x := nI 0) rfl dX12_marks_120 ?_
  exact mg_sub [0, 1, 2, 3, 4, 5] rfl (sb_marks_121 C hR13 x1 x2 x3 x4 x5 ((nI 0)) v f g h)
set_option maxRecDepth 20000 in
theorem sb_marks_95 (C : mC p s m args meth c cX12_marks 7 (some .int) A D cI cJ cZ) {post : Int32 → mS → Prop} {R13 : Int32 → Int32 → Int32 → Int32 → Int32 → (Nat → Int32) → (Nat → Nat → Int32) → (Nat → Nat → Int64) → Prop} (hR13 : ∀ (x1 : Int32) (x2 : Int32) (x3 : Int32) (x4 : Int32) (x5 : Int32) (v : Nat → Int32) (f : Nat → Nat → Int32) (g : Nat → Nat → Int64), R13 x1 x2 x3 x4 x5 v f g → mG p l e (mRm 5 128) s m args below meth c A D cI cJ cZ a 7 (MQ below (va_Qi post (mB D cI cJ cZ a) A) args s 0 0 A) 13 [(0, .ref (a 0)), (1, .int x1), (2, .int x2), (3, .int x3), (4, .int x4), (5, .int x5)] [] v f g) (x1 : Int32) (x2 : Int32) (x3 : Int32) (x4 : Int32) (x5 : Int32) (v : Nat → Int32) (f : Nat → Nat → Int32) (g : Nat → Nat → Int64) (h : r_marks_95 (fun r v f g => post r (v, f, g)) R13 x1 x2 x3 x4 x5 v f g) : mG p l e (mRm 5 128) s m args below meth c A D cI cJ cZ a 7 (MQ below (va_Qi post (mB D cI cJ cZ a) A) args s 0 0 A) 95 [(0, .ref (a 0)), (1, .int x1), (2, .int x2), (3, .int x3), (4, .int x4), (5, .int x5)] [] v f g := by
  unfold r_marks_95 at h
  refine mg_aload_n C (i := 0) rfl 0 rfl dX12_marks_95 ?_
  refine mg_arr C 40 (by decide) (by decide) rfl mL_kinds rfl dX12_marks_96 ?_
  refine mg_iload_n C (i := 2) rfl 2 rfl dX12_marks_99 ?_
  obtain ⟨hc_100, h⟩ := h
  refine mg_ialoadR C (n := 1968) 40 (by decide) (by decide) rfl rfl hc_100 dX12_marks_100 ?_
  refine mg_iconst C (x := nI 2) rfl dX12_marks_101 ?_
  refine mg_icmp_ne C 116 (by decide) dX12_marks_102 (fun c_ => ?_) (fun c_ => ?_)
  · have h := h.1 c_
    refine mg_iconst C (x := nI 1) rfl dX12_marks_116 ?_
    refine mg_goto C 121 (by decide) dX12_marks_117 ?_
    exact mg_sub [0, 1, 2, 3, 4, 5] rfl (sb_marks_121 C hR13 x1 x2 x3 x4 x5 ((nI 1)) v f g h)
  · have h := h.2 c_
    refine mg_aload_n C (i := 0) rfl 0 rfl dX12_marks_105 ?_
    refine mg_iload_n C (i := 1) rfl 1 rfl dX12_marks_106 ?_
    refine mg_iload_n C (i := 2) rfl 2 rfl dX12_marks_107 ?_
    refine mg_iload C 5 rfl dX12_marks_108 ?_
    refine mg_calliW C (s_isNearAt l x1 x2 x5 v f g h) mCal_isNearAt rfl ⟨by decide, by decide⟩ rfl (Nat.le_of_ble_eq_true rfl) dX12_marks_110 (fun r_5 v_5 f_5 g_5 h => ?_)
    refine mg_if_eq C 120 (by decide) dX12_marks_113 (fun c_ => ?_) (fun c_ => ?_)
    · have h := h.1 c_
      exact mg_sub [0, 1, 2, 3, 4, 5] rfl (sb_marks_120 C hR13 x1 x2 x3 x4 x5 v_5 f_5 g_5 h)
    · have h := h.2 c_
      refine mg_iconst C (x := nI 1) rfl dX12_marks_116 ?_
      refine mg_goto C 121 (by decide) dX12_marks_117 ?_
      exact mg_sub [0, 1, 2, 3, 4, 5] rfl (sb_marks_121 C hR13 x1 x2 x3 x4 x5 ((nI 1)) v_5 f_5 g_5 h)
set_option maxRecDepth 20000 in
theorem sb_marks_67 (C : mC p s m args meth c cX12_marks 7 (some .int) A D cI cJ cZ) {post : Int32 → mS → Prop} {R13 : Int32 → Int32 → Int32 → Int32 → Int32 → (Nat → Int32) → (Nat → Nat → Int32) → (Nat → Nat → Int64) → Prop} (hR13 : ∀ (x1 : Int32) (x2 : Int32) (x3 : Int32) (x4 : Int32) (x5 : Int32) (v : Nat → Int32) (f : Nat → Nat → Int32) (g : Nat → Nat → Int64), R13 x1 x2 x3 x4 x5 v f g → mG p l e (mRm 5 128) s m args below meth c A D cI cJ cZ a 7 (MQ below (va_Qi post (mB D cI cJ cZ a) A) args s 0 0 A) 13 [(0, .ref (a 0)), (1, .int x1), (2, .int x2), (3, .int x3), (4, .int x4), (5, .int x5)] [] v f g) (x1 : Int32) (x2 : Int32) (x3 : Int32) (x4 : Int32) (x5 : Int32) (t0 : Int32) (v : Nat → Int32) (f : Nat → Nat → Int32) (g : Nat → Nat → Int64) (h : r_marks_67 (fun r v f g => post r (v, f, g)) R13 x1 x2 x3 x4 x5 t0 v f g) : mG p l e (mRm 5 128) s m args below meth c A D cI cJ cZ a 7 (MQ below (va_Qi post (mB D cI cJ cZ a) A) args s 0 0 A) 67 [(0, .ref (a 0)), (1, .int x1), (2, .int x2), (3, .int x3), (4, .int x4), (5, .int x5)] [.int t0] v f g := by
  unfold r_marks_67 at h
  refine mg_istore C (lv' := [(6, .int t0), (0, .ref (a 0)), (1, .int x1), (2, .int x2), (3, .int x3), (4, .int x4), (5, .int x5)]) (Nat.le_of_ble_eq_true rfl) rfl dX12_marks_67 ?_
  refine mg_iload C 0 rfl dX12_marks_69 ?_
  refine mg_if_eq C 120 (by decide) dX12_marks_71 (fun c_ => ?_) (fun c_ => ?_)
  · have h := h.1 c_
    exact mg_sub [1, 2, 3, 4, 5, 6] rfl (sb_marks_120 C hR13 x1 x2 x3 x4 x5 v f g h)
  · have h := h.2 c_
    refine mg_aload_n C (i := 0) rfl 1 rfl dX12_marks_74 ?_
    refine mg_arr C 40 (by decide) (by decide) rfl mL_kinds rfl dX12_marks_75 ?_
    refine mg_iload_n C (i := 2) rfl 3 rfl dX12_marks_78 ?_
    obtain ⟨hc_79, h⟩ := h
    refine mg_ialoadR C (n := 1968) 40 (by decide) (by decide) rfl rfl hc_79 dX12_marks_79 ?_
    refine mg_iconst C (x := nI 1) rfl dX12_marks_80 ?_
    refine mg_icmp_ne C 95 (by decide) dX12_marks_81 (fun c_ => ?_) (fun c_ => ?_)
    · have h := h.1 c_
      exact mg_sub [1, 2, 3, 4, 5, 6] rfl (sb_marks_95 C hR13 x1 x2 x3 x4 x5 v f g h)
    · have h := h.2 c_
      refine mg_aload_n C (i := 0) rfl 1 rfl dX12_marks_84 ?_
      refine mg_iload_n C (i := 1) rfl 2 rfl dX12_marks_85 ?_
      refine mg_iload_n C (i := 2) rfl 3 rfl dX12_marks_86 ?_
      refine mg_iload C 6 rfl dX12_marks_87 ?_
      refine mg_calliW C (s_isPhraseAt l x1 x2 x5 v f g h) mCal_isPhraseAt rfl ⟨by decide, by decide⟩ rfl (Nat.le_of_ble_eq_true rfl) dX12_marks_89 (fun r_6 v_6 f_6 g_6 h => ?_)
      refine mg_if_eq C 120 (by decide) dX12_marks_92 (fun c_ => ?_) (fun c_ => ?_)
      · have h := h.1 c_
        exact mg_sub [1, 2, 3, 4, 5, 6] rfl (sb_marks_120 C hR13 x1 x2 x3 x4 x5 v_6 f_6 g_6 h)
      · have h := h.2 c_
        exact mg_sub [1, 2, 3, 4, 5, 6] rfl (sb_marks_95 C hR13 x1 x2 x3 x4 x5 v_6 f_6 g_6 h)
set_option maxRecDepth 20000 in
theorem sb_marks_13 (C : mC p s m args meth c cX12_marks 7 (some .int) A D cI cJ cZ) {post : Int32 → mS → Prop} {R13 : Int32 → Int32 → Int32 → Int32 → Int32 → (Nat → Int32) → (Nat → Nat → Int32) → (Nat → Nat → Int64) → Prop} (hR13 : ∀ (x1 : Int32) (x2 : Int32) (x3 : Int32) (x4 : Int32) (x5 : Int32) (v : Nat → Int32) (f : Nat → Nat → Int32) (g : Nat → Nat → Int64), R13 x1 x2 x3 x4 x5 v f g → mG p l e (mRm 5 128) s m args below meth c A D cI cJ cZ a 7 (MQ below (va_Qi post (mB D cI cJ cZ a) A) args s 0 0 A) 13 [(0, .ref (a 0)), (1, .int x1), (2, .int x2), (3, .int x3), (4, .int x4), (5, .int x5)] [] v f g) (x1 : Int32) (x2 : Int32) (x3 : Int32) (x4 : Int32) (x5 : Int32) (v : Nat → Int32) (f : Nat → Nat → Int32) (g : Nat → Nat → Int64) (h : r_marks_13 (fun r v f g => post r (v, f, g)) R13 x1 x2 x3 x4 x5 v f g) : mG p l e (mRm 5 128) s m args below meth c A D cI cJ cZ a 7 (MQ below (va_Qi post (mB D cI cJ cZ a) A) args s 0 0 A) 13 [(0, .ref (a 0)), (1, .int x1), (2, .int x2), (3, .int x3), (4, .int x4), (5, .int x5)] [] v f g := by
  unfold r_marks_13 at h
  refine mg_iload C 5 rfl dX12_marks_13 ?_
  refine mg_aload_n C (i := 0) rfl 0 rfl dX12_marks_15 ?_
  refine mg_arr C 18 (by decide) (by decide) rfl mL_places rfl dX12_marks_16 ?_
  refine mg_iconst C (x := nI 2) rfl dX12_marks_19 ?_
  refine mg_iload_n C (i := 1) rfl 1 rfl dX12_marks_20 ?_
  refine mg_imul C dX12_marks_21 ?_
  refine mg_iload_n C (i := 3) rfl 3 rfl dX12_marks_22 ?_
  refine mg_iadd C dX12_marks_23 ?_
  obtain ⟨hc_24, h⟩ := h
  refine mg_ialoadR C (n := 4848) 18 (by decide) (by decide) rfl rfl hc_24 dX12_marks_24 ?_
  refine mg_icmp_ge C 147 (by decide) dX12_marks_25 (fun c_ => ?_) (fun c_ => ?_)
  · have h := h.1 c_
    refine mg_iload C 4 rfl dX12_marks_147 ?_
    exact mg_iret C h dX12_marks_149
  · have h := h.2 c_
    refine mg_aload_n C (i := 0) rfl 0 rfl dX12_marks_28 ?_
    refine mg_arr C 40 (by decide) (by decide) rfl mL_kinds rfl dX12_marks_29 ?_
    refine mg_iload_n C (i := 2) rfl 2 rfl dX12_marks_32 ?_
    obtain ⟨hc_33, h⟩ := h
    refine mg_ialoadR C (n := 1968) 40 (by decide) (by decide) rfl rfl hc_33 dX12_marks_33 ?_
    refine mg_iconst C (x := nI 3) rfl dX12_marks_34 ?_
    refine mg_icmp_lt C 50 (by decide) dX12_marks_35 (fun c_ => ?_) (fun c_ => ?_)
    · have h := h.1 c_
      refine mg_aload_n C (i := 0) rfl 0 rfl dX12_marks_50 ?_
      refine mg_iload_n C (i := 1) rfl 1 rfl dX12_marks_51 ?_
      refine mg_iload_n C (i := 3) rfl 3 rfl dX12_marks_52 ?_
      refine mg_iload C 5 rfl dX12_marks_53 ?_
      refine mg_aload_n C (i := 0) rfl 0 rfl dX12_marks_55 ?_
      refine mg_arr C 45 (by decide) (by decide) rfl mL_leafTokens rfl dX12_marks_56 ?_
      refine mg_bipush C (x := nI 6) rfl dX12_marks_59 ?_
      refine mg_iload_n C (i := 2) rfl 2 rfl dX12_marks_61 ?_
      refine mg_imul C dX12_marks_62 ?_
      obtain ⟨hc_63, h⟩ := h
      refine mg_laloadR C (n := 11808) 45 (by decide) (by decide) rfl rfl hc_63 dX12_marks_63 ?_
      refine mg_calliW C (s_hasAt l x1 x3 x5 (g 45 ((((nI 6)) * x2)).toNatClampNeg) v f g h) mCal_hasAt rfl ⟨by decide, by decide⟩ rfl (Nat.le_of_ble_eq_true rfl) dX12_marks_64 (fun r_2 v_2 f_2 g_2 h => ?_)
      exact mg_sub [0, 1, 2, 3, 4, 5] rfl (sb_marks_67 C hR13 x1 x2 x3 x4 x5 r_2 v_2 f_2 g_2 h)
    · have h := h.2 c_
      refine mg_aload_n C (i := 0) rfl 0 rfl dX12_marks_38 ?_
      refine mg_iload_n C (i := 1) rfl 1 rfl dX12_marks_39 ?_
      refine mg_iload_n C (i := 3) rfl 3 rfl dX12_marks_40 ?_
      refine mg_iload C 5 rfl dX12_marks_41 ?_
      refine mg_iload_n C (i := 2) rfl 2 rfl dX12_marks_43 ?_
      refine mg_calliW C (s_fitsAt l x1 x3 x5 x2 v f g h) mCal_fitsAt rfl ⟨by decide, by decide⟩ rfl (Nat.le_of_ble_eq_true rfl) dX12_marks_44 (fun r_7 v_7 f_7 g_7 h => ?_)
      refine mg_goto C 67 (by decide) dX12_marks_47 ?_
      exact mg_sub [0, 1, 2, 3, 4, 5] rfl (sb_marks_67 C hR13 x1 x2 x3 x4 x5 r_7 v_7 f_7 g_7 h)
set_option maxRecDepth 20000 in
theorem sl_marks_13 (C : mC p s m args meth c cX12_marks 7 (some .int) A D cI cJ cZ) {post : Int32 → mS → Prop}   (x1 : Int32) (x2 : Int32) (x3 : Int32) (x4 : Int32) (x5 : Int32) (v : Nat → Int32) (f : Nat → Nat → Int32) (g : Nat → Nat → Int64) (h : r_marks_13L (fun r v f g => post r (v, f, g))  x1 x2 x3 x4 x5 v f g) : mG p l e (mRm 5 128) s m args below meth c A D cI cJ cZ a 7 (MQ below (va_Qi post (mB D cI cJ cZ a) A) args s 0 0 A) 13 [(0, .ref (a 0)), (1, .int x1), (2, .int x2), (3, .int x3), (4, .int x4), (5, .int x5)] [] v f g :=
  h (fun y => mG p l e (mRm 5 128) s m args below meth c A D cI cJ cZ a 7 (MQ below (va_Qi post (mB D cI cJ cZ a) A) args s 0 0 A) 13 [(0, .ref (a 0)), (1, .int (y.1)), (2, .int (y.2.1)), (3, .int (y.2.2.1)), (4, .int (y.2.2.2.1)), (5, .int (y.2.2.2.2.1))] [] (y.2.2.2.2.2.1) (y.2.2.2.2.2.2.1) (y.2.2.2.2.2.2.2)) (fun y hy => sb_marks_13 C  (fun b0 b1 b2 b3 b4 v f g z => z) (y.1) (y.2.1) (y.2.2.1) (y.2.2.2.1) (y.2.2.2.2.1) (y.2.2.2.2.2.1) (y.2.2.2.2.2.2.1) (y.2.2.2.2.2.2.2) hy)
end S_marks
set_option maxHeartbeats 1000000 in
set_option maxRecDepth 20000 in
theorem s_marks (l : Launch) (x1 : Int32) (x2 : Int32) (v : Nat → Int32) (f : Nat → Nat → Int32) (g : Nat → Nat → Int64) {P : Int32 → (Nat → Int32) → (Nat → Nat → Int32) → (Nat → Nat → Int64) → Prop} (h : r_marks P x1 x2 v f g) : mMi l yX12_marks cX12_marks 7 (some .int) 5 128 false [.int x1, .int x2] v f g (fun r w => P r w.1 w.2.1 w.2.2) := by
  intro D cI cJ cZ a sz
  refine mg_body (by decide +kernel) rfl (Nat.le_of_ble_eq_true rfl) ?_
  intro p e s m args below meth c hsz C
  clear hsz
  generalize va_A (mW cI cJ cZ a v f g) sz = A at C ⊢
  refine mg_lv (lv' := [(0, .ref (a 0)), (1, .int x1), (2, .int x2)]) rfl ?_
  unfold r_marks at h
  refine mg_aload_n C (i := 0) rfl 0 rfl dX12_marks_0 ?_
  refine mg_arr C 41 (by decide) (by decide) rfl mL_fields rfl dX12_marks_1 ?_
  refine mg_iload_n C (i := 2) rfl 2 rfl dX12_marks_4 ?_
  obtain ⟨hc_5, h⟩ := h
  refine mg_ialoadR C (n := 1968) 41 (by decide) (by decide) rfl rfl hc_5 dX12_marks_5 ?_
  refine mg_nmI (fun x3_1 e_x3_1 => ?_)
  have h := h x3_1 e_x3_1
  refine mg_istore_n C (i := 3) (lv' := [(3, .int x3_1), (0, .ref (a 0)), (1, .int x1), (2, .int x2)]) rfl (Nat.le_of_ble_eq_true rfl) rfl dX12_marks_6 ?_
  refine mg_iconst C (x := nI 0) rfl dX12_marks_7 ?_
  refine mg_istore C (lv' := [(4, .int ((nI 0))), (3, .int x3_1), (0, .ref (a 0)), (1, .int x1), (2, .int x2)]) (Nat.le_of_ble_eq_true rfl) rfl dX12_marks_8 ?_
  refine mg_iconst C (x := nI 0) rfl dX12_marks_10 ?_
  refine mg_istore C (lv' := [(5, .int ((nI 0))), (4, .int ((nI 0))), (3, .int x3_1), (0, .ref (a 0)), (1, .int x1), (2, .int x2)]) (Nat.le_of_ble_eq_true rfl) rfl dX12_marks_11 ?_
  exact mg_sub [3, 4, 5, 2, 1, 0] rfl (sl_marks_13 C  x1 x2 x3_1 (((nI 0))) (((nI 0))) v f g h)
def r_ones_4 (Q : Int32 → (Nat → Int32) → (Nat → Nat → Int32) → (Nat → Nat → Int64) → Prop) (R4 : Int32 → Int32 → (Nat → Int32) → (Nat → Nat → Int32) → (Nat → Nat → Int64) → Prop) (x1 : Int32) (x2 : Int32) (v : Nat → Int32) (f : Nat → Nat → Int32) (g : Nat → Nat → Int64) : Prop :=
((x2 = 0 →
  Q x1 v f g) ∧
 (¬ x2 = 0 →
  ∀ x1_1 : Int32, x1_1 = x1 + nI 1 → ∀ x2_2 : Int32, x2_2 = (x2 &&& ((x2 - ((nI 1))))) → R4 x1_1 x2_2 v f g))
def r_ones_4L (Q : Int32 → (Nat → Int32) → (Nat → Nat → Int32) → (Nat → Nat → Int64) → Prop)  (x1 : Int32) (x2 : Int32) (v : Nat → Int32) (f : Nat → Nat → Int32) (g : Nat → Nat → Int64) : Prop :=
  lfp (X := Int32 × Int32 × (Nat → Int32) × (Nat → Nat → Int32) × (Nat → Nat → Int64)) (fun P y => r_ones_4 Q  (fun b0 b1 v f g => P (b0, b1, v, f, g)) y.1 y.2.1 y.2.2.1 y.2.2.2.1 y.2.2.2.2) (x1, x2, v, f, g)
def r_ones (Q : Int32 → (Nat → Int32) → (Nat → Nat → Int32) → (Nat → Nat → Int64) → Prop) (x0 : Int32) (v : Nat → Int32) (f : Nat → Nat → Int32) (g : Nat → Nat → Int64) : Prop :=
r_ones_4L Q  (((nI 0))) x0 v f g
section S_ones
variable {p : Program} {l : Launch} {e : Env} {s : State} {m : MethodId} {args : Array Value} {below : List Frame} {meth : Method} {c : Code} {A : Nat → Prop} {D : va_G} {cI cJ cZ : ClassId} {a : Nat → Nat}
set_option maxRecDepth 20000 in
theorem sb_ones_4 (C : mC p s m args meth c cX12_ones 3 (some .int) A D cI cJ cZ) {post : Int32 → mS → Prop} {R4 : Int32 → Int32 → (Nat → Int32) → (Nat → Nat → Int32) → (Nat → Nat → Int64) → Prop} (hR4 : ∀ (x1 : Int32) (x2 : Int32) (v : Nat → Int32) (f : Nat → Nat → Int32) (g : Nat → Nat → Int64), R4 x1 x2 v f g → mG p l e (mRm 0 0) s m args below meth c A D cI cJ cZ a 3 (MQ below (va_Qi post (mB D cI cJ cZ a) A) args s 0 0 A) 4 [(1, .int x1), (2, .int x2)] [] v f g) (x1 : Int32) (x2 : Int32) (v : Nat → Int32) (f : Nat → Nat → Int32) (g : Nat → Nat → Int64) (h : r_ones_4 (fun r v f g => post r (v, f, g)) R4 x1 x2 v f g) : mG p l e (mRm 0 0) s m args below meth c A D cI cJ cZ a 3 (MQ below (va_Qi post (mB D cI cJ cZ a) A) args s 0 0 A) 4 [(1, .int x1), (2, .int x2)] [] v f g := by
  unfold r_ones_4 at h
  refine mg_iload_n C (i := 2) rfl 1 rfl dX12_ones_4 ?_
  refine mg_if_eq C 20 (by decide) dX12_ones_5 (fun c_ => ?_) (fun c_ => ?_)
  · have h := h.1 c_
    refine mg_iload_n C (i := 1) rfl 0 rfl dX12_ones_20 ?_
    exact mg_iret C h dX12_ones_21
  · have h := h.2 c_
    obtain ⟨x1_1, e_x1_1⟩ : ∃ z : Int32, z = x1 + nI 1 := ⟨_, rfl⟩
    have h := h x1_1 e_x1_1
    refine mg_iinc C (lv' := [(1, .int x1_1), (2, .int x2)]) 0 rfl (by rw [e_x1_1]; rfl) (Nat.le_of_ble_eq_true rfl) rfl dX12_ones_8 ?_
    refine mg_iload_n C (i := 2) rfl 1 rfl dX12_ones_11 ?_
    refine mg_iload_n C (i := 2) rfl 1 rfl dX12_ones_12 ?_
    refine mg_iconst C (x := nI 1) rfl dX12_ones_13 ?_
    refine mg_isub C dX12_ones_14 ?_
    refine mg_iand C dX12_ones_15 ?_
    refine mg_nmI (fun x2_2 e_x2_2 => ?_)
    have h := h x2_2 e_x2_2
    refine mg_istore_n C (i := 2) (lv' := [(2, .int x2_2), (1, .int x1_1)]) rfl (Nat.le_of_ble_eq_true rfl) rfl dX12_ones_16 ?_
    refine mg_goto C 4 (by decide) dX12_ones_17 ?_
    exact mg_sub [1, 0] rfl (hR4 x1_1 x2_2 v f g h)
set_option maxRecDepth 20000 in
theorem sl_ones_4 (C : mC p s m args meth c cX12_ones 3 (some .int) A D cI cJ cZ) {post : Int32 → mS → Prop}   (x1 : Int32) (x2 : Int32) (v : Nat → Int32) (f : Nat → Nat → Int32) (g : Nat → Nat → Int64) (h : r_ones_4L (fun r v f g => post r (v, f, g))  x1 x2 v f g) : mG p l e (mRm 0 0) s m args below meth c A D cI cJ cZ a 3 (MQ below (va_Qi post (mB D cI cJ cZ a) A) args s 0 0 A) 4 [(1, .int x1), (2, .int x2)] [] v f g :=
  h (fun y => mG p l e (mRm 0 0) s m args below meth c A D cI cJ cZ a 3 (MQ below (va_Qi post (mB D cI cJ cZ a) A) args s 0 0 A) 4 [(1, .int (y.1)), (2, .int (y.2.1))] [] (y.2.2.1) (y.2.2.2.1) (y.2.2.2.2)) (fun y hy => sb_ones_4 C  (fun b0 b1 v f g z => z) (y.1) (y.2.1) (y.2.2.1) (y.2.2.2.1) (y.2.2.2.2) hy)
end S_ones
set_option maxHeartbeats 1000000 in
set_option maxRecDepth 20000 in
theorem s_ones (l : Launch) (x0 : Int32) (v : Nat → Int32) (f : Nat → Nat → Int32) (g : Nat → Nat → Int64) {P : Int32 → (Nat → Int32) → (Nat → Nat → Int32) → (Nat → Nat → Int64) → Prop} (h : r_ones P x0 v f g) : mMi l yX12_ones cX12_ones 3 (some .int) 0 0 true [.int x0] v f g (fun r w => P r w.1 w.2.1 w.2.2) := by
  intro D cI cJ cZ a sz
  refine mg_body (by decide +kernel) rfl (Nat.le_of_ble_eq_true rfl) ?_
  intro p e s m args below meth c hsz C
  clear hsz
  generalize va_A (mW cI cJ cZ a v f g) sz = A at C ⊢
  refine mg_lv (lv' := [(0, .int x0)]) rfl ?_
  unfold r_ones at h
  refine mg_iconst C (x := nI 0) rfl dX12_ones_0 ?_
  refine mg_istore_n C (i := 1) (lv' := [(1, .int ((nI 0))), (0, .int x0)]) rfl (Nat.le_of_ble_eq_true rfl) rfl dX12_ones_1 ?_
  refine mg_iload_n C (i := 0) rfl 1 rfl dX12_ones_2 ?_
  refine mg_istore_n C (i := 2) (lv' := [(2, .int x0), (1, .int ((nI 0))), (0, .int x0)]) rfl (Nat.le_of_ble_eq_true rfl) rfl dX12_ones_3 ?_
  exact mg_sub [1, 0] rfl (sl_ones_4 C  (((nI 0))) x0 v f g h)
def r_strength (Q : Int32 → (Nat → Int32) → (Nat → Nat → Int32) → (Nat → Nat → Int64) → Prop) (x0 : Int32) (v : Nat → Int32) (f : Nat → Nat → Int32) (g : Nat → Nat → Int64) : Prop :=
¬ (x0 + ((nI 1))) = 0 ∧ (Q ((((((nI 64)) * x0)) / ((x0 + ((nI 1)))))) v f g)
set_option maxHeartbeats 1000000 in
set_option maxRecDepth 20000 in
theorem s_strength (l : Launch) (x0 : Int32) (v : Nat → Int32) (f : Nat → Nat → Int32) (g : Nat → Nat → Int64) {P : Int32 → (Nat → Int32) → (Nat → Nat → Int32) → (Nat → Nat → Int64) → Prop} (h : r_strength P x0 v f g) : mMi l yX12_strength cX12_strength 1 (some .int) 0 0 true [.int x0] v f g (fun r w => P r w.1 w.2.1 w.2.2) := by
  intro D cI cJ cZ a sz
  refine mg_body (by decide +kernel) rfl (Nat.le_of_ble_eq_true rfl) ?_
  intro p e s m args below meth c hsz C
  clear hsz
  generalize va_A (mW cI cJ cZ a v f g) sz = A at C ⊢
  refine mg_lv (lv' := [(0, .int x0)]) rfl ?_
  unfold r_strength at h
  refine mg_bipush C (x := nI 64) rfl dX12_strength_0 ?_
  refine mg_iload_n C (i := 0) rfl 0 rfl dX12_strength_2 ?_
  refine mg_imul C dX12_strength_3 ?_
  refine mg_iload_n C (i := 0) rfl 0 rfl dX12_strength_4 ?_
  refine mg_iconst C (x := nI 1) rfl dX12_strength_5 ?_
  refine mg_iadd C dX12_strength_6 ?_
  obtain ⟨hc_7, h⟩ := h
  refine mg_idiv C hc_7 dX12_strength_7 ?_
  exact mg_iret C h dX12_strength_8
def r_gives1_307 (Q : Int32 → (Nat → Int32) → (Nat → Nat → Int32) → (Nat → Nat → Int64) → Prop) (R8 : Int32 → Int32 → Int32 → Int32 → (Nat → Int32) → (Nat → Nat → Int32) → (Nat → Nat → Int64) → Prop) (x1 : Int32) (x2 : Int32) (x3 : Int32) (x4 : Int32) (v : Nat → Int32) (f : Nat → Nat → Int32) (g : Nat → Nat → Int64) : Prop :=
∀ x4_6 : Int32, x4_6 = x4 + nI 1 → R8 x1 x2 x3 x4_6 v f g
def r_gives1_303 (Q : Int32 → (Nat → Int32) → (Nat → Nat → Int32) → (Nat → Nat → Int64) → Prop) (R8 : Int32 → Int32 → Int32 → Int32 → (Nat → Int32) → (Nat → Nat → Int32) → (Nat → Nat → Int64) → Prop) (x1 : Int32) (x2 : Int32) (x3 : Int32) (x4 : Int32) (t0 : Int32) (t1 : Int32) (v : Nat → Int32) (f : Nat → Nat → Int32) (g : Nat → Nat → Int64) : Prop :=
vp_in t1 50 ∧ (∀ f4 : Nat → Nat → Int32, f4 = mU f 54 (t1).toNatClampNeg t0 → ∀ x3_5 : Int32, x3_5 = x3 + nI 1 → r_gives1_307 Q R8 x1 x2 x3_5 x4 v f4 g)
def r_gives1_271 (Q : Int32 → (Nat → Int32) → (Nat → Nat → Int32) → (Nat → Nat → Int64) → Prop) (R8 : Int32 → Int32 → Int32 → Int32 → (Nat → Int32) → (Nat → Nat → Int32) → (Nat → Nat → Int64) → Prop) (x1 : Int32) (x2 : Int32) (x3 : Int32) (x4 : Int32) (x5 : Int32) (x7 : Int32) (t0 : Int32) (v : Nat → Int32) (f : Nat → Nat → Int32) (g : Nat → Nat → Int64) : Prop :=
((¬ t0 = 0 →
  ((x7 = 0 →
    r_gives1_303 Q R8 x1 x2 x3 x4 x5 x3 v f g) ∧
   (¬ x7 = 0 →
    vp_in x3 50 ∧ (r_gives1_303 Q R8 x1 x2 x3 x4 ((f 54 (x3).toNatClampNeg)) x3 v f g)))) ∧
 (t0 = 0 →
  r_gives1_303 Q R8 x1 x2 x3 x4 (((-1))) x3 v f g))
def r_gives1_217 (Q : Int32 → (Nat → Int32) → (Nat → Nat → Int32) → (Nat → Nat → Int64) → Prop) (R8 : Int32 → Int32 → Int32 → Int32 → (Nat → Int32) → (Nat → Nat → Int32) → (Nat → Nat → Int64) → Prop) (x1 : Int32) (x2 : Int32) (x3 : Int32) (x4 : Int32) (x5 : Int32) (x6 : Int32) (t0 : Int32) (v : Nat → Int32) (f : Nat → Nat → Int32) (g : Nat → Nat → Int64) : Prop :=
((t0 = 0 →
  vp_in x4 1968 ∧ (((x6 < ((f 42 (x4).toNatClampNeg)) →
    r_gives1_271 Q R8 x1 x2 x3 x4 x5 t0 ((nI 0)) v f g) ∧
   (¬ x6 < ((f 42 (x4).toNatClampNeg)) →
    r_gives1_271 Q R8 x1 x2 x3 x4 x5 t0 ((nI 1)) v f g)))) ∧
 (¬ t0 = 0 →
  vp_in x3 50 ∧ (((((f 54 (x3).toNatClampNeg)) = (((-1))) →
    r_gives1_271 Q R8 x1 x2 x3 x4 x5 t0 ((nI 0)) v f g) ∧
   (¬ ((f 54 (x3).toNatClampNeg)) = (((-1))) →
    vp_in ((x3 + ((nI 1)))) 50 ∧ (((¬ ((f 54 ((x3 + ((nI 1)))).toNatClampNeg)) = (((-1))) →
      r_gives1_271 Q R8 x1 x2 x3 x4 x5 t0 ((nI 0)) v f g) ∧
     (((f 54 ((x3 + ((nI 1)))).toNatClampNeg)) = (((-1))) →
      r_gives1_271 Q R8 x1 x2 x3 x4 x5 t0 ((nI 1)) v f g))))))))
def r_gives1_181 (Q : Int32 → (Nat → Int32) → (Nat → Nat → Int32) → (Nat → Nat → Int64) → Prop) (R8 : Int32 → Int32 → Int32 → Int32 → (Nat → Int32) → (Nat → Nat → Int32) → (Nat → Nat → Int64) → Prop) (R130 : Int32 → Int32 → Int32 → Int32 → Int32 → Int32 → Int32 → (Nat → Int32) → (Nat → Nat → Int32) → (Nat → Nat → Int64) → Prop) (x1 : Int32) (x2 : Int32) (x3 : Int32) (x4 : Int32) (x6 : Int32) (x7 : Int32) (t0 : Int32) (t1 : Int32) (v : Nat → Int32) (f : Nat → Nat → Int32) (g : Nat → Nat → Int64) : Prop :=
∀ x5_8 : Int32, x5_8 = (t1 + t0) → ∀ x7_9 : Int32, x7_9 = x7 + nI 1 → R130 x1 x2 x3 x4 x5_8 x6 x7_9 v f g
def r_gives1_154 (Q : Int32 → (Nat → Int32) → (Nat → Nat → Int32) → (Nat → Nat → Int64) → Prop) (R8 : Int32 → Int32 → Int32 → Int32 → (Nat → Int32) → (Nat → Nat → Int32) → (Nat → Nat → Int64) → Prop) (R130 : Int32 → Int32 → Int32 → Int32 → Int32 → Int32 → Int32 → (Nat → Int32) → (Nat → Nat → Int32) → (Nat → Nat → Int64) → Prop) (x1 : Int32) (x2 : Int32) (x3 : Int32) (x4 : Int32) (x5 : Int32) (x7 : Int32) (t0 : Int32) (t1 : Int32) (v : Nat → Int32) (f : Nat → Nat → Int32) (g : Nat → Nat → Int64) : Prop :=
∀ x6_7 : Int32, x6_7 = (t1 + t0) → vp_in x7 50 ∧ (((¬ ((f 54 (x7).toNatClampNeg)) = (((-1))) →
  vp_in x7 50 ∧ (r_gives1_181 Q R8 R130 x1 x2 x3 x4 x6_7 x7 ((f 54 (x7).toNatClampNeg)) x5 v f g)) ∧
 (((f 54 (x7).toNatClampNeg)) = (((-1))) →
  r_gives1_181 Q R8 R130 x1 x2 x3 x4 x6_7 x7 ((nI 0)) x5 v f g)))
def r_gives1_130 (Q : Int32 → (Nat → Int32) → (Nat → Nat → Int32) → (Nat → Nat → Int64) → Prop) (R8 : Int32 → Int32 → Int32 → Int32 → (Nat → Int32) → (Nat → Nat → Int32) → (Nat → Nat → Int64) → Prop) (R130 : Int32 → Int32 → Int32 → Int32 → Int32 → Int32 → Int32 → (Nat → Int32) → (Nat → Nat → Int32) → (Nat → Nat → Int64) → Prop) (x1 : Int32) (x2 : Int32) (x3 : Int32) (x4 : Int32) (x5 : Int32) (x6 : Int32) (x7 : Int32) (v : Nat → Int32) (f : Nat → Nat → Int32) (g : Nat → Nat → Int64) : Prop :=
((x3 ≤ x7 →
  vp_in x4 1968 ∧ (∀ x3_3 : Int32, x3_3 = (x3 - ((f 44 (x4).toNatClampNeg))) → vp_in x4 1968 ∧ (((¬ ((f 40 (x4).toNatClampNeg)) = ((nI 7)) →
    r_gives1_217 Q R8 x1 x2 x3_3 x4 x5 x6 ((nI 0)) v f g) ∧
   (((f 40 (x4).toNatClampNeg)) = ((nI 7)) →
    r_gives1_217 Q R8 x1 x2 x3_3 x4 x5 x6 ((nI 1)) v f g))))) ∧
 (¬ x3 ≤ x7 →
  vp_in x7 50 ∧ (((¬ ((f 54 (x7).toNatClampNeg)) = (((-1))) →
    r_gives1_154 Q R8 R130 x1 x2 x3 x4 x5 x7 ((nI 1)) x6 v f g) ∧
   (((f 54 (x7).toNatClampNeg)) = (((-1))) →
    r_gives1_154 Q R8 R130 x1 x2 x3 x4 x5 x7 ((nI 0)) x6 v f g)))))
def r_gives1_130L (Q : Int32 → (Nat → Int32) → (Nat → Nat → Int32) → (Nat → Nat → Int64) → Prop) (R8 : Int32 → Int32 → Int32 → Int32 → (Nat → Int32) → (Nat → Nat → Int32) → (Nat → Nat → Int64) → Prop) (x1 : Int32) (x2 : Int32) (x3 : Int32) (x4 : Int32) (x5 : Int32) (x6 : Int32) (x7 : Int32) (v : Nat → Int32) (f : Nat → Nat → Int32) (g : Nat → Nat → Int64) : Prop :=
  lfp (X := Int32 × Int32 × Int32 × Int32 × Int32 × Int32 × Int32 × (Nat → Int32) × (Nat → Nat → Int32) × (Nat → Nat → Int64)) (fun P y => r_gives1_130 Q R8 (fun b0 b1 b2 b3 b4 b5 b6 v f g => P (b0, b1, b2, b3, b4, b5, b6, v, f, g)) y.1 y.2.1 y.2.2.1 y.2.2.2.1 y.2.2.2.2.1 y.2.2.2.2.2.1 y.2.2.2.2.2.2.1 y.2.2.2.2.2.2.2.1 y.2.2.2.2.2.2.2.2.1 y.2.2.2.2.2.2.2.2.2) (x1, x2, x3, x4, x5, x6, x7, v, f, g)
def r_gives1_106 (Q : Int32 → (Nat → Int32) → (Nat → Nat → Int32) → (Nat → Nat → Int64) → Prop) (R8 : Int32 → Int32 → Int32 → Int32 → (Nat → Int32) → (Nat → Nat → Int32) → (Nat → Nat → Int64) → Prop) (x1 : Int32) (x2 : Int32) (x3 : Int32) (x4 : Int32) (t0 : Int32) (t1 : Int32) (v : Nat → Int32) (f : Nat → Nat → Int32) (g : Nat → Nat → Int64) : Prop :=
vp_in t1 50 ∧ (∀ f13 : Nat → Nat → Int32, f13 = mU f 54 (t1).toNatClampNeg t0 → ∀ x3_14 : Int32, x3_14 = x3 + nI 1 → r_gives1_307 Q R8 x1 x2 x3_14 x4 v f13 g)
def r_gives1_8 (Q : Int32 → (Nat → Int32) → (Nat → Nat → Int32) → (Nat → Nat → Int64) → Prop) (R8 : Int32 → Int32 → Int32 → Int32 → (Nat → Int32) → (Nat → Nat → Int32) → (Nat → Nat → Int64) → Prop) (x1 : Int32) (x2 : Int32) (x3 : Int32) (x4 : Int32) (v : Nat → Int32) (f : Nat → Nat → Int32) (g : Nat → Nat → Int64) : Prop :=
vp_in x1 41 ∧ (((((((((nI 48)) * x1)) + ((f 48 (x1).toNatClampNeg)))) ≤ x4 →
  vp_in ((nI 0)) 50 ∧ (Q ((f 54 ((nI 0)).toNatClampNeg)) v f g)) ∧
 (¬ ((((((nI 48)) * x1)) + ((f 48 (x1).toNatClampNeg)))) ≤ x4 →
  vp_in x4 1968 ∧ (((((nI 6)) ≤ ((f 40 (x4).toNatClampNeg)) →
    vp_in x4 1968 ∧ (∀ x7_2 : Int32, x7_2 = (x3 - ((f 44 (x4).toNatClampNeg))) → r_gives1_130L Q R8 x1 x2 x3 x4 (((nI 0))) (((nI 0))) x7_2 v f g)) ∧
   (¬ ((nI 6)) ≤ ((f 40 (x4).toNatClampNeg)) →
    r_marks (fun r_10 v_10 f_10 g_10 => 
    r_ones (fun r_11 v_11 f_11 g_11 => 
    ((¬ r_11 = 0 →
      vp_in x4 1968 ∧ (((((f_11 40 (x4).toNatClampNeg)) < ((nI 3)) →
        r_strength (fun r_12 v_12 f_12 g_12 => 
        vp_in ((x4 - ((((nI 48)) * x1)))) 48 ∧ (r_gives1_106 Q R8 x1 x2 x3 x4 ((r_12 * ((f_12 55 ((x4 - ((((nI 48)) * x1)))).toNatClampNeg)))) x3 v_12 f_12 g_12)) r_11 v_11 f_11 g_11) ∧
       (¬ ((f_11 40 (x4).toNatClampNeg)) < ((nI 3)) →
        vp_in ((x4 - ((((nI 48)) * x1)))) 48 ∧ (r_gives1_106 Q R8 x1 x2 x3 x4 ((f_11 55 ((x4 - ((((nI 48)) * x1)))).toNatClampNeg)) x3 v_11 f_11 g_11))))) ∧
     (r_11 = 0 →
      r_gives1_106 Q R8 x1 x2 x3 x4 (((-1))) x3 v_11 f_11 g_11))) r_10 v_10 f_10 g_10) x2 x4 v f g))))))
def r_gives1_8L (Q : Int32 → (Nat → Int32) → (Nat → Nat → Int32) → (Nat → Nat → Int64) → Prop)  (x1 : Int32) (x2 : Int32) (x3 : Int32) (x4 : Int32) (v : Nat → Int32) (f : Nat → Nat → Int32) (g : Nat → Nat → Int64) : Prop :=
  lfp (X := Int32 × Int32 × Int32 × Int32 × (Nat → Int32) × (Nat → Nat → Int32) × (Nat → Nat → Int64)) (fun P y => r_gives1_8 Q  (fun b0 b1 b2 b3 v f g => P (b0, b1, b2, b3, v, f, g)) y.1 y.2.1 y.2.2.1 y.2.2.2.1 y.2.2.2.2.1 y.2.2.2.2.2.1 y.2.2.2.2.2.2) (x1, x2, x3, x4, v, f, g)
def r_gives1 (Q : Int32 → (Nat → Int32) → (Nat → Nat → Int32) → (Nat → Nat → Int64) → Prop) (x1 : Int32) (x2 : Int32) (v : Nat → Int32) (f : Nat → Nat → Int32) (g : Nat → Nat → Int64) : Prop :=
∀ x4_1 : Int32, x4_1 = (((nI 48)) * x1) → r_gives1_8L Q  x1 x2 (((nI 0))) x4_1 v f g
section S_gives1
variable {p : Program} {l : Launch} {e : Env} {s : State} {m : MethodId} {args : Array Value} {below : List Frame} {meth : Method} {c : Code} {A : Nat → Prop} {D : va_G} {cI cJ cZ : ClassId} {a : Nat → Nat}
set_option maxRecDepth 20000 in
theorem sb_gives1_307 (C : mC p s m args meth c cX12_gives1 9 (some .int) A D cI cJ cZ) {post : Int32 → mS → Prop} {R8 : Int32 → Int32 → Int32 → Int32 → (Nat → Int32) → (Nat → Nat → Int32) → (Nat → Nat → Int64) → Prop} (hR8 : ∀ (x1 : Int32) (x2 : Int32) (x3 : Int32) (x4 : Int32) (v : Nat → Int32) (f : Nat → Nat → Int32) (g : Nat → Nat → Int64), R8 x1 x2 x3 x4 v f g → mG p l e (mRm 6 154) s m args below meth c A D cI cJ cZ a 9 (MQ below (va_Qi post (mB D cI cJ cZ a) A) args s 0 0 A) 8 [(0, .ref (a 0)), (1, .int x1), (2, .int x2), (3, .int x3), (4, .int x4)] [] v f g) (x1 : Int32) (x2 : Int32) (x3 : Int32) (x4 : Int32) (v : Nat → Int32) (f : Nat → Nat → Int32) (g : Nat → Nat → Int64) (h : r_gives1_307 (fun r v f g => post r (v, f, g)) R8 x1 x2 x3 x4 v f g) : mG p l e (mRm 6 154) s m args below meth c A D cI cJ cZ a 9 (MQ below (va_Qi post (mB D cI cJ cZ a) A) args s 0 0 A) 307 [(0, .ref (a 0)), (1, .int x1), (2, .int x2), (3, .int x3), (4, .int x4)] [] v f g := by
  unfold r_gives1_307 at h
  obtain ⟨x4_6, e_x4_6⟩ : ∃ z : Int32, z = x4 + nI 1 := ⟨_, rfl⟩
  have h := h x4_6 e_x4_6
  refine mg_iinc C (lv' := [(4, .int x4_6), (0, .ref (a 0)), (1, .int x1), (2, .int x2), (3, .int x3)]) 4 rfl (by rw [e_x4_6]; rfl) (Nat.le_of_ble_eq_true rfl) rfl dX12_gives1_307 ?_
  refine mg_goto C 8 (by decide) dX12_gives1_310 ?_
  exact mg_sub [1, 2, 3, 4, 0] rfl (hR8 x1 x2 x3 x4_6 v f g h)
set_option maxRecDepth 20000 in
theorem sb_gives1_303 (C : mC p s m args meth c cX12_gives1 9 (some .int) A D cI cJ cZ) {post : Int32 → mS → Prop} {R8 : Int32 → Int32 → Int32 → Int32 → (Nat → Int32) → (Nat → Nat → Int32) → (Nat → Nat → Int64) → Prop} (hR8 : ∀ (x1 : Int32) (x2 : Int32) (x3 : Int32) (x4 : Int32) (v : Nat → Int32) (f : Nat → Nat → Int32) (g : Nat → Nat → Int64), R8 x1 x2 x3 x4 v f g → mG p l e (mRm 6 154) s m args below meth c A D cI cJ cZ a 9 (MQ below (va_Qi post (mB D cI cJ cZ a) A) args s 0 0 A) 8 [(0, .ref (a 0)), (1, .int x1), (2, .int x2), (3, .int x3), (4, .int x4)] [] v f g) (x1 : Int32) (x2 : Int32) (x3 : Int32) (x4 : Int32) (t0 : Int32) (t1 : Int32) (v : Nat → Int32) (f : Nat → Nat → Int32) (g : Nat → Nat → Int64) (h : r_gives1_303 (fun r v f g => post r (v, f, g)) R8 x1 x2 x3 x4 t0 t1 v f g) : mG p l e (mRm 6 154) s m args below meth c A D cI cJ cZ a 9 (MQ below (va_Qi post (mB D cI cJ cZ a) A) args s 0 0 A) 303 [(0, .ref (a 0)), (1, .int x1), (2, .int x2), (3, .int x3), (4, .int x4)] [.int t0, .int t1, .ref (a 54)] v f g := by
  unfold r_gives1_303 at h
  obtain ⟨hc_303, h⟩ := h
  refine mg_iastoreR C (n := 50) 54 (by decide) (by decide) rfl rfl hc_303 dX12_gives1_303 ?_
  refine mg_nmF (fun f4 e_f4 => ?_)
  have h := h f4 e_f4
  obtain ⟨x3_5, e_x3_5⟩ : ∃ z : Int32, z = x3 + nI 1 := ⟨_, rfl⟩
  have h := h x3_5 e_x3_5
  refine mg_iinc C (lv' := [(3, .int x3_5), (0, .ref (a 0)), (1, .int x1), (2, .int x2), (4, .int x4)]) 3 rfl (by rw [e_x3_5]; rfl) (Nat.le_of_ble_eq_true rfl) rfl dX12_gives1_304 ?_
  exact mg_sub [1, 2, 3, 0, 4] rfl (sb_gives1_307 C hR8 x1 x2 x3_5 x4 v f4 g h)
set_option maxRecDepth 20000 in
theorem sb_gives1_271 (C : mC p s m args meth c cX12_gives1 9 (some .int) A D cI cJ cZ) {post : Int32 → mS → Prop} {R8 : Int32 → Int32 → Int32 → Int32 → (Nat → Int32) → (Nat → Nat → Int32) → (Nat → Nat → Int64) → Prop} (hR8 : ∀ (x1 : Int32) (x2 : Int32) (x3 : Int32) (x4 : Int32) (v : Nat → Int32) (f : Nat → Nat → Int32) (g : Nat → Nat → Int64), R8 x1 x2 x3 x4 v f g → mG p l e (mRm 6 154) s m args below meth c A D cI cJ cZ a 9 (MQ below (va_Qi post (mB D cI cJ cZ a) A) args s 0 0 A) 8 [(0, .ref (a 0)), (1, .int x1), (2, .int x2), (3, .int x3), (4, .int x4)] [] v f g) (x1 : Int32) (x2 : Int32) (x3 : Int32) (x4 : Int32) (x5 : Int32) (x7 : Int32) (t0 : Int32) (v : Nat → Int32) (f : Nat → Nat → Int32) (g : Nat → Nat → Int64) (h : r_gives1_271 (fun r v f g => post r (v, f, g)) R8 x1 x2 x3 x4 x5 x7 t0 v f g) : mG p l e (mRm 6 154) s m args below meth c A D cI cJ cZ a 9 (MQ below (va_Qi post (mB D cI cJ cZ a) A) args s 0 0 A) 271 [(0, .ref (a 0)), (1, .int x1), (2, .int x2), (3, .int x3), (4, .int x4), (5, .int x5), (7, .int x7)] [.int t0] v f g := by
  unfold r_gives1_271 at h
  refine mg_istore C (lv' := [(8, .int t0), (0, .ref (a 0)), (1, .int x1), (2, .int x2), (3, .int x3), (4, .int x4), (5, .int x5), (7, .int x7)]) (Nat.le_of_ble_eq_true rfl) rfl dX12_gives1_271 ?_
  refine mg_aload_n C (i := 0) rfl 1 rfl dX12_gives1_273 ?_
  refine mg_arr C 54 (by decide) (by decide) rfl mL_pile rfl dX12_gives1_274 ?_
  refine mg_iload_n C (i := 3) rfl 4 rfl dX12_gives1_277 ?_
  refine mg_iload C 0 rfl dX12_gives1_278 ?_
  refine mg_if_ne C 287 (by decide) dX12_gives1_280 (fun c_ => ?_) (fun c_ => ?_)
  · have h := h.1 c_
    refine mg_iload C 7 rfl dX12_gives1_287 ?_
    refine mg_if_eq C 301 (by decide) dX12_gives1_289 (fun c_ => ?_) (fun c_ => ?_)
    · have h := h.1 c_
      refine mg_iload C 6 rfl dX12_gives1_301 ?_
      exact mg_sub [1, 2, 3, 4, 5] rfl (sb_gives1_303 C hR8 x1 x2 x3 x4 x5 x3 v f g h)
    · have h := h.2 c_
      refine mg_aload_n C (i := 0) rfl 1 rfl dX12_gives1_292 ?_
      refine mg_arr C 54 (by decide) (by decide) rfl mL_pile rfl dX12_gives1_293 ?_
      refine mg_iload_n C (i := 3) rfl 4 rfl dX12_gives1_296 ?_
      obtain ⟨hc_297, h⟩ := h
      refine mg_ialoadR C (n := 50) 54 (by decide) (by decide) rfl rfl hc_297 dX12_gives1_297 ?_
      refine mg_goto C 303 (by decide) dX12_gives1_298 ?_
      exact mg_sub [1, 2, 3, 4, 5] rfl (sb_gives1_303 C hR8 x1 x2 x3 x4 ((f 54 (x3).toNatClampNeg)) x3 v f g h)
  · have h := h.2 c_
    refine mg_iconst C (x := (-1)) rfl dX12_gives1_283 ?_
    refine mg_goto C 303 (by decide) dX12_gives1_284 ?_
    exact mg_sub [1, 2, 3, 4, 5] rfl (sb_gives1_303 C hR8 x1 x2 x3 x4 (((-1))) x3 v f g h)
set_option maxRecDepth 20000 in
theorem sb_gives1_217 (C : mC p s m args meth c cX12_gives1 9 (some .int) A D cI cJ cZ) {post : Int32 → mS → Prop} {R8 : Int32 → Int32 → Int32 → Int32 → (Nat → Int32) → (Nat → Nat → Int32) → (Nat → Nat → Int64) → Prop} (hR8 : ∀ (x1 : Int32) (x2 : Int32) (x3 : Int32) (x4 : Int32) (v : Nat → Int32) (f : Nat → Nat → Int32) (g : Nat → Nat → Int64), R8 x1 x2 x3 x4 v f g → mG p l e (mRm 6 154) s m args below meth c A D cI cJ cZ a 9 (MQ below (va_Qi post (mB D cI cJ cZ a) A) args s 0 0 A) 8 [(0, .ref (a 0)), (1, .int x1), (2, .int x2), (3, .int x3), (4, .int x4)] [] v f g) (x1 : Int32) (x2 : Int32) (x3 : Int32) (x4 : Int32) (x5 : Int32) (x6 : Int32) (t0 : Int32) (v : Nat → Int32) (f : Nat → Nat → Int32) (g : Nat → Nat → Int64) (h : r_gives1_217 (fun r v f g => post r (v, f, g)) R8 x1 x2 x3 x4 x5 x6 t0 v f g) : mG p l e (mRm 6 154) s m args below meth c A D cI cJ cZ a 9 (MQ below (va_Qi post (mB D cI cJ cZ a) A) args s 0 0 A) 217 [(0, .ref (a 0)), (1, .int x1), (2, .int x2), (3, .int x3), (4, .int x4), (5, .int x5), (6, .int x6)] [.int t0] v f g := by
  unfold r_gives1_217 at h
  refine mg_istore C (lv' := [(7, .int t0), (0, .ref (a 0)), (1, .int x1), (2, .int x2), (3, .int x3), (4, .int x4), (5, .int x5), (6, .int x6)]) (Nat.le_of_ble_eq_true rfl) rfl dX12_gives1_217 ?_
  refine mg_iload C 0 rfl dX12_gives1_219 ?_
  refine mg_if_eq C 254 (by decide) dX12_gives1_221 (fun c_ => ?_) (fun c_ => ?_)
  · have h := h.1 c_
    refine mg_iload C 7 rfl dX12_gives1_254 ?_
    refine mg_aload_n C (i := 0) rfl 1 rfl dX12_gives1_256 ?_
    refine mg_arr C 42 (by decide) (by decide) rfl mL_amounts rfl dX12_gives1_257 ?_
    refine mg_iload C 5 rfl dX12_gives1_260 ?_
    obtain ⟨hc_262, h⟩ := h
    refine mg_ialoadR C (n := 1968) 42 (by decide) (by decide) rfl rfl hc_262 dX12_gives1_262 ?_
    refine mg_icmp_lt C 270 (by decide) dX12_gives1_263 (fun c_ => ?_) (fun c_ => ?_)
    · have h := h.1 c_
      refine mg_iconst C (x := nI 0) rfl dX12_gives1_270 ?_
      exact mg_sub [1, 2, 3, 4, 5, 6, 0] rfl (sb_gives1_271 C hR8 x1 x2 x3 x4 x5 t0 ((nI 0)) v f g h)
    · have h := h.2 c_
      refine mg_iconst C (x := nI 1) rfl dX12_gives1_266 ?_
      refine mg_goto C 271 (by decide) dX12_gives1_267 ?_
      exact mg_sub [1, 2, 3, 4, 5, 6, 0] rfl (sb_gives1_271 C hR8 x1 x2 x3 x4 x5 t0 ((nI 1)) v f g h)
  · have h := h.2 c_
    refine mg_aload_n C (i := 0) rfl 1 rfl dX12_gives1_224 ?_
    refine mg_arr C 54 (by decide) (by decide) rfl mL_pile rfl dX12_gives1_225 ?_
    refine mg_iload_n C (i := 3) rfl 4 rfl dX12_gives1_228 ?_
    obtain ⟨hc_229, h⟩ := h
    refine mg_ialoadR C (n := 50) 54 (by decide) (by decide) rfl rfl hc_229 dX12_gives1_229 ?_
    refine mg_iconst C (x := (-1)) rfl dX12_gives1_230 ?_
    refine mg_icmp_eq C 250 (by decide) dX12_gives1_231 (fun c_ => ?_) (fun c_ => ?_)
    · have h := h.1 c_
      refine mg_iconst C (x := nI 0) rfl dX12_gives1_250 ?_
      refine mg_goto C 271 (by decide) dX12_gives1_251 ?_
      exact mg_sub [1, 2, 3, 4, 5, 6, 0] rfl (sb_gives1_271 C hR8 x1 x2 x3 x4 x5 t0 ((nI 0)) v f g h)
    · have h := h.2 c_
      refine mg_aload_n C (i := 0) rfl 1 rfl dX12_gives1_234 ?_
      refine mg_arr C 54 (by decide) (by decide) rfl mL_pile rfl dX12_gives1_235 ?_
      refine mg_iload_n C (i := 3) rfl 4 rfl dX12_gives1_238 ?_
      refine mg_iconst C (x := nI 1) rfl dX12_gives1_239 ?_
      refine mg_iadd C dX12_gives1_240 ?_
      obtain ⟨hc_241, h⟩ := h
      refine mg_ialoadR C (n := 50) 54 (by decide) (by decide) rfl rfl hc_241 dX12_gives1_241 ?_
      refine mg_iconst C (x := (-1)) rfl dX12_gives1_242 ?_
      refine mg_icmp_ne C 250 (by decide) dX12_gives1_243 (fun c_ => ?_) (fun c_ => ?_)
      · have h := h.1 c_
        refine mg_iconst C (x := nI 0) rfl dX12_gives1_250 ?_
        refine mg_goto C 271 (by decide) dX12_gives1_251 ?_
        exact mg_sub [1, 2, 3, 4, 5, 6, 0] rfl (sb_gives1_271 C hR8 x1 x2 x3 x4 x5 t0 ((nI 0)) v f g h)
      · have h := h.2 c_
        refine mg_iconst C (x := nI 1) rfl dX12_gives1_246 ?_
        refine mg_goto C 271 (by decide) dX12_gives1_247 ?_
        exact mg_sub [1, 2, 3, 4, 5, 6, 0] rfl (sb_gives1_271 C hR8 x1 x2 x3 x4 x5 t0 ((nI 1)) v f g h)
set_option maxRecDepth 20000 in
theorem sb_gives1_181 (C : mC p s m args meth c cX12_gives1 9 (some .int) A D cI cJ cZ) {post : Int32 → mS → Prop} {R8 : Int32 → Int32 → Int32 → Int32 → (Nat → Int32) → (Nat → Nat → Int32) → (Nat → Nat → Int64) → Prop} {R130 : Int32 → Int32 → Int32 → Int32 → Int32 → Int32 → Int32 → (Nat → Int32) → (Nat → Nat → Int32) → (Nat → Nat → Int64) → Prop} (hR8 : ∀ (x1 : Int32) (x2 : Int32) (x3 : Int32) (x4 : Int32) (v : Nat → Int32) (f : Nat → Nat → Int32) (g : Nat → Nat → Int64), R8 x1 x2 x3 x4 v f g → mG p l e (mRm 6 154) s m args below meth c A D cI cJ cZ a 9 (MQ below (va_Qi post (mB D cI cJ cZ a) A) args s 0 0 A) 8 [(0, .ref (a 0)), (1, .int x1), (2, .int x2), (3, .int x3), (4, .int x4)] [] v f g) (hR130 : ∀ (x1 : Int32) (x2 : Int32) (x3 : Int32) (x4 : Int32) (x5 : Int32) (x6 : Int32) (x7 : Int32) (v : Nat → Int32) (f : Nat → Nat → Int32) (g : Nat → Nat → Int64), R130 x1 x2 x3 x4 x5 x6 x7 v f g → mG p l e (mRm 6 154) s m args below meth c A D cI cJ cZ a 9 (MQ below (va_Qi post (mB D cI cJ cZ a) A) args s 0 0 A) 130 [(0, .ref (a 0)), (1, .int x1), (2, .int x2), (3, .int x3), (4, .int x4), (5, .int x5), (6, .int x6), (7, .int x7)] [] v f g) (x1 : Int32) (x2 : Int32) (x3 : Int32) (x4 : Int32) (x6 : Int32) (x7 : Int32) (t0 : Int32) (t1 : Int32) (v : Nat → Int32) (f : Nat → Nat → Int32) (g : Nat → Nat → Int64) (h : r_gives1_181 (fun r v f g => post r (v, f, g)) R8 R130 x1 x2 x3 x4 x6 x7 t0 t1 v f g) : mG p l e (mRm 6 154) s m args below meth c A D cI cJ cZ a 9 (MQ below (va_Qi post (mB D cI cJ cZ a) A) args s 0 0 A) 181 [(0, .ref (a 0)), (1, .int x1), (2, .int x2), (3, .int x3), (4, .int x4), (6, .int x6), (7, .int x7)] [.int t0, .int t1] v f g := by
  unfold r_gives1_181 at h
  refine mg_iadd C dX12_gives1_181 ?_
  refine mg_nmI (fun x5_8 e_x5_8 => ?_)
  have h := h x5_8 e_x5_8
  refine mg_istore C (lv' := [(5, .int x5_8), (0, .ref (a 0)), (1, .int x1), (2, .int x2), (3, .int x3), (4, .int x4), (6, .int x6), (7, .int x7)]) (Nat.le_of_ble_eq_true rfl) rfl dX12_gives1_182 ?_
  obtain ⟨x7_9, e_x7_9⟩ : ∃ z : Int32, z = x7 + nI 1 := ⟨_, rfl⟩
  have h := h x7_9 e_x7_9
  refine mg_iinc C (lv' := [(7, .int x7_9), (5, .int x5_8), (0, .ref (a 0)), (1, .int x1), (2, .int x2), (3, .int x3), (4, .int x4), (6, .int x6)]) 7 rfl (by rw [e_x7_9]; rfl) (Nat.le_of_ble_eq_true rfl) rfl dX12_gives1_184 ?_
  refine mg_goto C 130 (by decide) dX12_gives1_187 ?_
  exact mg_sub [2, 3, 4, 5, 6, 1, 7, 0] rfl (hR130 x1 x2 x3 x4 x5_8 x6 x7_9 v f g h)
set_option maxRecDepth 20000 in
theorem sb_gives1_154 (C : mC p s m args meth c cX12_gives1 9 (some .int) A D cI cJ cZ) {post : Int32 → mS → Prop} {R8 : Int32 → Int32 → Int32 → Int32 → (Nat → Int32) → (Nat → Nat → Int32) → (Nat → Nat → Int64) → Prop} {R130 : Int32 → Int32 → Int32 → Int32 → Int32 → Int32 → Int32 → (Nat → Int32) → (Nat → Nat → Int32) → (Nat → Nat → Int64) → Prop} (hR8 : ∀ (x1 : Int32) (x2 : Int32) (x3 : Int32) (x4 : Int32) (v : Nat → Int32) (f : Nat → Nat → Int32) (g : Nat → Nat → Int64), R8 x1 x2 x3 x4 v f g → mG p l e (mRm 6 154) s m args below meth c A D cI cJ cZ a 9 (MQ below (va_Qi post (mB D cI cJ cZ a) A) args s 0 0 A) 8 [(0, .ref (a 0)), (1, .int x1), (2, .int x2), (3, .int x3), (4, .int x4)] [] v f g) (hR130 : ∀ (x1 : Int32) (x2 : Int32) (x3 : Int32) (x4 : Int32) (x5 : Int32) (x6 : Int32) (x7 : Int32) (v : Nat → Int32) (f : Nat → Nat → Int32) (g : Nat → Nat → Int64), R130 x1 x2 x3 x4 x5 x6 x7 v f g → mG p l e (mRm 6 154) s m args below meth c A D cI cJ cZ a 9 (MQ below (va_Qi post (mB D cI cJ cZ a) A) args s 0 0 A) 130 [(0, .ref (a 0)), (1, .int x1), (2, .int x2), (3, .int x3), (4, .int x4), (5, .int x5), (6, .int x6), (7, .int x7)] [] v f g) (x1 : Int32) (x2 : Int32) (x3 : Int32) (x4 : Int32) (x5 : Int32) (x7 : Int32) (t0 : Int32) (t1 : Int32) (v : Nat → Int32) (f : Nat → Nat → Int32) (g : Nat → Nat → Int64) (h : r_gives1_154 (fun r v f g => post r (v, f, g)) R8 R130 x1 x2 x3 x4 x5 x7 t0 t1 v f g) : mG p l e (mRm 6 154) s m args below meth c A D cI cJ cZ a 9 (MQ below (va_Qi post (mB D cI cJ cZ a) A) args s 0 0 A) 154 [(0, .ref (a 0)), (1, .int x1), (2, .int x2), (3, .int x3), (4, .int x4), (5, .int x5), (7, .int x7)] [.int t0, .int t1] v f g := by
  unfold r_gives1_154 at h
  refine mg_iadd C dX12_gives1_154 ?_
  refine mg_nmI (fun x6_7 e_x6_7 => ?_)
  have h := h x6_7 e_x6_7
  refine mg_istore C (lv' := [(6, .int x6_7), (0, .ref (a 0)), (1, .int x1), (2, .int x2), (3, .int x3), (4, .int x4), (5, .int x5), (7, .int x7)]) (Nat.le_of_ble_eq_true rfl) rfl dX12_gives1_155 ?_
  refine mg_iload C 6 rfl dX12_gives1_157 ?_
  refine mg_aload_n C (i := 0) rfl 1 rfl dX12_gives1_159 ?_
  refine mg_arr C 54 (by decide) (by decide) rfl mL_pile rfl dX12_gives1_160 ?_
  refine mg_iload C 7 rfl dX12_gives1_163 ?_
  obtain ⟨hc_165, h⟩ := h
  refine mg_ialoadR C (n := 50) 54 (by decide) (by decide) rfl rfl hc_165 dX12_gives1_165 ?_
  refine mg_iconst C (x := (-1)) rfl dX12_gives1_166 ?_
  refine mg_icmp_ne C 174 (by decide) dX12_gives1_167 (fun c_ => ?_) (fun c_ => ?_)
  · have h := h.1 c_
    refine mg_aload_n C (i := 0) rfl 1 rfl dX12_gives1_174 ?_
    refine mg_arr C 54 (by decide) (by decide) rfl mL_pile rfl dX12_gives1_175 ?_
    refine mg_iload C 7 rfl dX12_gives1_178 ?_
    obtain ⟨hc_180, h⟩ := h
    refine mg_ialoadR C (n := 50) 54 (by decide) (by decide) rfl rfl hc_180 dX12_gives1_180 ?_
    exact mg_sub [1, 2, 3, 4, 5, 0, 7] rfl (sb_gives1_181 C hR8 hR130 x1 x2 x3 x4 x6_7 x7 ((f 54 (x7).toNatClampNeg)) x5 v f g h)
  · have h := h.2 c_
    refine mg_iconst C (x := nI 0) rfl dX12_gives1_170 ?_
    refine mg_goto C 181 (by decide) dX12_gives1_171 ?_
    exact mg_sub [1, 2, 3, 4, 5, 0, 7] rfl (sb_gives1_181 C hR8 hR130 x1 x2 x3 x4 x6_7 x7 ((nI 0)) x5 v f g h)
set_option maxRecDepth 20000 in
theorem sb_gives1_130 (C : mC p s m args meth c cX12_gives1 9 (some .int) A D cI cJ cZ) {post : Int32 → mS → Prop} {R8 : Int32 → Int32 → Int32 → Int32 → (Nat → Int32) → (Nat → Nat → Int32) → (Nat → Nat → Int64) → Prop} {R130 : Int32 → Int32 → Int32 → Int32 → Int32 → Int32 → Int32 → (Nat → Int32) → (Nat → Nat → Int32) → (Nat → Nat → Int64) → Prop} (hR8 : ∀ (x1 : Int32) (x2 : Int32) (x3 : Int32) (x4 : Int32) (v : Nat → Int32) (f : Nat → Nat → Int32) (g : Nat → Nat → Int64), R8 x1 x2 x3 x4 v f g → mG p l e (mRm 6 154) s m args below meth c A D cI cJ cZ a 9 (MQ below (va_Qi post (mB D cI cJ cZ a) A) args s 0 0 A) 8 [(0, .ref (a 0)), (1, .int x1), (2, .int x2), (3, .int x3), (4, .int x4)] [] v f g) (hR130 : ∀ (x1 : Int32) (x2 : Int32) (x3 : Int32) (x4 : Int32) (x5 : Int32) (x6 : Int32) (x7 : Int32) (v : Nat → Int32) (f : Nat → Nat → Int32) (g : Nat → Nat → Int64), R130 x1 x2 x3 x4 x5 x6 x7 v f g → mG p l e (mRm 6 154) s m args below meth c A D cI cJ cZ a 9 (MQ below (va_Qi post (mB D cI cJ cZ a) A) args s 0 0 A) 130 [(0, .ref (a 0)), (1, .int x1), (2, .int x2), (3, .int x3), (4, .int x4), (5, .int x5), (6, .int x6), (7, .int x7)] [] v f g) (x1 : Int32) (x2 : Int32) (x3 : Int32) (x4 : Int32) (x5 : Int32) (x6 : Int32) (x7 : Int32) (v : Nat → Int32) (f : Nat → Nat → Int32) (g : Nat → Nat → Int64) (h : r_gives1_130 (fun r v f g => post r (v, f, g)) R8 R130 x1 x2 x3 x4 x5 x6 x7 v f g) : mG p l e (mRm 6 154) s m args below meth c A D cI cJ cZ a 9 (MQ below (va_Qi post (mB D cI cJ cZ a) A) args s 0 0 A) 130 [(0, .ref (a 0)), (1, .int x1), (2, .int x2), (3, .int x3), (4, .int x4), (5, .int x5), (6, .int x6), (7, .int x7)] [] v f g := by
  unfold r_gives1_130 at h
  refine mg_iload C 7 rfl dX12_gives1_130 ?_
  refine mg_iload_n C (i := 3) rfl 3 rfl dX12_gives1_132 ?_
  refine mg_icmp_ge C 190 (by decide) dX12_gives1_133 (fun c_ => ?_) (fun c_ => ?_)
  · have h := h.1 c_
    refine mg_iload_n C (i := 3) rfl 3 rfl dX12_gives1_190 ?_
    refine mg_aload_n C (i := 0) rfl 0 rfl dX12_gives1_191 ?_
    refine mg_arr C 44 (by decide) (by decide) rfl mL_many rfl dX12_gives1_192 ?_
    refine mg_iload C 4 rfl dX12_gives1_195 ?_
    obtain ⟨hc_197, h⟩ := h
    refine mg_ialoadR C (n := 1968) 44 (by decide) (by decide) rfl rfl hc_197 dX12_gives1_197 ?_
    refine mg_isub C dX12_gives1_198 ?_
    refine mg_nmI (fun x3_3 e_x3_3 => ?_)
    have h := h x3_3 e_x3_3
    refine mg_istore_n C (i := 3) (lv' := [(3, .int x3_3), (0, .ref (a 0)), (1, .int x1), (2, .int x2), (4, .int x4), (5, .int x5), (6, .int x6), (7, .int x7)]) rfl (Nat.le_of_ble_eq_true rfl) rfl dX12_gives1_199 ?_
    refine mg_aload_n C (i := 0) rfl 1 rfl dX12_gives1_200 ?_
    refine mg_arr C 40 (by decide) (by decide) rfl mL_kinds rfl dX12_gives1_201 ?_
    refine mg_iload C 4 rfl dX12_gives1_204 ?_
    obtain ⟨hc_206, h⟩ := h
    refine mg_ialoadR C (n := 1968) 40 (by decide) (by decide) rfl rfl hc_206 dX12_gives1_206 ?_
    refine mg_bipush C (x := nI 7) rfl dX12_gives1_207 ?_
    refine mg_icmp_ne C 216 (by decide) dX12_gives1_209 (fun c_ => ?_) (fun c_ => ?_)
    · have h := h.1 c_
      refine mg_iconst C (x := nI 0) rfl dX12_gives1_216 ?_
      exact mg_sub [1, 2, 3, 0, 4, 5, 6] rfl (sb_gives1_217 C hR8 x1 x2 x3_3 x4 x5 x6 ((nI 0)) v f g h)
    · have h := h.2 c_
      refine mg_iconst C (x := nI 1) rfl dX12_gives1_212 ?_
      refine mg_goto C 217 (by decide) dX12_gives1_213 ?_
      exact mg_sub [1, 2, 3, 0, 4, 5, 6] rfl (sb_gives1_217 C hR8 x1 x2 x3_3 x4 x5 x6 ((nI 1)) v f g h)
  · have h := h.2 c_
    refine mg_iload C 6 rfl dX12_gives1_136 ?_
    refine mg_aload_n C (i := 0) rfl 0 rfl dX12_gives1_138 ?_
    refine mg_arr C 54 (by decide) (by decide) rfl mL_pile rfl dX12_gives1_139 ?_
    refine mg_iload C 7 rfl dX12_gives1_142 ?_
    obtain ⟨hc_144, h⟩ := h
    refine mg_ialoadR C (n := 50) 54 (by decide) (by decide) rfl rfl hc_144 dX12_gives1_144 ?_
    refine mg_iconst C (x := (-1)) rfl dX12_gives1_145 ?_
    refine mg_icmp_ne C 153 (by decide) dX12_gives1_146 (fun c_ => ?_) (fun c_ => ?_)
    · have h := h.1 c_
      refine mg_iconst C (x := nI 1) rfl dX12_gives1_153 ?_
      exact mg_sub [0, 1, 2, 3, 4, 5, 7] rfl (sb_gives1_154 C hR8 hR130 x1 x2 x3 x4 x5 x7 ((nI 1)) x6 v f g h)
    · have h := h.2 c_
      refine mg_iconst C (x := nI 0) rfl dX12_gives1_149 ?_
      refine mg_goto C 154 (by decide) dX12_gives1_150 ?_
      exact mg_sub [0, 1, 2, 3, 4, 5, 7] rfl (sb_gives1_154 C hR8 hR130 x1 x2 x3 x4 x5 x7 ((nI 0)) x6 v f g h)
set_option maxRecDepth 20000 in
theorem sl_gives1_130 (C : mC p s m args meth c cX12_gives1 9 (some .int) A D cI cJ cZ) {post : Int32 → mS → Prop} {R8 : Int32 → Int32 → Int32 → Int32 → (Nat → Int32) → (Nat → Nat → Int32) → (Nat → Nat → Int64) → Prop} (hR8 : ∀ (x1 : Int32) (x2 : Int32) (x3 : Int32) (x4 : Int32) (v : Nat → Int32) (f : Nat → Nat → Int32) (g : Nat → Nat → Int64), R8 x1 x2 x3 x4 v f g → mG p l e (mRm 6 154) s m args below meth c A D cI cJ cZ a 9 (MQ below (va_Qi post (mB D cI cJ cZ a) A) args s 0 0 A) 8 [(0, .ref (a 0)), (1, .int x1), (2, .int x2), (3, .int x3), (4, .int x4)] [] v f g) (x1 : Int32) (x2 : Int32) (x3 : Int32) (x4 : Int32) (x5 : Int32) (x6 : Int32) (x7 : Int32) (v : Nat → Int32) (f : Nat → Nat → Int32) (g : Nat → Nat → Int64) (h : r_gives1_130L (fun r v f g => post r (v, f, g)) R8 x1 x2 x3 x4 x5 x6 x7 v f g) : mG p l e (mRm 6 154) s m args below meth c A D cI cJ cZ a 9 (MQ below (va_Qi post (mB D cI cJ cZ a) A) args s 0 0 A) 130 [(0, .ref (a 0)), (1, .int x1), (2, .int x2), (3, .int x3), (4, .int x4), (5, .int x5), (6, .int x6), (7, .int x7)] [] v f g :=
  h (fun y => mG p l e (mRm 6 154) s m args below meth c A D cI cJ cZ a 9 (MQ below (va_Qi post (mB D cI cJ cZ a) A) args s 0 0 A) 130 [(0, .ref (a 0)), (1, .int (y.1)), (2, .int (y.2.1)), (3, .int (y.2.2.1)), (4, .int (y.2.2.2.1)), (5, .int (y.2.2.2.2.1)), (6, .int (y.2.2.2.2.2.1)), (7, .int (y.2.2.2.2.2.2.1))] [] (y.2.2.2.2.2.2.2.1) (y.2.2.2.2.2.2.2.2.1) (y.2.2.2.2.2.2.2.2.2)) (fun y hy => sb_gives1_130 C hR8 (fun b0 b1 b2 b3 b4 b5 b6 v f g z => z) (y.1) (y.2.1) (y.2.2.1) (y.2.2.2.1) (y.2.2.2.2.1) (y.2.2.2.2.2.1) (y.2.2.2.2.2.2.1) (y.2.2.2.2.2.2.2.1) (y.2.2.2.2.2.2.2.2.1) (y.2.2.2.2.2.2.2.2.2) hy)
set_option maxRecDepth 20000 in
theorem sb_gives1_106 (C : mC p s m args meth c cX12_gives1 9 (some .int) A D cI cJ cZ) {post : Int32 → mS → Prop} {R8 : Int32 → Int32 → Int32 → Int32 → (Nat → Int32) → (Nat → Nat → Int32) → (Nat → Nat → Int64) → Prop} (hR8 : ∀ (x1 : Int32) (x2 : Int32) (x3 : Int32) (x4 : Int32) (v : Nat → Int32) (f : Nat → Nat → Int32) (g : Nat → Nat → Int64), R8 x1 x2 x3 x4 v f g → mG p l e (mRm 6 154) s m args below meth c A D cI cJ cZ a 9 (MQ below (va_Qi post (mB D cI cJ cZ a) A) args s 0 0 A) 8 [(0, .ref (a 0)), (1, .int x1), (2, .int x2), (3, .int x3), (4, .int x4)] [] v f g) (x1 : Int32) (x2 : Int32) (x3 : Int32) (x4 : Int32) (t0 : Int32) (t1 : Int32) (v : Nat → Int32) (f : Nat → Nat → Int32) (g : Nat → Nat → Int64) (h : r_gives1_106 (fun r v f g => post r (v, f, g)) R8 x1 x2 x3 x4 t0 t1 v f g) : mG p l e (mRm 6 154) s m args below meth c A D cI cJ cZ a 9 (MQ below (va_Qi post (mB D cI cJ cZ a) A) args s 0 0 A) 106 [(0, .ref (a 0)), (1, .int x1), (2, .int x2), (3, .int x3), (4, .int x4)] [.int t0, .int t1, .ref (a 54)] v f g := by
  unfold r_gives1_106 at h
  obtain ⟨hc_106, h⟩ := h
  refine mg_iastoreR C (n := 50) 54 (by decide) (by decide) rfl rfl hc_106 dX12_gives1_106 ?_
  refine mg_nmF (fun f13 e_f13 => ?_)
  have h := h f13 e_f13
  obtain ⟨x3_14, e_x3_14⟩ : ∃ z : Int32, z = x3 + nI 1 := ⟨_, rfl⟩
  have h := h x3_14 e_x3_14
  refine mg_iinc C (lv' := [(3, .int x3_14), (0, .ref (a 0)), (1, .int x1), (2, .int x2), (4, .int x4)]) 3 rfl (by rw [e_x3_14]; rfl) (Nat.le_of_ble_eq_true rfl) rfl dX12_gives1_107 ?_
  refine mg_goto C 307 (by decide) dX12_gives1_110 ?_
  exact mg_sub [1, 2, 3, 0, 4] rfl (sb_gives1_307 C hR8 x1 x2 x3_14 x4 v f13 g h)
set_option maxRecDepth 20000 in
theorem sb_gives1_8 (C : mC p s m args meth c cX12_gives1 9 (some .int) A D cI cJ cZ) {post : Int32 → mS → Prop} {R8 : Int32 → Int32 → Int32 → Int32 → (Nat → Int32) → (Nat → Nat → Int32) → (Nat → Nat → Int64) → Prop} (hR8 : ∀ (x1 : Int32) (x2 : Int32) (x3 : Int32) (x4 : Int32) (v : Nat → Int32) (f : Nat → Nat → Int32) (g : Nat → Nat → Int64), R8 x1 x2 x3 x4 v f g → mG p l e (mRm 6 154) s m args below meth c A D cI cJ cZ a 9 (MQ below (va_Qi post (mB D cI cJ cZ a) A) args s 0 0 A) 8 [(0, .ref (a 0)), (1, .int x1), (2, .int x2), (3, .int x3), (4, .int x4)] [] v f g) (x1 : Int32) (x2 : Int32) (x3 : Int32) (x4 : Int32) (v : Nat → Int32) (f : Nat → Nat → Int32) (g : Nat → Nat → Int64) (h : r_gives1_8 (fun r v f g => post r (v, f, g)) R8 x1 x2 x3 x4 v f g) : mG p l e (mRm 6 154) s m args below meth c A D cI cJ cZ a 9 (MQ below (va_Qi post (mB D cI cJ cZ a) A) args s 0 0 A) 8 [(0, .ref (a 0)), (1, .int x1), (2, .int x2), (3, .int x3), (4, .int x4)] [] v f g := by
  unfold r_gives1_8 at h
  refine mg_iload C 4 rfl dX12_gives1_8 ?_
  refine mg_bipush C (x := nI 48) rfl dX12_gives1_10 ?_
  refine mg_iload_n C (i := 1) rfl 1 rfl dX12_gives1_12 ?_
  refine mg_imul C dX12_gives1_13 ?_
  refine mg_aload_n C (i := 0) rfl 0 rfl dX12_gives1_14 ?_
  refine mg_arr C 48 (by decide) (by decide) rfl mL_opsMany rfl dX12_gives1_15 ?_
  refine mg_iload_n C (i := 1) rfl 1 rfl dX12_gives1_18 ?_
  obtain ⟨hc_19, h⟩ := h
  refine mg_ialoadR C (n := 41) 48 (by decide) (by decide) rfl rfl hc_19 dX12_gives1_19 ?_
  refine mg_iadd C dX12_gives1_20 ?_
  refine mg_icmp_ge C 313 (by decide) dX12_gives1_21 (fun c_ => ?_) (fun c_ => ?_)
  · have h := h.1 c_
    refine mg_aload_n C (i := 0) rfl 0 rfl dX12_gives1_313 ?_
    refine mg_arr C 54 (by decide) (by decide) rfl mL_pile rfl dX12_gives1_314 ?_
    refine mg_iconst C (x := nI 0) rfl dX12_gives1_317 ?_
    obtain ⟨hc_318, h⟩ := h
    refine mg_ialoadR C (n := 50) 54 (by decide) (by decide) rfl rfl hc_318 dX12_gives1_318 ?_
    exact mg_iret C h dX12_gives1_319
  · have h := h.2 c_
    refine mg_aload_n C (i := 0) rfl 0 rfl dX12_gives1_24 ?_
    refine mg_arr C 40 (by decide) (by decide) rfl mL_kinds rfl dX12_gives1_25 ?_
    refine mg_iload C 4 rfl dX12_gives1_28 ?_
    obtain ⟨hc_30, h⟩ := h
    refine mg_ialoadR C (n := 1968) 40 (by decide) (by decide) rfl rfl hc_30 dX12_gives1_30 ?_
    refine mg_bipush C (x := nI 6) rfl dX12_gives1_31 ?_
    refine mg_icmp_ge C 113 (by decide) dX12_gives1_33 (fun c_ => ?_) (fun c_ => ?_)
    · have h := h.1 c_
      refine mg_iconst C (x := nI 0) rfl dX12_gives1_113 ?_
      refine mg_istore C (lv' := [(5, .int ((nI 0))), (0, .ref (a 0)), (1, .int x1), (2, .int x2), (3, .int x3), (4, .int x4)]) (Nat.le_of_ble_eq_true rfl) rfl dX12_gives1_114 ?_
      refine mg_iconst C (x := nI 0) rfl dX12_gives1_116 ?_
      refine mg_istore C (lv' := [(6, .int ((nI 0))), (5, .int ((nI 0))), (0, .ref (a 0)), (1, .int x1), (2, .int x2), (3, .int x3), (4, .int x4)]) (Nat.le_of_ble_eq_true rfl) rfl dX12_gives1_117 ?_
      refine mg_iload_n C (i := 3) rfl 5 rfl dX12_gives1_119 ?_
      refine mg_aload_n C (i := 0) rfl 2 rfl dX12_gives1_120 ?_
      refine mg_arr C 44 (by decide) (by decide) rfl mL_many rfl dX12_gives1_121 ?_
      refine mg_iload C 6 rfl dX12_gives1_124 ?_
      obtain ⟨hc_126, h⟩ := h
      refine mg_ialoadR C (n := 1968) 44 (by decide) (by decide) rfl rfl hc_126 dX12_gives1_126 ?_
      refine mg_isub C dX12_gives1_127 ?_
      refine mg_nmI (fun x7_2 e_x7_2 => ?_)
      have h := h x7_2 e_x7_2
      refine mg_istore C (lv' := [(7, .int x7_2), (6, .int ((nI 0))), (5, .int ((nI 0))), (0, .ref (a 0)), (1, .int x1), (2, .int x2), (3, .int x3), (4, .int x4)]) (Nat.le_of_ble_eq_true rfl) rfl dX12_gives1_128 ?_
      exact mg_sub [3, 4, 5, 6, 7, 2, 1, 0] rfl (sl_gives1_130 C hR8 x1 x2 x3 x4 (((nI 0))) (((nI 0))) x7_2 v f g h)
    · have h := h.2 c_
      refine mg_aload_n C (i := 0) rfl 0 rfl dX12_gives1_36 ?_
      refine mg_iload_n C (i := 2) rfl 2 rfl dX12_gives1_37 ?_
      refine mg_iload C 4 rfl dX12_gives1_38 ?_
      refine mg_calliW C (s_marks l x2 x4 v f g h) mCal_marks rfl ⟨by decide, by decide⟩ rfl (Nat.le_of_ble_eq_true rfl) dX12_gives1_40 (fun r_10 v_10 f_10 g_10 h => ?_)
      refine mg_callsiW C (s_ones l r_10 v_10 f_10 g_10 h) mCal_ones rfl ⟨by decide, by decide⟩ rfl (Nat.le_of_ble_eq_true rfl) dX12_gives1_43 (fun r_11 v_11 f_11 g_11 h => ?_)
      refine mg_istore C (lv' := [(5, .int r_11), (0, .ref (a 0)), (1, .int x1), (2, .int x2), (3, .int x3), (4, .int x4)]) (Nat.le_of_ble_eq_true rfl) rfl dX12_gives1_46 ?_
      refine mg_aload_n C (i := 0) rfl 1 rfl dX12_gives1_48 ?_
      refine mg_arr C 54 (by decide) (by decide) rfl mL_pile rfl dX12_gives1_49 ?_
      refine mg_iload_n C (i := 3) rfl 4 rfl dX12_gives1_52 ?_
      refine mg_iload C 0 rfl dX12_gives1_53 ?_
      refine mg_if_ne C 62 (by decide) dX12_gives1_55 (fun c_ => ?_) (fun c_ => ?_)
      · have h := h.1 c_
        refine mg_aload_n C (i := 0) rfl 1 rfl dX12_gives1_62 ?_
        refine mg_arr C 40 (by decide) (by decide) rfl mL_kinds rfl dX12_gives1_63 ?_
        refine mg_iload C 5 rfl dX12_gives1_66 ?_
        obtain ⟨hc_68, h⟩ := h
        refine mg_ialoadR C (n := 1968) 40 (by decide) (by decide) rfl rfl hc_68 dX12_gives1_68 ?_
        refine mg_iconst C (x := nI 3) rfl dX12_gives1_69 ?_
        refine mg_icmp_lt C 88 (by decide) dX12_gives1_70 (fun c_ => ?_) (fun c_ => ?_)
        · have h := h.1 c_
          refine mg_iload C 0 rfl dX12_gives1_88 ?_
          refine mg_callsiW C (s_strength l r_11 v_11 f_11 g_11 h) mCal_strength rfl ⟨by decide, by decide⟩ rfl (Nat.le_of_ble_eq_true rfl) dX12_gives1_90 (fun r_12 v_12 f_12 g_12 h => ?_)
          refine mg_aload_n C (i := 0) rfl 1 rfl dX12_gives1_93 ?_
          refine mg_arr C 55 (by decide) (by decide) rfl mL_gains rfl dX12_gives1_94 ?_
          refine mg_iload C 5 rfl dX12_gives1_97 ?_
          refine mg_bipush C (x := nI 48) rfl dX12_gives1_99 ?_
          refine mg_iload_n C (i := 1) rfl 2 rfl dX12_gives1_101 ?_
          refine mg_imul C dX12_gives1_102 ?_
          refine mg_isub C dX12_gives1_103 ?_
          obtain ⟨hc_104, h⟩ := h
          refine mg_ialoadR C (n := 48) 55 (by decide) (by decide) rfl rfl hc_104 dX12_gives1_104 ?_
          refine mg_imul C dX12_gives1_105 ?_
          exact mg_sub [1, 2, 3, 4, 5] rfl (sb_gives1_106 C hR8 x1 x2 x3 x4 ((r_12 * ((f_12 55 ((x4 - ((((nI 48)) * x1)))).toNatClampNeg)))) x3 v_12 f_12 g_12 h)
        · have h := h.2 c_
          refine mg_aload_n C (i := 0) rfl 1 rfl dX12_gives1_73 ?_
          refine mg_arr C 55 (by decide) (by decide) rfl mL_gains rfl dX12_gives1_74 ?_
          refine mg_iload C 5 rfl dX12_gives1_77 ?_
          refine mg_bipush C (x := nI 48) rfl dX12_gives1_79 ?_
          refine mg_iload_n C (i := 1) rfl 2 rfl dX12_gives1_81 ?_
          refine mg_imul C dX12_gives1_82 ?_
          refine mg_isub C dX12_gives1_83 ?_
          obtain ⟨hc_84, h⟩ := h
          refine mg_ialoadR C (n := 48) 55 (by decide) (by decide) rfl rfl hc_84 dX12_gives1_84 ?_
          refine mg_goto C 106 (by decide) dX12_gives1_85 ?_
          exact mg_sub [1, 2, 3, 4, 5] rfl (sb_gives1_106 C hR8 x1 x2 x3 x4 ((f_11 55 ((x4 - ((((nI 48)) * x1)))).toNatClampNeg)) x3 v_11 f_11 g_11 h)
      · have h := h.2 c_
        refine mg_iconst C (x := (-1)) rfl dX12_gives1_58 ?_
        refine mg_goto C 106 (by decide) dX12_gives1_59 ?_
        exact mg_sub [1, 2, 3, 4, 5] rfl (sb_gives1_106 C hR8 x1 x2 x3 x4 (((-1))) x3 v_11 f_11 g_11 h)
set_option maxRecDepth 20000 in
theorem sl_gives1_8 (C : mC p s m args meth c cX12_gives1 9 (some .int) A D cI cJ cZ) {post : Int32 → mS → Prop}   (x1 : Int32) (x2 : Int32) (x3 : Int32) (x4 : Int32) (v : Nat → Int32) (f : Nat → Nat → Int32) (g : Nat → Nat → Int64) (h : r_gives1_8L (fun r v f g => post r (v, f, g))  x1 x2 x3 x4 v f g) : mG p l e (mRm 6 154) s m args below meth c A D cI cJ cZ a 9 (MQ below (va_Qi post (mB D cI cJ cZ a) A) args s 0 0 A) 8 [(0, .ref (a 0)), (1, .int x1), (2, .int x2), (3, .int x3), (4, .int x4)] [] v f g :=
  h (fun y => mG p l e (mRm 6 154) s m args below meth c A D cI cJ cZ a 9 (MQ below (va_Qi post (mB D cI cJ cZ a) A) args s 0 0 A) 8 [(0, .ref (a 0)), (1, .int (y.1)), (2, .int (y.2.1)), (3, .int (y.2.2.1)), (4, .int (y.2.2.2.1))] [] (y.2.2.2.2.1) (y.2.2.2.2.2.1) (y.2.2.2.2.2.2)) (fun y hy => sb_gives1_8 C  (fun b0 b1 b2 b3 v f g z => z) (y.1) (y.2.1) (y.2.2.1) (y.2.2.2.1) (y.2.2.2.2.1) (y.2.2.2.2.2.1) (y.2.2.2.2.2.2) hy)
end S_gives1
set_option maxHeartbeats 1000000 in
set_option maxRecDepth 20000 in
theorem s_gives1 (l : Launch) (x1 : Int32) (x2 : Int32) (v : Nat → Int32) (f : Nat → Nat → Int32) (g : Nat → Nat → Int64) {P : Int32 → (Nat → Int32) → (Nat → Nat → Int32) → (Nat → Nat → Int64) → Prop} (h : r_gives1 P x1 x2 v f g) : mMi l yX12_gives1 cX12_gives1 9 (some .int) 6 154 false [.int x1, .int x2] v f g (fun r w => P r w.1 w.2.1 w.2.2) := by
  intro D cI cJ cZ a sz
  refine mg_body (by decide +kernel) rfl (Nat.le_of_ble_eq_true rfl) ?_
  intro p e s m args below meth c hsz C
  clear hsz
  generalize va_A (mW cI cJ cZ a v f g) sz = A at C ⊢
  refine mg_lv (lv' := [(0, .ref (a 0)), (1, .int x1), (2, .int x2)]) rfl ?_
  unfold r_gives1 at h
  refine mg_iconst C (x := nI 0) rfl dX12_gives1_0 ?_
  refine mg_istore_n C (i := 3) (lv' := [(3, .int ((nI 0))), (0, .ref (a 0)), (1, .int x1), (2, .int x2)]) rfl (Nat.le_of_ble_eq_true rfl) rfl dX12_gives1_1 ?_
  refine mg_bipush C (x := nI 48) rfl dX12_gives1_2 ?_
  refine mg_iload_n C (i := 1) rfl 2 rfl dX12_gives1_4 ?_
  refine mg_imul C dX12_gives1_5 ?_
  refine mg_nmI (fun x4_1 e_x4_1 => ?_)
  have h := h x4_1 e_x4_1
  refine mg_istore C (lv' := [(4, .int x4_1), (3, .int ((nI 0))), (0, .ref (a 0)), (1, .int x1), (2, .int x2)]) (Nat.le_of_ble_eq_true rfl) rfl dX12_gives1_6 ?_
  exact mg_sub [2, 3, 4, 1, 0] rfl (sl_gives1_8 C  x1 x2 (((nI 0))) x4_1 v f g h)
def r_rarity_115 (Q : Int32 → (Nat → Int32) → (Nat → Nat → Int32) → (Nat → Nat → Int64) → Prop) (R115 : Int32 → Int32 → (Nat → Int32) → (Nat → Nat → Int32) → (Nat → Nat → Int64) → Prop) (x5 : Int32) (x6 : Int32) (v : Nat → Int32) (f : Nat → Nat → Int32) (g : Nat → Nat → Int64) : Prop :=
((x6 ≤ ((nI 1)) →
  Q x5 v f g) ∧
 (¬ x6 ≤ ((nI 1)) →
  ∀ x5_2 : Int32, x5_2 = x5 + nI 1 → ∀ x6_3 : Int32, x6_3 = (x6 / ((nI 2))) → R115 x5_2 x6_3 v f g))
def r_rarity_115L (Q : Int32 → (Nat → Int32) → (Nat → Nat → Int32) → (Nat → Nat → Int64) → Prop)  (x5 : Int32) (x6 : Int32) (v : Nat → Int32) (f : Nat → Nat → Int32) (g : Nat → Nat → Int64) : Prop :=
  lfp (X := Int32 × Int32 × (Nat → Int32) × (Nat → Nat → Int32) × (Nat → Nat → Int64)) (fun P y => r_rarity_115 Q  (fun b0 b1 v f g => P (b0, b1, v, f, g)) y.1 y.2.1 y.2.2.1 y.2.2.2.1 y.2.2.2.2) (x5, x6, v, f, g)
def r_rarity_90 (Q : Int32 → (Nat → Int32) → (Nat → Nat → Int32) → (Nat → Nat → Int64) → Prop) (R6 : Int32 → Int64 → Int32 → Int32 → (Nat → Int32) → (Nat → Nat → Int32) → (Nat → Nat → Int64) → Prop) (x1 : Int32) (x2 : Int64) (x5 : Int32) (t0 : Int32) (t1 : Int32) (v : Nat → Int32) (f : Nat → Nat → Int32) (g : Nat → Nat → Int64) : Prop :=
∀ x4_4 : Int32, x4_4 = (t1 + t0) → ∀ x5_5 : Int32, x5_5 = x5 + nI 1 → R6 x1 x2 x4_4 x5_5 v f g
def r_rarity_70 (Q : Int32 → (Nat → Int32) → (Nat → Nat → Int32) → (Nat → Nat → Int64) → Prop) (R6 : Int32 → Int64 → Int32 → Int32 → (Nat → Int32) → (Nat → Nat → Int32) → (Nat → Nat → Int64) → Prop) (R21 : Int32 → Int64 → Int32 → Int32 → Int32 → Int32 → (Nat → Int32) → (Nat → Nat → Int32) → (Nat → Nat → Int64) → Prop) (x1 : Int32) (x2 : Int64) (x4 : Int32) (x5 : Int32) (x7 : Int32) (t0 : Int32) (v : Nat → Int32) (f : Nat → Nat → Int32) (g : Nat → Nat → Int64) : Prop :=
∀ x7_6 : Int32, x7_6 = x7 + nI 1 → R21 x1 x2 x4 x5 t0 x7_6 v f g
def r_rarity_21 (Q : Int32 → (Nat → Int32) → (Nat → Nat → Int32) → (Nat → Nat → Int64) → Prop) (R6 : Int32 → Int64 → Int32 → Int32 → (Nat → Int32) → (Nat → Nat → Int32) → (Nat → Nat → Int64) → Prop) (R21 : Int32 → Int64 → Int32 → Int32 → Int32 → Int32 → (Nat → Int32) → (Nat → Nat → Int32) → (Nat → Nat → Int64) → Prop) (x1 : Int32) (x2 : Int64) (x4 : Int32) (x5 : Int32) (x6 : Int32) (x7 : Int32) (v : Nat → Int32) (f : Nat → Nat → Int32) (g : Nat → Nat → Int64) : Prop :=
vp_in x5 2424 ∧ (vp_in ((((((nI 2)) * ((f 38 (x5).toNatClampNeg)))) + x1)) 4848 ∧ (((((f 18 ((((((nI 2)) * ((f 38 (x5).toNatClampNeg)))) + x1)).toNatClampNeg)) ≤ x7 →
  ((x6 = 0 →
    r_rarity_90 Q R6 x1 x2 x5 ((nI 0)) x4 v f g) ∧
   (¬ x6 = 0 →
    r_rarity_90 Q R6 x1 x2 x5 ((nI 1)) x4 v f g))) ∧
 (¬ ((f 18 ((((((nI 2)) * ((f 38 (x5).toNatClampNeg)))) + x1)).toNatClampNeg)) ≤ x7 →
  ((¬ x6 = 0 →
    r_rarity_70 Q R6 R21 x1 x2 x4 x5 x7 ((nI 1)) v f g) ∧
   (x6 = 0 →
    vp_in x5 2424 ∧ (r_hasAt (fun r_7 v_7 f_7 g_7 => 
    ((r_7 = 0 →
      r_rarity_70 Q R6 R21 x1 x2 x4 x5 x7 ((nI 0)) v_7 f_7 g_7) ∧
     (¬ r_7 = 0 →
      r_rarity_70 Q R6 R21 x1 x2 x4 x5 x7 ((nI 1)) v_7 f_7 g_7))) ((f 38 (x5).toNatClampNeg)) x1 x7 x2 v f g)))))))
def r_rarity_21L (Q : Int32 → (Nat → Int32) → (Nat → Nat → Int32) → (Nat → Nat → Int64) → Prop) (R6 : Int32 → Int64 → Int32 → Int32 → (Nat → Int32) → (Nat → Nat → Int32) → (Nat → Nat → Int64) → Prop) (x1 : Int32) (x2 : Int64) (x4 : Int32) (x5 : Int32) (x6 : Int32) (x7 : Int32) (v : Nat → Int32) (f : Nat → Nat → Int32) (g : Nat → Nat → Int64) : Prop :=
  lfp (X := Int32 × Int64 × Int32 × Int32 × Int32 × Int32 × (Nat → Int32) × (Nat → Nat → Int32) × (Nat → Nat → Int64)) (fun P y => r_rarity_21 Q R6 (fun b0 b1 b2 b3 b4 b5 v f g => P (b0, b1, b2, b3, b4, b5, v, f, g)) y.1 y.2.1 y.2.2.1 y.2.2.2.1 y.2.2.2.2.1 y.2.2.2.2.2.1 y.2.2.2.2.2.2.1 y.2.2.2.2.2.2.2.1 y.2.2.2.2.2.2.2.2) (x1, x2, x4, x5, x6, x7, v, f, g)
def r_rarity_6 (Q : Int32 → (Nat → Int32) → (Nat → Nat → Int32) → (Nat → Nat → Int64) → Prop) (R6 : Int32 → Int64 → Int32 → Int32 → (Nat → Int32) → (Nat → Nat → Int32) → (Nat → Nat → Int64) → Prop) (x1 : Int32) (x2 : Int64) (x4 : Int32) (x5 : Int32) (v : Nat → Int32) (f : Nat → Nat → Int32) (g : Nat → Nat → Int64) : Prop :=
((((v 60)) ≤ x5 →
  ¬ (x4 + ((nI 1))) = 0 ∧ (∀ x6_1 : Int32, x6_1 = (((((v 60)) + ((nI 1)))) / ((x4 + ((nI 1))))) → r_rarity_115L Q  (((nI 1))) x6_1 v f g)) ∧
 (¬ ((v 60)) ≤ x5 →
  r_rarity_21L Q R6 x1 x2 x4 x5 (((nI 0))) (((nI 0))) v f g))
def r_rarity_6L (Q : Int32 → (Nat → Int32) → (Nat → Nat → Int32) → (Nat → Nat → Int64) → Prop)  (x1 : Int32) (x2 : Int64) (x4 : Int32) (x5 : Int32) (v : Nat → Int32) (f : Nat → Nat → Int32) (g : Nat → Nat → Int64) : Prop :=
  lfp (X := Int32 × Int64 × Int32 × Int32 × (Nat → Int32) × (Nat → Nat → Int32) × (Nat → Nat → Int64)) (fun P y => r_rarity_6 Q  (fun b0 b1 b2 b3 v f g => P (b0, b1, b2, b3, v, f, g)) y.1 y.2.1 y.2.2.1 y.2.2.2.1 y.2.2.2.2.1 y.2.2.2.2.2.1 y.2.2.2.2.2.2) (x1, x2, x4, x5, v, f, g)
def r_rarity (Q : Int32 → (Nat → Int32) → (Nat → Nat → Int32) → (Nat → Nat → Int64) → Prop) (x1 : Int32) (x2 : Int64) (v : Nat → Int32) (f : Nat → Nat → Int32) (g : Nat → Nat → Int64) : Prop :=
r_rarity_6L Q  x1 x2 (((nI 0))) (((nI 0))) v f g
section S_rarity
variable {p : Program} {l : Launch} {e : Env} {s : State} {m : MethodId} {args : Array Value} {below : List Frame} {meth : Method} {c : Code} {A : Nat → Prop} {D : va_G} {cI cJ cZ : ClassId} {a : Nat → Nat}
set_option maxRecDepth 20000 in
theorem sb_rarity_115 (C : mC p s m args meth c cX12_rarity 8 (some .int) A D cI cJ cZ) {post : Int32 → mS → Prop} {R115 : Int32 → Int32 → (Nat → Int32) → (Nat → Nat → Int32) → (Nat → Nat → Int64) → Prop} (hR115 : ∀ (x5 : Int32) (x6 : Int32) (v : Nat → Int32) (f : Nat → Nat → Int32) (g : Nat → Nat → Int64), R115 x5 x6 v f g → mG p l e (mRm 2 53) s m args below meth c A D cI cJ cZ a 8 (MQ below (va_Qi post (mB D cI cJ cZ a) A) args s 0 0 A) 115 [(5, .int x5), (6, .int x6)] [] v f g) (x5 : Int32) (x6 : Int32) (v : Nat → Int32) (f : Nat → Nat → Int32) (g : Nat → Nat → Int64) (h : r_rarity_115 (fun r v f g => post r (v, f, g)) R115 x5 x6 v f g) : mG p l e (mRm 2 53) s m args below meth c A D cI cJ cZ a 8 (MQ below (va_Qi post (mB D cI cJ cZ a) A) args s 0 0 A) 115 [(5, .int x5), (6, .int x6)] [] v f g := by
  unfold r_rarity_115 at h
  refine mg_iload C 1 rfl dX12_rarity_115 ?_
  refine mg_iconst C (x := nI 1) rfl dX12_rarity_117 ?_
  refine mg_icmp_le C 133 (by decide) dX12_rarity_118 (fun c_ => ?_) (fun c_ => ?_)
  · have h := h.1 c_
    refine mg_iload C 0 rfl dX12_rarity_133 ?_
    exact mg_iret C h dX12_rarity_135
  · have h := h.2 c_
    obtain ⟨x5_2, e_x5_2⟩ : ∃ z : Int32, z = x5 + nI 1 := ⟨_, rfl⟩
    have h := h x5_2 e_x5_2
    refine mg_iinc C (lv' := [(5, .int x5_2), (6, .int x6)]) 0 rfl (by rw [e_x5_2]; rfl) (Nat.le_of_ble_eq_true rfl) rfl dX12_rarity_121 ?_
    refine mg_iload C 1 rfl dX12_rarity_124 ?_
    refine mg_iconst C (x := nI 2) rfl dX12_rarity_126 ?_
    refine mg_idiv C (by decide) dX12_rarity_127 ?_
    refine mg_nmI (fun x6_3 e_x6_3 => ?_)
    have h := h x6_3 e_x6_3
    refine mg_istore C (lv' := [(6, .int x6_3), (5, .int x5_2)]) (Nat.le_of_ble_eq_true rfl) rfl dX12_rarity_128 ?_
    refine mg_goto C 115 (by decide) dX12_rarity_130 ?_
    exact mg_sub [1, 0] rfl (hR115 x5_2 x6_3 v f g h)
set_option maxRecDepth 20000 in
theorem sl_rarity_115 (C : mC p s m args meth c cX12_rarity 8 (some .int) A D cI cJ cZ) {post : Int32 → mS → Prop}   (x5 : Int32) (x6 : Int32) (v : Nat → Int32) (f : Nat → Nat → Int32) (g : Nat → Nat → Int64) (h : r_rarity_115L (fun r v f g => post r (v, f, g))  x5 x6 v f g) : mG p l e (mRm 2 53) s m args below meth c A D cI cJ cZ a 8 (MQ below (va_Qi post (mB D cI cJ cZ a) A) args s 0 0 A) 115 [(5, .int x5), (6, .int x6)] [] v f g :=
  h (fun y => mG p l e (mRm 2 53) s m args below meth c A D cI cJ cZ a 8 (MQ below (va_Qi post (mB D cI cJ cZ a) A) args s 0 0 A) 115 [(5, .int (y.1)), (6, .int (y.2.1))] [] (y.2.2.1) (y.2.2.2.1) (y.2.2.2.2)) (fun y hy => sb_rarity_115 C  (fun b0 b1 v f g z => z) (y.1) (y.2.1) (y.2.2.1) (y.2.2.2.1) (y.2.2.2.2) hy)
set_option maxRecDepth 20000 in
theorem sb_rarity_90 (C : mC p s m args meth c cX12_rarity 8 (some .int) A D cI cJ cZ) {post : Int32 → mS → Prop} {R6 : Int32 → Int64 → Int32 → Int32 → (Nat → Int32) → (Nat → Nat → Int32) → (Nat → Nat → Int64) → Prop} (hR6 : ∀ (x1 : Int32) (x2 : Int64) (x4 : Int32) (x5 : Int32) (v : Nat → Int32) (f : Nat → Nat → Int32) (g : Nat → Nat → Int64), R6 x1 x2 x4 x5 v f g → mG p l e (mRm 2 53) s m args below meth c A D cI cJ cZ a 8 (MQ below (va_Qi post (mB D cI cJ cZ a) A) args s 0 0 A) 6 [(0, .ref (a 0)), (1, .int x1), (2, .long x2), (4, .int x4), (5, .int x5)] [] v f g) (x1 : Int32) (x2 : Int64) (x5 : Int32) (t0 : Int32) (t1 : Int32) (v : Nat → Int32) (f : Nat → Nat → Int32) (g : Nat → Nat → Int64) (h : r_rarity_90 (fun r v f g => post r (v, f, g)) R6 x1 x2 x5 t0 t1 v f g) : mG p l e (mRm 2 53) s m args below meth c A D cI cJ cZ a 8 (MQ below (va_Qi post (mB D cI cJ cZ a) A) args s 0 0 A) 90 [(0, .ref (a 0)), (1, .int x1), (2, .long x2), (5, .int x5)] [.int t0, .int t1] v f g := by
  unfold r_rarity_90 at h
  refine mg_iadd C dX12_rarity_90 ?_
  refine mg_nmI (fun x4_4 e_x4_4 => ?_)
  have h := h x4_4 e_x4_4
  refine mg_istore C (lv' := [(4, .int x4_4), (0, .ref (a 0)), (1, .int x1), (2, .long x2), (5, .int x5)]) (Nat.le_of_ble_eq_true rfl) rfl dX12_rarity_91 ?_
  obtain ⟨x5_5, e_x5_5⟩ : ∃ z : Int32, z = x5 + nI 1 := ⟨_, rfl⟩
  have h := h x5_5 e_x5_5
  refine mg_iinc C (lv' := [(5, .int x5_5), (4, .int x4_4), (0, .ref (a 0)), (1, .int x1), (2, .long x2)]) 4 rfl (by rw [e_x5_5]; rfl) (Nat.le_of_ble_eq_true rfl) rfl dX12_rarity_93 ?_
  refine mg_goto C 6 (by decide) dX12_rarity_96 ?_
  exact mg_sub [2, 3, 4, 1, 0] rfl (hR6 x1 x2 x4_4 x5_5 v f g h)
set_option maxRecDepth 20000 in
theorem sb_rarity_70 (C : mC p s m args meth c cX12_rarity 8 (some .int) A D cI cJ cZ) {post : Int32 → mS → Prop} {R6 : Int32 → Int64 → Int32 → Int32 → (Nat → Int32) → (Nat → Nat → Int32) → (Nat → Nat → Int64) → Prop} {R21 : Int32 → Int64 → Int32 → Int32 → Int32 → Int32 → (Nat → Int32) → (Nat → Nat → Int32) → (Nat → Nat → Int64) → Prop} (hR6 : ∀ (x1 : Int32) (x2 : Int64) (x4 : Int32) (x5 : Int32) (v : Nat → Int32) (f : Nat → Nat → Int32) (g : Nat → Nat → Int64), R6 x1 x2 x4 x5 v f g → mG p l e (mRm 2 53) s m args below meth c A D cI cJ cZ a 8 (MQ below (va_Qi post (mB D cI cJ cZ a) A) args s 0 0 A) 6 [(0, .ref (a 0)), (1, .int x1), (2, .long x2), (4, .int x4), (5, .int x5)] [] v f g) (hR21 : ∀ (x1 : Int32) (x2 : Int64) (x4 : Int32) (x5 : Int32) (x6 : Int32) (x7 : Int32) (v : Nat → Int32) (f : Nat → Nat → Int32) (g : Nat → Nat → Int64), R21 x1 x2 x4 x5 x6 x7 v f g → mG p l e (mRm 2 53) s m args below meth c A D cI cJ cZ a 8 (MQ below (va_Qi post (mB D cI cJ cZ a) A) args s 0 0 A) 21 [(0, .ref (a 0)), (1, .int x1), (2, .long x2), (4, .int x4), (5, .int x5), (6, .int x6), (7, .int x7)] [] v f g) (x1 : Int32) (x2 : Int64) (x4 : Int32) (x5 : Int32) (x7 : Int32) (t0 : Int32) (v : Nat → Int32) (f : Nat → Nat → Int32) (g : Nat → Nat → Int64) (h : r_rarity_70 (fun r v f g => post r (v, f, g)) R6 R21 x1 x2 x4 x5 x7 t0 v f g) : mG p l e (mRm 2 53) s m args below meth c A D cI cJ cZ a 8 (MQ below (va_Qi post (mB D cI cJ cZ a) A) args s 0 0 A) 70 [(0, .ref (a 0)), (1, .int x1), (2, .long x2), (4, .int x4), (5, .int x5), (7, .int x7)] [.int t0] v f g := by
  unfold r_rarity_70 at h
  refine mg_istore C (lv' := [(6, .int t0), (0, .ref (a 0)), (1, .int x1), (2, .long x2), (4, .int x4), (5, .int x5), (7, .int x7)]) (Nat.le_of_ble_eq_true rfl) rfl dX12_rarity_70 ?_
  obtain ⟨x7_6, e_x7_6⟩ : ∃ z : Int32, z = x7 + nI 1 := ⟨_, rfl⟩
  have h := h x7_6 e_x7_6
  refine mg_iinc C (lv' := [(7, .int x7_6), (6, .int t0), (0, .ref (a 0)), (1, .int x1), (2, .long x2), (4, .int x4), (5, .int x5)]) 6 rfl (by rw [e_x7_6]; rfl) (Nat.le_of_ble_eq_true rfl) rfl dX12_rarity_72 ?_
  refine mg_goto C 21 (by decide) dX12_rarity_75 ?_
  exact mg_sub [2, 3, 4, 5, 6, 1, 0] rfl (hR21 x1 x2 x4 x5 t0 x7_6 v f g h)
set_option maxRecDepth 20000 in
theorem sb_rarity_21 (C : mC p s m args meth c cX12_rarity 8 (some .int) A D cI cJ cZ) {post : Int32 → mS → Prop} {R6 : Int32 → Int64 → Int32 → Int32 → (Nat → Int32) → (Nat → Nat → Int32) → (Nat → Nat → Int64) → Prop} {R21 : Int32 → Int64 → Int32 → Int32 → Int32 → Int32 → (Nat → Int32) → (Nat → Nat → Int32) → (Nat → Nat → Int64) → Prop} (hR6 : ∀ (x1 : Int32) (x2 : Int64) (x4 : Int32) (x5 : Int32) (v : Nat → Int32) (f : Nat → Nat → Int32) (g : Nat → Nat → Int64), R6 x1 x2 x4 x5 v f g → mG p l e (mRm 2 53) s m args below meth c A D cI cJ cZ a 8 (MQ below (va_Qi post (mB D cI cJ cZ a) A) args s 0 0 A) 6 [(0, .ref (a 0)), (1, .int x1), (2, .long x2), (4, .int x4), (5, .int x5)] [] v f g) (hR21 : ∀ (x1 : Int32) (x2 : Int64) (x4 : Int32) (x5 : Int32) (x6 : Int32) (x7 : Int32) (v : Nat → Int32) (f : Nat → Nat → Int32) (g : Nat → Nat → Int64), R21 x1 x2 x4 x5 x6 x7 v f g → mG p l e (mRm 2 53) s m args below meth c A D cI cJ cZ a 8 (MQ below (va_Qi post (mB D cI cJ cZ a) A) args s 0 0 A) 21 [(0, .ref (a 0)), (1, .int x1), (2, .long x2), (4, .int x4), (5, .int x5), (6, .int x6), (7, .int x7)] [] v f g) (x1 : Int32) (x2 : Int64) (x4 : Int32) (x5 : Int32) (x6 : Int32) (x7 : Int32) (v : Nat → Int32) (f : Nat → Nat → Int32) (g : Nat → Nat → Int64) (h : r_rarity_21 (fun r v f g => post r (v, f, g)) R6 R21 x1 x2 x4 x5 x6 x7 v f g) : mG p l e (mRm 2 53) s m args below meth c A D cI cJ cZ a 8 (MQ below (va_Qi post (mB D cI cJ cZ a) A) args s 0 0 A) 21 [(0, .ref (a 0)), (1, .int x1), (2, .long x2), (4, .int x4), (5, .int x5), (6, .int x6), (7, .int x7)] [] v f g := by
  unfold r_rarity_21 at h
  refine mg_iload C 6 rfl dX12_rarity_21 ?_
  refine mg_aload_n C (i := 0) rfl 0 rfl dX12_rarity_23 ?_
  refine mg_arr C 18 (by decide) (by decide) rfl mL_places rfl dX12_rarity_24 ?_
  refine mg_iconst C (x := nI 2) rfl dX12_rarity_27 ?_
  refine mg_aload_n C (i := 0) rfl 0 rfl dX12_rarity_28 ?_
  refine mg_arr C 38 (by decide) (by decide) rfl mL_alive rfl dX12_rarity_29 ?_
  refine mg_iload C 4 rfl dX12_rarity_32 ?_
  obtain ⟨hc_34, h⟩ := h
  refine mg_ialoadR C (n := 2424) 38 (by decide) (by decide) rfl rfl hc_34 dX12_rarity_34 ?_
  refine mg_imul C dX12_rarity_35 ?_
  refine mg_iload_n C (i := 1) rfl 1 rfl dX12_rarity_36 ?_
  refine mg_iadd C dX12_rarity_37 ?_
  obtain ⟨hc_38, h⟩ := h
  refine mg_ialoadR C (n := 4848) 18 (by decide) (by decide) rfl rfl hc_38 dX12_rarity_38 ?_
  refine mg_icmp_ge C 78 (by decide) dX12_rarity_39 (fun c_ => ?_) (fun c_ => ?_)
  · have h := h.1 c_
    refine mg_iload C 3 rfl dX12_rarity_78 ?_
    refine mg_iload C 5 rfl dX12_rarity_80 ?_
    refine mg_if_eq C 89 (by decide) dX12_rarity_82 (fun c_ => ?_) (fun c_ => ?_)
    · have h := h.1 c_
      refine mg_iconst C (x := nI 0) rfl dX12_rarity_89 ?_
      exact mg_sub [0, 1, 2, 4] rfl (sb_rarity_90 C hR6 x1 x2 x5 ((nI 0)) x4 v f g h)
    · have h := h.2 c_
      refine mg_iconst C (x := nI 1) rfl dX12_rarity_85 ?_
      refine mg_goto C 90 (by decide) dX12_rarity_86 ?_
      exact mg_sub [0, 1, 2, 4] rfl (sb_rarity_90 C hR6 x1 x2 x5 ((nI 1)) x4 v f g h)
  · have h := h.2 c_
    refine mg_iload C 5 rfl dX12_rarity_42 ?_
    refine mg_if_ne C 65 (by decide) dX12_rarity_44 (fun c_ => ?_) (fun c_ => ?_)
    · have h := h.1 c_
      refine mg_iconst C (x := nI 1) rfl dX12_rarity_65 ?_
      refine mg_goto C 70 (by decide) dX12_rarity_66 ?_
      exact mg_sub [0, 1, 2, 3, 4, 6] rfl (sb_rarity_70 C hR6 hR21 x1 x2 x4 x5 x7 ((nI 1)) v f g h)
    · have h := h.2 c_
      refine mg_aload_n C (i := 0) rfl 0 rfl dX12_rarity_47 ?_
      refine mg_aload_n C (i := 0) rfl 0 rfl dX12_rarity_48 ?_
      refine mg_arr C 38 (by decide) (by decide) rfl mL_alive rfl dX12_rarity_49 ?_
      refine mg_iload C 4 rfl dX12_rarity_52 ?_
      obtain ⟨hc_54, h⟩ := h
      refine mg_ialoadR C (n := 2424) 38 (by decide) (by decide) rfl rfl hc_54 dX12_rarity_54 ?_
      refine mg_iload_n C (i := 1) rfl 1 rfl dX12_rarity_55 ?_
      refine mg_iload C 6 rfl dX12_rarity_56 ?_
      refine mg_lload_n C (i := 2) rfl 2 rfl dX12_rarity_58 ?_
      refine mg_calliW C (s_hasAt l ((f 38 (x5).toNatClampNeg)) x1 x7 x2 v f g h) mCal_hasAt rfl ⟨by decide, by decide⟩ rfl (Nat.le_of_ble_eq_true rfl) dX12_rarity_59 (fun r_7 v_7 f_7 g_7 h => ?_)
      refine mg_if_eq C 69 (by decide) dX12_rarity_62 (fun c_ => ?_) (fun c_ => ?_)
      · have h := h.1 c_
        refine mg_iconst C (x := nI 0) rfl dX12_rarity_69 ?_
        exact mg_sub [0, 1, 2, 3, 4, 6] rfl (sb_rarity_70 C hR6 hR21 x1 x2 x4 x5 x7 ((nI 0)) v_7 f_7 g_7 h)
      · have h := h.2 c_
        refine mg_iconst C (x := nI 1) rfl dX12_rarity_65 ?_
        refine mg_goto C 70 (by decide) dX12_rarity_66 ?_
        exact mg_sub [0, 1, 2, 3, 4, 6] rfl (sb_rarity_70 C hR6 hR21 x1 x2 x4 x5 x7 ((nI 1)) v_7 f_7 g_7 h)
set_option maxRecDepth 20000 in
theorem sl_rarity_21 (C : mC p s m args meth c cX12_rarity 8 (some .int) A D cI cJ cZ) {post : Int32 → mS → Prop} {R6 : Int32 → Int64 → Int32 → Int32 → (Nat → Int32) → (Nat → Nat → Int32) → (Nat → Nat → Int64) → Prop} (hR6 : ∀ (x1 : Int32) (x2 : Int64) (x4 : Int32) (x5 : Int32) (v : Nat → Int32) (f : Nat → Nat → Int32) (g : Nat → Nat → Int64), R6 x1 x2 x4 x5 v f g → mG p l e (mRm 2 53) s m args below meth c A D cI cJ cZ a 8 (MQ below (va_Qi post (mB D cI cJ cZ a) A) args s 0 0 A) 6 [(0, .ref (a 0)), (1, .int x1), (2, .long x2), (4, .int x4), (5, .int x5)] [] v f g) (x1 : Int32) (x2 : Int64) (x4 : Int32) (x5 : Int32) (x6 : Int32) (x7 : Int32) (v : Nat → Int32) (f : Nat → Nat → Int32) (g : Nat → Nat → Int64) (h : r_rarity_21L (fun r v f g => post r (v, f, g)) R6 x1 x2 x4 x5 x6 x7 v f g) : mG p l e (mRm 2 53) s m args below meth c A D cI cJ cZ a 8 (MQ below (va_Qi post (mB D cI cJ cZ a) A) args s 0 0 A) 21 [(0, .ref (a 0)), (1, .int x1), (2, .long x2), (4, .int x4), (5, .int x5), (6, .int x6), (7, .int x7)] [] v f g :=
  h (fun y => mG p l e (mRm 2 53) s m args below meth c A D cI cJ cZ a 8 (MQ below (va_Qi post (mB D cI cJ cZ a) A) args s 0 0 A) 21 [(0, .ref (a 0)), (1, .int (y.1)), (2, .long (y.2.1)), (4, .int (y.2.2.1)), (5, .int (y.2.2.2.1)), (6, .int (y.2.2.2.2.1)), (7, .int (y.2.2.2.2.2.1))] [] (y.2.2.2.2.2.2.1) (y.2.2.2.2.2.2.2.1) (y.2.2.2.2.2.2.2.2)) (fun y hy => sb_rarity_21 C hR6 (fun b0 b1 b2 b3 b4 b5 v f g z => z) (y.1) (y.2.1) (y.2.2.1) (y.2.2.2.1) (y.2.2.2.2.1) (y.2.2.2.2.2.1) (y.2.2.2.2.2.2.1) (y.2.2.2.2.2.2.2.1) (y.2.2.2.2.2.2.2.2) hy)
set_option maxRecDepth 20000 in
theorem sb_rarity_6 (C : mC p s m args meth c cX12_rarity 8 (some .int) A D cI cJ cZ) {post : Int32 → mS → Prop} {R6 : Int32 → Int64 → Int32 → Int32 → (Nat → Int32) → (Nat → Nat → Int32) → (Nat → Nat → Int64) → Prop} (hR6 : ∀ (x1 : Int32) (x2 : Int64) (x4 : Int32) (x5 : Int32) (v : Nat → Int32) (f : Nat → Nat → Int32) (g : Nat → Nat → Int64), R6 x1 x2 x4 x5 v f g → mG p l e (mRm 2 53) s m args below meth c A D cI cJ cZ a 8 (MQ below (va_Qi post (mB D cI cJ cZ a) A) args s 0 0 A) 6 [(0, .ref (a 0)), (1, .int x1), (2, .long x2), (4, .int x4), (5, .int x5)] [] v f g) (x1 : Int32) (x2 : Int64) (x4 : Int32) (x5 : Int32) (v : Nat → Int32) (f : Nat → Nat → Int32) (g : Nat → Nat → Int64) (h : r_rarity_6 (fun r v f g => post r (v, f, g)) R6 x1 x2 x4 x5 v f g) : mG p l e (mRm 2 53) s m args below meth c A D cI cJ cZ a 8 (MQ below (va_Qi post (mB D cI cJ cZ a) A) args s 0 0 A) 6 [(0, .ref (a 0)), (1, .int x1), (2, .long x2), (4, .int x4), (5, .int x5)] [] v f g := by
  unfold r_rarity_6 at h
  refine mg_iload C 4 rfl dX12_rarity_6 ?_
  refine mg_aload_n C (i := 0) rfl 0 rfl dX12_rarity_8 ?_
  refine mg_getI C (k := 60) (by decide) rfl mL_liveMany rfl dX12_rarity_9 ?_
  refine mg_icmp_ge C 99 (by decide) dX12_rarity_12 (fun c_ => ?_) (fun c_ => ?_)
  · have h := h.1 c_
    refine mg_iconst C (x := nI 1) rfl dX12_rarity_99 ?_
    refine mg_istore C (lv' := [(5, .int ((nI 1))), (0, .ref (a 0)), (1, .int x1), (2, .long x2), (4, .int x4)]) (Nat.le_of_ble_eq_true rfl) rfl dX12_rarity_100 ?_
    refine mg_aload_n C (i := 0) rfl 1 rfl dX12_rarity_102 ?_
    refine mg_getI C (k := 60) (by decide) rfl mL_liveMany rfl dX12_rarity_103 ?_
    refine mg_iconst C (x := nI 1) rfl dX12_rarity_106 ?_
    refine mg_iadd C dX12_rarity_107 ?_
    refine mg_iload C 4 rfl dX12_rarity_108 ?_
    refine mg_iconst C (x := nI 1) rfl dX12_rarity_110 ?_
    refine mg_iadd C dX12_rarity_111 ?_
    obtain ⟨hc_112, h⟩ := h
    refine mg_idiv C hc_112 dX12_rarity_112 ?_
    refine mg_nmI (fun x6_1 e_x6_1 => ?_)
    have h := h x6_1 e_x6_1
    refine mg_istore C (lv' := [(6, .int x6_1), (5, .int ((nI 1))), (0, .ref (a 0)), (1, .int x1), (2, .long x2), (4, .int x4)]) (Nat.le_of_ble_eq_true rfl) rfl dX12_rarity_113 ?_
    exact mg_sub [1, 0] rfl (sl_rarity_115 C  (((nI 1))) x6_1 v f g h)
  · have h := h.2 c_
    refine mg_iconst C (x := nI 0) rfl dX12_rarity_15 ?_
    refine mg_istore C (lv' := [(6, .int ((nI 0))), (0, .ref (a 0)), (1, .int x1), (2, .long x2), (4, .int x4), (5, .int x5)]) (Nat.le_of_ble_eq_true rfl) rfl dX12_rarity_16 ?_
    refine mg_iconst C (x := nI 0) rfl dX12_rarity_18 ?_
    refine mg_istore C (lv' := [(7, .int ((nI 0))), (6, .int ((nI 0))), (0, .ref (a 0)), (1, .int x1), (2, .long x2), (4, .int x4), (5, .int x5)]) (Nat.le_of_ble_eq_true rfl) rfl dX12_rarity_19 ?_
    exact mg_sub [2, 3, 4, 5, 6, 1, 0] rfl (sl_rarity_21 C hR6 x1 x2 x4 x5 (((nI 0))) (((nI 0))) v f g h)
set_option maxRecDepth 20000 in
theorem sl_rarity_6 (C : mC p s m args meth c cX12_rarity 8 (some .int) A D cI cJ cZ) {post : Int32 → mS → Prop}   (x1 : Int32) (x2 : Int64) (x4 : Int32) (x5 : Int32) (v : Nat → Int32) (f : Nat → Nat → Int32) (g : Nat → Nat → Int64) (h : r_rarity_6L (fun r v f g => post r (v, f, g))  x1 x2 x4 x5 v f g) : mG p l e (mRm 2 53) s m args below meth c A D cI cJ cZ a 8 (MQ below (va_Qi post (mB D cI cJ cZ a) A) args s 0 0 A) 6 [(0, .ref (a 0)), (1, .int x1), (2, .long x2), (4, .int x4), (5, .int x5)] [] v f g :=
  h (fun y => mG p l e (mRm 2 53) s m args below meth c A D cI cJ cZ a 8 (MQ below (va_Qi post (mB D cI cJ cZ a) A) args s 0 0 A) 6 [(0, .ref (a 0)), (1, .int (y.1)), (2, .long (y.2.1)), (4, .int (y.2.2.1)), (5, .int (y.2.2.2.1))] [] (y.2.2.2.2.1) (y.2.2.2.2.2.1) (y.2.2.2.2.2.2)) (fun y hy => sb_rarity_6 C  (fun b0 b1 b2 b3 v f g z => z) (y.1) (y.2.1) (y.2.2.1) (y.2.2.2.1) (y.2.2.2.2.1) (y.2.2.2.2.2.1) (y.2.2.2.2.2.2) hy)
end S_rarity
set_option maxHeartbeats 1000000 in
set_option maxRecDepth 20000 in
theorem s_rarity (l : Launch) (x1 : Int32) (x2 : Int64) (v : Nat → Int32) (f : Nat → Nat → Int32) (g : Nat → Nat → Int64) {P : Int32 → (Nat → Int32) → (Nat → Nat → Int32) → (Nat → Nat → Int64) → Prop} (h : r_rarity P x1 x2 v f g) : mMi l yX12_rarity cX12_rarity 8 (some .int) 2 53 false [.int x1, .long x2] v f g (fun r w => P r w.1 w.2.1 w.2.2) := by
  intro D cI cJ cZ a sz
  refine mg_body (by decide +kernel) rfl (Nat.le_of_ble_eq_true rfl) ?_
  intro p e s m args below meth c hsz C
  clear hsz
  generalize va_A (mW cI cJ cZ a v f g) sz = A at C ⊢
  refine mg_lv (lv' := [(0, .ref (a 0)), (1, .int x1), (2, .long x2)]) rfl ?_
  unfold r_rarity at h
  refine mg_iconst C (x := nI 0) rfl dX12_rarity_0 ?_
  refine mg_istore C (lv' := [(4, .int ((nI 0))), (0, .ref (a 0)), (1, .int x1), (2, .long x2)]) (Nat.le_of_ble_eq_true rfl) rfl dX12_rarity_1 ?_
  refine mg_iconst C (x := nI 0) rfl dX12_rarity_3 ?_
  refine mg_istore C (lv' := [(5, .int ((nI 0))), (4, .int ((nI 0))), (0, .ref (a 0)), (1, .int x1), (2, .long x2)]) (Nat.le_of_ble_eq_true rfl) rfl dX12_rarity_4 ?_
  exact mg_sub [2, 3, 4, 1, 0] rfl (sl_rarity_6 C  x1 x2 (((nI 0))) (((nI 0))) v f g h)
def r_laysGains_128 (Q : (Nat → Int32) → (Nat → Nat → Int32) → (Nat → Nat → Int64) → Prop) (R2 : Int32 → Int32 → (Nat → Int32) → (Nat → Nat → Int32) → (Nat → Nat → Int64) → Prop) (x1 : Int32) (x2 : Int32) (t0 : Int32) (t1 : Int32) (v : Nat → Int32) (f : Nat → Nat → Int32) (g : Nat → Nat → Int64) : Prop :=
vp_in t1 48 ∧ (∀ f2 : Nat → Nat → Int32, f2 = mU f 55 (t1).toNatClampNeg t0 → ∀ x2_3 : Int32, x2_3 = x2 + nI 1 → R2 x1 x2_3 v f2 g)
def r_laysGains_127 (Q : (Nat → Int32) → (Nat → Nat → Int32) → (Nat → Nat → Int64) → Prop) (R2 : Int32 → Int32 → (Nat → Int32) → (Nat → Nat → Int32) → (Nat → Nat → Int64) → Prop) (x1 : Int32) (x2 : Int32) (t0 : Int32) (t1 : Int32) (t2 : Int32) (v : Nat → Int32) (f : Nat → Nat → Int32) (g : Nat → Nat → Int64) : Prop :=
r_laysGains_128 Q R2 x1 x2 ((t1 * t0)) t2 v f g
def r_laysGains_79 (Q : (Nat → Int32) → (Nat → Nat → Int32) → (Nat → Nat → Int64) → Prop) (R2 : Int32 → Int32 → (Nat → Int32) → (Nat → Nat → Int32) → (Nat → Nat → Int64) → Prop) (x1 : Int32) (x2 : Int32) (x3 : Int32) (x4 : Int32) (v : Nat → Int32) (f : Nat → Nat → Int32) (g : Nat → Nat → Int64) : Prop :=
vp_in x3 1968 ∧ (((((f 40 (x3).toNatClampNeg)) < ((nI 6)) →
  vp_in x3 1968 ∧ (vp_in ((f 41 (x3).toNatClampNeg)) 2 ∧ (vp_in x3 1968 ∧ (((((f 40 (x3).toNatClampNeg)) < ((nI 3)) →
    r_laysGains_127 Q R2 x1 x2 x4 ((f 49 ((f 41 (x3).toNatClampNeg)).toNatClampNeg)) x2 v f g) ∧
   (¬ ((f 40 (x3).toNatClampNeg)) < ((nI 3)) →
    r_laysGains_127 Q R2 x1 x2 ((nI 32)) ((f 49 ((f 41 (x3).toNatClampNeg)).toNatClampNeg)) x2 v f g)))))) ∧
 (¬ ((f 40 (x3).toNatClampNeg)) < ((nI 6)) →
  r_laysGains_128 Q R2 x1 x2 ((nI 0)) x2 v f g)))
def r_laysGains_25 (Q : (Nat → Int32) → (Nat → Nat → Int32) → (Nat → Nat → Int64) → Prop) (R2 : Int32 → Int32 → (Nat → Int32) → (Nat → Nat → Int32) → (Nat → Nat → Int64) → Prop) (R25 : Int32 → Int32 → Int32 → Int32 → Int32 → (Nat → Int32) → (Nat → Nat → Int32) → (Nat → Nat → Int64) → Prop) (x1 : Int32) (x2 : Int32) (x3 : Int32) (x4 : Int32) (x5 : Int32) (v : Nat → Int32) (f : Nat → Nat → Int32) (g : Nat → Nat → Int64) : Prop :=
vp_in x3 1968 ∧ (((((nI 3)) ≤ ((f 40 (x3).toNatClampNeg)) →
  r_laysGains_79 Q R2 x1 x2 x3 x4 v f g) ∧
 (¬ ((nI 3)) ≤ ((f 40 (x3).toNatClampNeg)) →
  vp_in x3 1968 ∧ (((((f 44 (x3).toNatClampNeg)) ≤ x5 →
    r_laysGains_79 Q R2 x1 x2 x3 x4 v f g) ∧
   (¬ ((f 44 (x3).toNatClampNeg)) ≤ x5 →
    vp_in x3 1968 ∧ (vp_in ((((((nI 6)) * x3)) + x5)) 11808 ∧ (r_rarity (fun r_4 v_4 f_4 g_4 => 
    ∀ x4_5 : Int32, x4_5 = (x4 + r_4) → ∀ x5_6 : Int32, x5_6 = x5 + nI 1 → R25 x1 x2 x3 x4_5 x5_6 v_4 f_4 g_4) ((f 41 (x3).toNatClampNeg)) (g 45 ((((((nI 6)) * x3)) + x5)).toNatClampNeg) v f g))))))))
def r_laysGains_25L (Q : (Nat → Int32) → (Nat → Nat → Int32) → (Nat → Nat → Int64) → Prop) (R2 : Int32 → Int32 → (Nat → Int32) → (Nat → Nat → Int32) → (Nat → Nat → Int64) → Prop) (x1 : Int32) (x2 : Int32) (x3 : Int32) (x4 : Int32) (x5 : Int32) (v : Nat → Int32) (f : Nat → Nat → Int32) (g : Nat → Nat → Int64) : Prop :=
  lfp (X := Int32 × Int32 × Int32 × Int32 × Int32 × (Nat → Int32) × (Nat → Nat → Int32) × (Nat → Nat → Int64)) (fun P y => r_laysGains_25 Q R2 (fun b0 b1 b2 b3 b4 v f g => P (b0, b1, b2, b3, b4, v, f, g)) y.1 y.2.1 y.2.2.1 y.2.2.2.1 y.2.2.2.2.1 y.2.2.2.2.2.1 y.2.2.2.2.2.2.1 y.2.2.2.2.2.2.2) (x1, x2, x3, x4, x5, v, f, g)
def r_laysGains_2 (Q : (Nat → Int32) → (Nat → Nat → Int32) → (Nat → Nat → Int64) → Prop) (R2 : Int32 → Int32 → (Nat → Int32) → (Nat → Nat → Int32) → (Nat → Nat → Int64) → Prop) (x1 : Int32) (x2 : Int32) (v : Nat → Int32) (f : Nat → Nat → Int32) (g : Nat → Nat → Int64) : Prop :=
vp_in x1 41 ∧ (((((f 48 (x1).toNatClampNeg)) ≤ x2 →
  Q v f g) ∧
 (¬ ((f 48 (x1).toNatClampNeg)) ≤ x2 →
  ∀ x3_1 : Int32, x3_1 = (((((nI 48)) * x1)) + x2) → r_laysGains_25L Q R2 x1 x2 x3_1 (((nI 0))) (((nI 0))) v f g)))
def r_laysGains_2L (Q : (Nat → Int32) → (Nat → Nat → Int32) → (Nat → Nat → Int64) → Prop)  (x1 : Int32) (x2 : Int32) (v : Nat → Int32) (f : Nat → Nat → Int32) (g : Nat → Nat → Int64) : Prop :=
  lfp (X := Int32 × Int32 × (Nat → Int32) × (Nat → Nat → Int32) × (Nat → Nat → Int64)) (fun P y => r_laysGains_2 Q  (fun b0 b1 v f g => P (b0, b1, v, f, g)) y.1 y.2.1 y.2.2.1 y.2.2.2.1 y.2.2.2.2) (x1, x2, v, f, g)
def r_laysGains (Q : (Nat → Int32) → (Nat → Nat → Int32) → (Nat → Nat → Int64) → Prop) (x1 : Int32) (v : Nat → Int32) (f : Nat → Nat → Int32) (g : Nat → Nat → Int64) : Prop :=
r_laysGains_2L Q  x1 (((nI 0))) v f g
section S_laysGains
variable {p : Program} {l : Launch} {e : Env} {s : State} {m : MethodId} {args : Array Value} {below : List Frame} {meth : Method} {c : Code} {A : Nat → Prop} {D : va_G} {cI cJ cZ : ClassId} {a : Nat → Nat}
set_option maxRecDepth 20000 in
theorem sb_laysGains_128 (C : mC p s m args meth c cX12_laysGains 6 none A D cI cJ cZ) {post : mS → Prop} {R2 : Int32 → Int32 → (Nat → Int32) → (Nat → Nat → Int32) → (Nat → Nat → Int64) → Prop} (hR2 : ∀ (x1 : Int32) (x2 : Int32) (v : Nat → Int32) (f : Nat → Nat → Int32) (g : Nat → Nat → Int64), R2 x1 x2 v f g → mG p l e (mRm 3 80) s m args below meth c A D cI cJ cZ a 6 (MQ below (va_Qv post (mB D cI cJ cZ a) A) args s 0 0 A) 2 [(0, .ref (a 0)), (1, .int x1), (2, .int x2)] [] v f g) (x1 : Int32) (x2 : Int32) (t0 : Int32) (t1 : Int32) (v : Nat → Int32) (f : Nat → Nat → Int32) (g : Nat → Nat → Int64) (h : r_laysGains_128 (fun v f g => post (v, f, g)) R2 x1 x2 t0 t1 v f g) : mG p l e (mRm 3 80) s m args below meth c A D cI cJ cZ a 6 (MQ below (va_Qv post (mB D cI cJ cZ a) A) args s 0 0 A) 128 [(0, .ref (a 0)), (1, .int x1), (2, .int x2)] [.int t0, .int t1, .ref (a 55)] v f g := by
  unfold r_laysGains_128 at h
  obtain ⟨hc_128, h⟩ := h
  refine mg_iastoreR C (n := 48) 55 (by decide) (by decide) rfl rfl hc_128 dX12_laysGains_128 ?_
  refine mg_nmF (fun f2 e_f2 => ?_)
  have h := h f2 e_f2
  obtain ⟨x2_3, e_x2_3⟩ : ∃ z : Int32, z = x2 + nI 1 := ⟨_, rfl⟩
  have h := h x2_3 e_x2_3
  refine mg_iinc C (lv' := [(2, .int x2_3), (0, .ref (a 0)), (1, .int x1)]) 2 rfl (by rw [e_x2_3]; rfl) (Nat.le_of_ble_eq_true rfl) rfl dX12_laysGains_129 ?_
  refine mg_goto C 2 (by decide) dX12_laysGains_132 ?_
  exact mg_sub [1, 2, 0] rfl (hR2 x1 x2_3 v f2 g h)
set_option maxRecDepth 20000 in
theorem sb_laysGains_127 (C : mC p s m args meth c cX12_laysGains 6 none A D cI cJ cZ) {post : mS → Prop} {R2 : Int32 → Int32 → (Nat → Int32) → (Nat → Nat → Int32) → (Nat → Nat → Int64) → Prop} (hR2 : ∀ (x1 : Int32) (x2 : Int32) (v : Nat → Int32) (f : Nat → Nat → Int32) (g : Nat → Nat → Int64), R2 x1 x2 v f g → mG p l e (mRm 3 80) s m args below meth c A D cI cJ cZ a 6 (MQ below (va_Qv post (mB D cI cJ cZ a) A) args s 0 0 A) 2 [(0, .ref (a 0)), (1, .int x1), (2, .int x2)] [] v f g) (x1 : Int32) (x2 : Int32) (t0 : Int32) (t1 : Int32) (t2 : Int32) (v : Nat → Int32) (f : Nat → Nat → Int32) (g : Nat → Nat → Int64) (h : r_laysGains_127 (fun v f g => post (v, f, g)) R2 x1 x2 t0 t1 t2 v f g) : mG p l e (mRm 3 80) s m args below meth c A D cI cJ cZ a 6 (MQ below (va_Qv post (mB D cI cJ cZ a) A) args s 0 0 A) 127 [(0, .ref (a 0)), (1, .int x1), (2, .int x2)] [.int t0, .int t1, .int t2, .ref (a 55)] v f g := by
  unfold r_laysGains_127 at h
  refine mg_imul C dX12_laysGains_127 ?_
  exact mg_sub [0, 1, 2] rfl (sb_laysGains_128 C hR2 x1 x2 ((t1 * t0)) t2 v f g h)
set_option maxRecDepth 20000 in
theorem sb_laysGains_79 (C : mC p s m args meth c cX12_laysGains 6 none A D cI cJ cZ) {post : mS → Prop} {R2 : Int32 → Int32 → (Nat → Int32) → (Nat → Nat → Int32) → (Nat → Nat → Int64) → Prop} (hR2 : ∀ (x1 : Int32) (x2 : Int32) (v : Nat → Int32) (f : Nat → Nat → Int32) (g : Nat → Nat → Int64), R2 x1 x2 v f g → mG p l e (mRm 3 80) s m args below meth c A D cI cJ cZ a 6 (MQ below (va_Qv post (mB D cI cJ cZ a) A) args s 0 0 A) 2 [(0, .ref (a 0)), (1, .int x1), (2, .int x2)] [] v f g) (x1 : Int32) (x2 : Int32) (x3 : Int32) (x4 : Int32) (v : Nat → Int32) (f : Nat → Nat → Int32) (g : Nat → Nat → Int64) (h : r_laysGains_79 (fun v f g => post (v, f, g)) R2 x1 x2 x3 x4 v f g) : mG p l e (mRm 3 80) s m args below meth c A D cI cJ cZ a 6 (MQ below (va_Qv post (mB D cI cJ cZ a) A) args s 0 0 A) 79 [(0, .ref (a 0)), (1, .int x1), (2, .int x2), (3, .int x3), (4, .int x4)] [] v f g := by
  unfold r_laysGains_79 at h
  refine mg_aload_n C (i := 0) rfl 0 rfl dX12_laysGains_79 ?_
  refine mg_arr C 55 (by decide) (by decide) rfl mL_gains rfl dX12_laysGains_80 ?_
  refine mg_iload_n C (i := 2) rfl 2 rfl dX12_laysGains_83 ?_
  refine mg_aload_n C (i := 0) rfl 0 rfl dX12_laysGains_84 ?_
  refine mg_arr C 40 (by decide) (by decide) rfl mL_kinds rfl dX12_laysGains_85 ?_
  refine mg_iload_n C (i := 3) rfl 3 rfl dX12_laysGains_88 ?_
  obtain ⟨hc_89, h⟩ := h
  refine mg_ialoadR C (n := 1968) 40 (by decide) (by decide) rfl rfl hc_89 dX12_laysGains_89 ?_
  refine mg_bipush C (x := nI 6) rfl dX12_laysGains_90 ?_
  refine mg_icmp_lt C 99 (by decide) dX12_laysGains_92 (fun c_ => ?_) (fun c_ => ?_)
  · have h := h.1 c_
    refine mg_aload_n C (i := 0) rfl 0 rfl dX12_laysGains_99 ?_
    refine mg_arr C 49 (by decide) (by decide) rfl mL_weights rfl dX12_laysGains_100 ?_
    refine mg_aload_n C (i := 0) rfl 0 rfl dX12_laysGains_103 ?_
    refine mg_arr C 41 (by decide) (by decide) rfl mL_fields rfl dX12_laysGains_104 ?_
    refine mg_iload_n C (i := 3) rfl 3 rfl dX12_laysGains_107 ?_
    obtain ⟨hc_108, h⟩ := h
    refine mg_ialoadR C (n := 1968) 41 (by decide) (by decide) rfl rfl hc_108 dX12_laysGains_108 ?_
    obtain ⟨hc_109, h⟩ := h
    refine mg_ialoadR C (n := 2) 49 (by decide) (by decide) rfl rfl hc_109 dX12_laysGains_109 ?_
    refine mg_aload_n C (i := 0) rfl 0 rfl dX12_laysGains_110 ?_
    refine mg_arr C 40 (by decide) (by decide) rfl mL_kinds rfl dX12_laysGains_111 ?_
    refine mg_iload_n C (i := 3) rfl 3 rfl dX12_laysGains_114 ?_
    obtain ⟨hc_115, h⟩ := h
    refine mg_ialoadR C (n := 1968) 40 (by decide) (by decide) rfl rfl hc_115 dX12_laysGains_115 ?_
    refine mg_iconst C (x := nI 3) rfl dX12_laysGains_116 ?_
    refine mg_icmp_lt C 125 (by decide) dX12_laysGains_117 (fun c_ => ?_) (fun c_ => ?_)
    · have h := h.1 c_
      refine mg_iload C 4 rfl dX12_laysGains_125 ?_
      exact mg_sub [0, 1, 2] rfl (sb_laysGains_127 C hR2 x1 x2 x4 ((f 49 ((f 41 (x3).toNatClampNeg)).toNatClampNeg)) x2 v f g h)
    · have h := h.2 c_
      refine mg_bipush C (x := nI 32) rfl dX12_laysGains_120 ?_
      refine mg_goto C 127 (by decide) dX12_laysGains_122 ?_
      exact mg_sub [0, 1, 2] rfl (sb_laysGains_127 C hR2 x1 x2 ((nI 32)) ((f 49 ((f 41 (x3).toNatClampNeg)).toNatClampNeg)) x2 v f g h)
  · have h := h.2 c_
    refine mg_iconst C (x := nI 0) rfl dX12_laysGains_95 ?_
    refine mg_goto C 128 (by decide) dX12_laysGains_96 ?_
    exact mg_sub [0, 1, 2] rfl (sb_laysGains_128 C hR2 x1 x2 ((nI 0)) x2 v f g h)
set_option maxRecDepth 20000 in
theorem sb_laysGains_25 (C : mC p s m args meth c cX12_laysGains 6 none A D cI cJ cZ) {post : mS → Prop} {R2 : Int32 → Int32 → (Nat → Int32) → (Nat → Nat → Int32) → (Nat → Nat → Int64) → Prop} {R25 : Int32 → Int32 → Int32 → Int32 → Int32 → (Nat → Int32) → (Nat → Nat → Int32) → (Nat → Nat → Int64) → Prop} (hR2 : ∀ (x1 : Int32) (x2 : Int32) (v : Nat → Int32) (f : Nat → Nat → Int32) (g : Nat → Nat → Int64), R2 x1 x2 v f g → mG p l e (mRm 3 80) s m args below meth c A D cI cJ cZ a 6 (MQ below (va_Qv post (mB D cI cJ cZ a) A) args s 0 0 A) 2 [(0, .ref (a 0)), (1, .int x1), (2, .int x2)] [] v f g) (hR25 : ∀ (x1 : Int32) (x2 : Int32) (x3 : Int32) (x4 : Int32) (x5 : Int32) (v : Nat → Int32) (f : Nat → Nat → Int32) (g : Nat → Nat → Int64), R25 x1 x2 x3 x4 x5 v f g → mG p l e (mRm 3 80) s m args below meth c A D cI cJ cZ a 6 (MQ below (va_Qv post (mB D cI cJ cZ a) A) args s 0 0 A) 25 [(0, .ref (a 0)), (1, .int x1), (2, .int x2), (3, .int x3), (4, .int x4), (5, .int x5)] [] v f g) (x1 : Int32) (x2 : Int32) (x3 : Int32) (x4 : Int32) (x5 : Int32) (v : Nat → Int32) (f : Nat → Nat → Int32) (g : Nat → Nat → Int64) (h : r_laysGains_25 (fun v f g => post (v, f, g)) R2 R25 x1 x2 x3 x4 x5 v f g) : mG p l e (mRm 3 80) s m args below meth c A D cI cJ cZ a 6 (MQ below (va_Qv post (mB D cI cJ cZ a) A) args s 0 0 A) 25 [(0, .ref (a 0)), (1, .int x1), (2, .int x2), (3, .int x3), (4, .int x4), (5, .int x5)] [] v f g := by
  unfold r_laysGains_25 at h
  refine mg_aload_n C (i := 0) rfl 0 rfl dX12_laysGains_25 ?_
  refine mg_arr C 40 (by decide) (by decide) rfl mL_kinds rfl dX12_laysGains_26 ?_
  refine mg_iload_n C (i := 3) rfl 3 rfl dX12_laysGains_29 ?_
  obtain ⟨hc_30, h⟩ := h
  refine mg_ialoadR C (n := 1968) 40 (by decide) (by decide) rfl rfl hc_30 dX12_laysGains_30 ?_
  refine mg_iconst C (x := nI 3) rfl dX12_laysGains_31 ?_
  refine mg_icmp_ge C 79 (by decide) dX12_laysGains_32 (fun c_ => ?_) (fun c_ => ?_)
  · have h := h.1 c_
    exact mg_sub [0, 1, 2, 3, 4] rfl (sb_laysGains_79 C hR2 x1 x2 x3 x4 v f g h)
  · have h := h.2 c_
    refine mg_iload C 5 rfl dX12_laysGains_35 ?_
    refine mg_aload_n C (i := 0) rfl 0 rfl dX12_laysGains_37 ?_
    refine mg_arr C 44 (by decide) (by decide) rfl mL_many rfl dX12_laysGains_38 ?_
    refine mg_iload_n C (i := 3) rfl 3 rfl dX12_laysGains_41 ?_
    obtain ⟨hc_42, h⟩ := h
    refine mg_ialoadR C (n := 1968) 44 (by decide) (by decide) rfl rfl hc_42 dX12_laysGains_42 ?_
    refine mg_icmp_ge C 79 (by decide) dX12_laysGains_43 (fun c_ => ?_) (fun c_ => ?_)
    · have h := h.1 c_
      exact mg_sub [0, 1, 2, 3, 4] rfl (sb_laysGains_79 C hR2 x1 x2 x3 x4 v f g h)
    · have h := h.2 c_
      refine mg_iload C 4 rfl dX12_laysGains_46 ?_
      refine mg_aload_n C (i := 0) rfl 0 rfl dX12_laysGains_48 ?_
      refine mg_aload_n C (i := 0) rfl 0 rfl dX12_laysGains_49 ?_
      refine mg_arr C 41 (by decide) (by decide) rfl mL_fields rfl dX12_laysGains_50 ?_
      refine mg_iload_n C (i := 3) rfl 3 rfl dX12_laysGains_53 ?_
      obtain ⟨hc_54, h⟩ := h
      refine mg_ialoadR C (n := 1968) 41 (by decide) (by decide) rfl rfl hc_54 dX12_laysGains_54 ?_
      refine mg_aload_n C (i := 0) rfl 0 rfl dX12_laysGains_55 ?_
      refine mg_arr C 45 (by decide) (by decide) rfl mL_leafTokens rfl dX12_laysGains_56 ?_
      refine mg_bipush C (x := nI 6) rfl dX12_laysGains_59 ?_
      refine mg_iload_n C (i := 3) rfl 3 rfl dX12_laysGains_61 ?_
      refine mg_imul C dX12_laysGains_62 ?_
      refine mg_iload C 5 rfl dX12_laysGains_63 ?_
      refine mg_iadd C dX12_laysGains_65 ?_
      obtain ⟨hc_66, h⟩ := h
      refine mg_laloadR C (n := 11808) 45 (by decide) (by decide) rfl rfl hc_66 dX12_laysGains_66 ?_
      refine mg_calliW C (s_rarity l ((f 41 (x3).toNatClampNeg)) (g 45 ((((((nI 6)) * x3)) + x5)).toNatClampNeg) v f g h) mCal_rarity rfl ⟨by decide, by decide⟩ rfl (Nat.le_of_ble_eq_true rfl) dX12_laysGains_67 (fun r_4 v_4 f_4 g_4 h => ?_)
      refine mg_iadd C dX12_laysGains_70 ?_
      refine mg_nmI (fun x4_5 e_x4_5 => ?_)
      have h := h x4_5 e_x4_5
      refine mg_istore C (lv' := [(4, .int x4_5), (0, .ref (a 0)), (1, .int x1), (2, .int x2), (3, .int x3), (5, .int x5)]) (Nat.le_of_ble_eq_true rfl) rfl dX12_laysGains_71 ?_
      obtain ⟨x5_6, e_x5_6⟩ : ∃ z : Int32, z = x5 + nI 1 := ⟨_, rfl⟩
      have h := h x5_6 e_x5_6
      refine mg_iinc C (lv' := [(5, .int x5_6), (4, .int x4_5), (0, .ref (a 0)), (1, .int x1), (2, .int x2), (3, .int x3)]) 5 rfl (by rw [e_x5_6]; rfl) (Nat.le_of_ble_eq_true rfl) rfl dX12_laysGains_73 ?_
      refine mg_goto C 25 (by decide) dX12_laysGains_76 ?_
      exact mg_sub [2, 3, 4, 5, 1, 0] rfl (hR25 x1 x2 x3 x4_5 x5_6 v_4 f_4 g_4 h)
set_option maxRecDepth 20000 in
theorem sl_laysGains_25 (C : mC p s m args meth c cX12_laysGains 6 none A D cI cJ cZ) {post : mS → Prop} {R2 : Int32 → Int32 → (Nat → Int32) → (Nat → Nat → Int32) → (Nat → Nat → Int64) → Prop} (hR2 : ∀ (x1 : Int32) (x2 : Int32) (v : Nat → Int32) (f : Nat → Nat → Int32) (g : Nat → Nat → Int64), R2 x1 x2 v f g → mG p l e (mRm 3 80) s m args below meth c A D cI cJ cZ a 6 (MQ below (va_Qv post (mB D cI cJ cZ a) A) args s 0 0 A) 2 [(0, .ref (a 0)), (1, .int x1), (2, .int x2)] [] v f g) (x1 : Int32) (x2 : Int32) (x3 : Int32) (x4 : Int32) (x5 : Int32) (v : Nat → Int32) (f : Nat → Nat → Int32) (g : Nat → Nat → Int64) (h : r_laysGains_25L (fun v f g => post (v, f, g)) R2 x1 x2 x3 x4 x5 v f g) : mG p l e (mRm 3 80) s m args below meth c A D cI cJ cZ a 6 (MQ below (va_Qv post (mB D cI cJ cZ a) A) args s 0 0 A) 25 [(0, .ref (a 0)), (1, .int x1), (2, .int x2), (3, .int x3), (4, .int x4), (5, .int x5)] [] v f g :=
  h (fun y => mG p l e (mRm 3 80) s m args below meth c A D cI cJ cZ a 6 (MQ below (va_Qv post (mB D cI cJ cZ a) A) args s 0 0 A) 25 [(0, .ref (a 0)), (1, .int (y.1)), (2, .int (y.2.1)), (3, .int (y.2.2.1)), (4, .int (y.2.2.2.1)), (5, .int (y.2.2.2.2.1))] [] (y.2.2.2.2.2.1) (y.2.2.2.2.2.2.1) (y.2.2.2.2.2.2.2)) (fun y hy => sb_laysGains_25 C hR2 (fun b0 b1 b2 b3 b4 v f g z => z) (y.1) (y.2.1) (y.2.2.1) (y.2.2.2.1) (y.2.2.2.2.1) (y.2.2.2.2.2.1) (y.2.2.2.2.2.2.1) (y.2.2.2.2.2.2.2) hy)
set_option maxRecDepth 20000 in
theorem sb_laysGains_2 (C : mC p s m args meth c cX12_laysGains 6 none A D cI cJ cZ) {post : mS → Prop} {R2 : Int32 → Int32 → (Nat → Int32) → (Nat → Nat → Int32) → (Nat → Nat → Int64) → Prop} (hR2 : ∀ (x1 : Int32) (x2 : Int32) (v : Nat → Int32) (f : Nat → Nat → Int32) (g : Nat → Nat → Int64), R2 x1 x2 v f g → mG p l e (mRm 3 80) s m args below meth c A D cI cJ cZ a 6 (MQ below (va_Qv post (mB D cI cJ cZ a) A) args s 0 0 A) 2 [(0, .ref (a 0)), (1, .int x1), (2, .int x2)] [] v f g) (x1 : Int32) (x2 : Int32) (v : Nat → Int32) (f : Nat → Nat → Int32) (g : Nat → Nat → Int64) (h : r_laysGains_2 (fun v f g => post (v, f, g)) R2 x1 x2 v f g) : mG p l e (mRm 3 80) s m args below meth c A D cI cJ cZ a 6 (MQ below (va_Qv post (mB D cI cJ cZ a) A) args s 0 0 A) 2 [(0, .ref (a 0)), (1, .int x1), (2, .int x2)] [] v f g := by
  unfold r_laysGains_2 at h
  refine mg_iload_n C (i := 2) rfl 2 rfl dX12_laysGains_2 ?_
  refine mg_aload_n C (i := 0) rfl 0 rfl dX12_laysGains_3 ?_
  refine mg_arr C 48 (by decide) (by decide) rfl mL_opsMany rfl dX12_laysGains_4 ?_
  refine mg_iload_n C (i := 1) rfl 1 rfl dX12_laysGains_7 ?_
  obtain ⟨hc_8, h⟩ := h
  refine mg_ialoadR C (n := 41) 48 (by decide) (by decide) rfl rfl hc_8 dX12_laysGains_8 ?_
  refine mg_icmp_ge C 135 (by decide) dX12_laysGains_9 (fun c_ => ?_) (fun c_ => ?_)
  · have h := h.1 c_
    exact mg_vret C h dX12_laysGains_135
  · have h := h.2 c_
    refine mg_bipush C (x := nI 48) rfl dX12_laysGains_12 ?_
    refine mg_iload_n C (i := 1) rfl 1 rfl dX12_laysGains_14 ?_
    refine mg_imul C dX12_laysGains_15 ?_
    refine mg_iload_n C (i := 2) rfl 2 rfl dX12_laysGains_16 ?_
    refine mg_iadd C dX12_laysGains_17 ?_
    refine mg_nmI (fun x3_1 e_x3_1 => ?_)
    have h := h x3_1 e_x3_1
    refine mg_istore_n C (i := 3) (lv' := [(3, .int x3_1), (0, .ref (a 0)), (1, .int x1), (2, .int x2)]) rfl (Nat.le_of_ble_eq_true rfl) rfl dX12_laysGains_18 ?_
    refine mg_iconst C (x := nI 0) rfl dX12_laysGains_19 ?_
    refine mg_istore C (lv' := [(4, .int ((nI 0))), (3, .int x3_1), (0, .ref (a 0)), (1, .int x1), (2, .int x2)]) (Nat.le_of_ble_eq_true rfl) rfl dX12_laysGains_20 ?_
    refine mg_iconst C (x := nI 0) rfl dX12_laysGains_22 ?_
    refine mg_istore C (lv' := [(5, .int ((nI 0))), (4, .int ((nI 0))), (3, .int x3_1), (0, .ref (a 0)), (1, .int x1), (2, .int x2)]) (Nat.le_of_ble_eq_true rfl) rfl dX12_laysGains_23 ?_
    exact mg_sub [3, 4, 5, 2, 1, 0] rfl (sl_laysGains_25 C hR2 x1 x2 x3_1 (((nI 0))) (((nI 0))) v f g h)
set_option maxRecDepth 20000 in
theorem sl_laysGains_2 (C : mC p s m args meth c cX12_laysGains 6 none A D cI cJ cZ) {post : mS → Prop}   (x1 : Int32) (x2 : Int32) (v : Nat → Int32) (f : Nat → Nat → Int32) (g : Nat → Nat → Int64) (h : r_laysGains_2L (fun v f g => post (v, f, g))  x1 x2 v f g) : mG p l e (mRm 3 80) s m args below meth c A D cI cJ cZ a 6 (MQ below (va_Qv post (mB D cI cJ cZ a) A) args s 0 0 A) 2 [(0, .ref (a 0)), (1, .int x1), (2, .int x2)] [] v f g :=
  h (fun y => mG p l e (mRm 3 80) s m args below meth c A D cI cJ cZ a 6 (MQ below (va_Qv post (mB D cI cJ cZ a) A) args s 0 0 A) 2 [(0, .ref (a 0)), (1, .int (y.1)), (2, .int (y.2.1))] [] (y.2.2.1) (y.2.2.2.1) (y.2.2.2.2)) (fun y hy => sb_laysGains_2 C  (fun b0 b1 v f g z => z) (y.1) (y.2.1) (y.2.2.1) (y.2.2.2.1) (y.2.2.2.2) hy)
end S_laysGains
set_option maxHeartbeats 1000000 in
set_option maxRecDepth 20000 in
theorem s_laysGains (l : Launch) (x1 : Int32) (v : Nat → Int32) (f : Nat → Nat → Int32) (g : Nat → Nat → Int64) {P : (Nat → Int32) → (Nat → Nat → Int32) → (Nat → Nat → Int64) → Prop} (h : r_laysGains P x1 v f g) : mMv l yX12_laysGains cX12_laysGains 6 none 3 80 false [.int x1] v f g (fun w => P w.1 w.2.1 w.2.2) := by
  intro D cI cJ cZ a sz
  refine mg_body (by decide +kernel) rfl (Nat.le_of_ble_eq_true rfl) ?_
  intro p e s m args below meth c hsz C
  clear hsz
  generalize va_A (mW cI cJ cZ a v f g) sz = A at C ⊢
  refine mg_lv (lv' := [(0, .ref (a 0)), (1, .int x1)]) rfl ?_
  unfold r_laysGains at h
  refine mg_iconst C (x := nI 0) rfl dX12_laysGains_0 ?_
  refine mg_istore_n C (i := 2) (lv' := [(2, .int ((nI 0))), (0, .ref (a 0)), (1, .int x1)]) rfl (Nat.le_of_ble_eq_true rfl) rfl dX12_laysGains_1 ?_
  exact mg_sub [1, 2, 0] rfl (sl_laysGains_2 C  x1 (((nI 0))) v f g h)
def r_laysSeconds_103 (Q : (Nat → Int32) → (Nat → Nat → Int32) → (Nat → Nat → Int64) → Prop) (R4 : Int32 → Int32 → Int32 → (Nat → Int32) → (Nat → Nat → Int32) → (Nat → Nat → Int64) → Prop) (x1 : Int32) (x2 : Int32) (x3 : Int32) (v : Nat → Int32) (f : Nat → Nat → Int32) (g : Nat → Nat → Int64) : Prop :=
∀ x2_5 : Int32, x2_5 = x2 + nI 1 → ∀ x3_6 : Int32, x3_6 = x3 + nI 1 → R4 x1 x2_5 x3_6 v f g
def r_laysSeconds_93 (Q : (Nat → Int32) → (Nat → Nat → Int32) → (Nat → Nat → Int64) → Prop) (R4 : Int32 → Int32 → Int32 → (Nat → Int32) → (Nat → Nat → Int32) → (Nat → Nat → Int64) → Prop) (x1 : Int32) (x2 : Int32) (x3 : Int32) (x4 : Int32) (v : Nat → Int32) (f : Nat → Nat → Int32) (g : Nat → Nat → Int64) : Prop :=
vp_in x4 1968 ∧ (∀ x2_4 : Int32, x2_4 = (x2 - ((f 44 (x4).toNatClampNeg))) → r_laysSeconds_103 Q R4 x1 x2_4 x3 v f g)
def r_laysSeconds_61 (Q : (Nat → Int32) → (Nat → Nat → Int32) → (Nat → Nat → Int64) → Prop) (R4 : Int32 → Int32 → Int32 → (Nat → Int32) → (Nat → Nat → Int32) → (Nat → Nat → Int64) → Prop) (R61 : Int32 → Int32 → Int32 → Int32 → Int32 → (Nat → Int32) → (Nat → Nat → Int32) → (Nat → Nat → Int64) → Prop) (x1 : Int32) (x2 : Int32) (x3 : Int32) (x4 : Int32) (x5 : Int32) (v : Nat → Int32) (f : Nat → Nat → Int32) (g : Nat → Nat → Int64) : Prop :=
vp_in x4 1968 ∧ (((¬ ((f 40 (x4).toNatClampNeg)) = ((nI 7)) →
  r_laysSeconds_93 Q R4 x1 x2 x3 x4 v f g) ∧
 (((f 40 (x4).toNatClampNeg)) = ((nI 7)) →
  ((x3 ≤ x5 →
    r_laysSeconds_93 Q R4 x1 x2 x3 x4 v f g) ∧
   (¬ x3 ≤ x5 →
    vp_in x5 48 ∧ (∀ f7 : Nat → Nat → Int32, f7 = mU f 56 (x5).toNatClampNeg ((bI true)) → ∀ x5_8 : Int32, x5_8 = x5 + nI 1 → R61 x1 x2 x3 x4 x5_8 v f7 g))))))
def r_laysSeconds_61L (Q : (Nat → Int32) → (Nat → Nat → Int32) → (Nat → Nat → Int64) → Prop) (R4 : Int32 → Int32 → Int32 → (Nat → Int32) → (Nat → Nat → Int32) → (Nat → Nat → Int64) → Prop) (x1 : Int32) (x2 : Int32) (x3 : Int32) (x4 : Int32) (x5 : Int32) (v : Nat → Int32) (f : Nat → Nat → Int32) (g : Nat → Nat → Int64) : Prop :=
  lfp (X := Int32 × Int32 × Int32 × Int32 × Int32 × (Nat → Int32) × (Nat → Nat → Int32) × (Nat → Nat → Int64)) (fun P y => r_laysSeconds_61 Q R4 (fun b0 b1 b2 b3 b4 v f g => P (b0, b1, b2, b3, b4, v, f, g)) y.1 y.2.1 y.2.2.1 y.2.2.2.1 y.2.2.2.2.1 y.2.2.2.2.2.1 y.2.2.2.2.2.2.1 y.2.2.2.2.2.2.2) (x1, x2, x3, x4, x5, v, f, g)
def r_laysSeconds_4 (Q : (Nat → Int32) → (Nat → Nat → Int32) → (Nat → Nat → Int64) → Prop) (R4 : Int32 → Int32 → Int32 → (Nat → Int32) → (Nat → Nat → Int32) → (Nat → Nat → Int64) → Prop) (x1 : Int32) (x2 : Int32) (x3 : Int32) (v : Nat → Int32) (f : Nat → Nat → Int32) (g : Nat → Nat → Int64) : Prop :=
vp_in x1 41 ∧ (((((f 48 (x1).toNatClampNeg)) ≤ x3 →
  Q v f g) ∧
 (¬ ((f 48 (x1).toNatClampNeg)) ≤ x3 →
  ∀ x4_1 : Int32, x4_1 = (((((nI 48)) * x1)) + x3) → vp_in x3 48 ∧ (∀ f2 : Nat → Nat → Int32, f2 = mU f 56 (x3).toNatClampNeg ((bI false)) → vp_in x4_1 1968 ∧ (((((nI 6)) ≤ ((f2 40 (x4_1).toNatClampNeg)) →
    vp_in ((x2 - ((nI 1)))) 50 ∧ (∀ x5_3 : Int32, x5_3 = (f2 54 ((x2 - ((nI 1)))).toNatClampNeg) → r_laysSeconds_61L Q R4 x1 x2 x3 x4_1 x5_3 v f2 g)) ∧
   (¬ ((nI 6)) ≤ ((f2 40 (x4_1).toNatClampNeg)) →
    vp_in x2 50 ∧ (∀ f9 : Nat → Nat → Int32, f9 = mU f2 54 (x2).toNatClampNeg x3 → r_laysSeconds_103 Q R4 x1 x2 x3 v f9 g))))))))
def r_laysSeconds_4L (Q : (Nat → Int32) → (Nat → Nat → Int32) → (Nat → Nat → Int64) → Prop)  (x1 : Int32) (x2 : Int32) (x3 : Int32) (v : Nat → Int32) (f : Nat → Nat → Int32) (g : Nat → Nat → Int64) : Prop :=
  lfp (X := Int32 × Int32 × Int32 × (Nat → Int32) × (Nat → Nat → Int32) × (Nat → Nat → Int64)) (fun P y => r_laysSeconds_4 Q  (fun b0 b1 b2 v f g => P (b0, b1, b2, v, f, g)) y.1 y.2.1 y.2.2.1 y.2.2.2.1 y.2.2.2.2.1 y.2.2.2.2.2) (x1, x2, x3, v, f, g)
def r_laysSeconds (Q : (Nat → Int32) → (Nat → Nat → Int32) → (Nat → Nat → Int64) → Prop) (x1 : Int32) (v : Nat → Int32) (f : Nat → Nat → Int32) (g : Nat → Nat → Int64) : Prop :=
r_laysSeconds_4L Q  x1 (((nI 0))) (((nI 0))) v f g
section S_laysSeconds
variable {p : Program} {l : Launch} {e : Env} {s : State} {m : MethodId} {args : Array Value} {below : List Frame} {meth : Method} {c : Code} {A : Nat → Prop} {D : va_G} {cI cJ cZ : ClassId} {a : Nat → Nat}
set_option maxRecDepth 20000 in
theorem sb_laysSeconds_103 (C : mC p s m args meth c cX12_laysSeconds 6 none A D cI cJ cZ) {post : mS → Prop} {R4 : Int32 → Int32 → Int32 → (Nat → Int32) → (Nat → Nat → Int32) → (Nat → Nat → Int64) → Prop} (hR4 : ∀ (x1 : Int32) (x2 : Int32) (x3 : Int32) (v : Nat → Int32) (f : Nat → Nat → Int32) (g : Nat → Nat → Int64), R4 x1 x2 x3 v f g → mG p l e (mRm 0 0) s m args below meth c A D cI cJ cZ a 6 (MQ below (va_Qv post (mB D cI cJ cZ a) A) args s 0 0 A) 4 [(0, .ref (a 0)), (1, .int x1), (2, .int x2), (3, .int x3)] [] v f g) (x1 : Int32) (x2 : Int32) (x3 : Int32) (v : Nat → Int32) (f : Nat → Nat → Int32) (g : Nat → Nat → Int64) (h : r_laysSeconds_103 (fun v f g => post (v, f, g)) R4 x1 x2 x3 v f g) : mG p l e (mRm 0 0) s m args below meth c A D cI cJ cZ a 6 (MQ below (va_Qv post (mB D cI cJ cZ a) A) args s 0 0 A) 103 [(0, .ref (a 0)), (1, .int x1), (2, .int x2), (3, .int x3)] [] v f g := by
  unfold r_laysSeconds_103 at h
  obtain ⟨x2_5, e_x2_5⟩ : ∃ z : Int32, z = x2 + nI 1 := ⟨_, rfl⟩
  have h := h x2_5 e_x2_5
  refine mg_iinc C (lv' := [(2, .int x2_5), (0, .ref (a 0)), (1, .int x1), (3, .int x3)]) 2 rfl (by rw [e_x2_5]; rfl) (Nat.le_of_ble_eq_true rfl) rfl dX12_laysSeconds_103 ?_
  obtain ⟨x3_6, e_x3_6⟩ : ∃ z : Int32, z = x3 + nI 1 := ⟨_, rfl⟩
  have h := h x3_6 e_x3_6
  refine mg_iinc C (lv' := [(3, .int x3_6), (2, .int x2_5), (0, .ref (a 0)), (1, .int x1)]) 3 rfl (by rw [e_x3_6]; rfl) (Nat.le_of_ble_eq_true rfl) rfl dX12_laysSeconds_106 ?_
  refine mg_goto C 4 (by decide) dX12_laysSeconds_109 ?_
  exact mg_sub [2, 3, 1, 0] rfl (hR4 x1 x2_5 x3_6 v f g h)
set_option maxRecDepth 20000 in
theorem sb_laysSeconds_93 (C : mC p s m args meth c cX12_laysSeconds 6 none A D cI cJ cZ) {post : mS → Prop} {R4 : Int32 → Int32 → Int32 → (Nat → Int32) → (Nat → Nat → Int32) → (Nat → Nat → Int64) → Prop} (hR4 : ∀ (x1 : Int32) (x2 : Int32) (x3 : Int32) (v : Nat → Int32) (f : Nat → Nat → Int32) (g : Nat → Nat → Int64), R4 x1 x2 x3 v f g → mG p l e (mRm 0 0) s m args below meth c A D cI cJ cZ a 6 (MQ below (va_Qv post (mB D cI cJ cZ a) A) args s 0 0 A) 4 [(0, .ref (a 0)), (1, .int x1), (2, .int x2), (3, .int x3)] [] v f g) (x1 : Int32) (x2 : Int32) (x3 : Int32) (x4 : Int32) (v : Nat → Int32) (f : Nat → Nat → Int32) (g : Nat → Nat → Int64) (h : r_laysSeconds_93 (fun v f g => post (v, f, g)) R4 x1 x2 x3 x4 v f g) : mG p l e (mRm 0 0) s m args below meth c A D cI cJ cZ a 6 (MQ below (va_Qv post (mB D cI cJ cZ a) A) args s 0 0 A) 93 [(0, .ref (a 0)), (1, .int x1), (2, .int x2), (3, .int x3), (4, .int x4)] [] v f g := by
  unfold r_laysSeconds_93 at h
  refine mg_iload_n C (i := 2) rfl 2 rfl dX12_laysSeconds_93 ?_
  refine mg_aload_n C (i := 0) rfl 0 rfl dX12_laysSeconds_94 ?_
  refine mg_arr C 44 (by decide) (by decide) rfl mL_many rfl dX12_laysSeconds_95 ?_
  refine mg_iload C 4 rfl dX12_laysSeconds_98 ?_
  obtain ⟨hc_100, h⟩ := h
  refine mg_ialoadR C (n := 1968) 44 (by decide) (by decide) rfl rfl hc_100 dX12_laysSeconds_100 ?_
  refine mg_isub C dX12_laysSeconds_101 ?_
  refine mg_nmI (fun x2_4 e_x2_4 => ?_)
  have h := h x2_4 e_x2_4
  refine mg_istore_n C (i := 2) (lv' := [(2, .int x2_4), (0, .ref (a 0)), (1, .int x1), (3, .int x3), (4, .int x4)]) rfl (Nat.le_of_ble_eq_true rfl) rfl dX12_laysSeconds_102 ?_
  exact mg_sub [1, 2, 0, 3] rfl (sb_laysSeconds_103 C hR4 x1 x2_4 x3 v f g h)
set_option maxRecDepth 20000 in
theorem sb_laysSeconds_61 (C : mC p s m args meth c cX12_laysSeconds 6 none A D cI cJ cZ) {post : mS → Prop} {R4 : Int32 → Int32 → Int32 → (Nat → Int32) → (Nat → Nat → Int32) → (Nat → Nat → Int64) → Prop} {R61 : Int32 → Int32 → Int32 → Int32 → Int32 → (Nat → Int32) → (Nat → Nat → Int32) → (Nat → Nat → Int64) → Prop} (hR4 : ∀ (x1 : Int32) (x2 : Int32) (x3 : Int32) (v : Nat → Int32) (f : Nat → Nat → Int32) (g : Nat → Nat → Int64), R4 x1 x2 x3 v f g → mG p l e (mRm 0 0) s m args below meth c A D cI cJ cZ a 6 (MQ below (va_Qv post (mB D cI cJ cZ a) A) args s 0 0 A) 4 [(0, .ref (a 0)), (1, .int x1), (2, .int x2), (3, .int x3)] [] v f g) (hR61 : ∀ (x1 : Int32) (x2 : Int32) (x3 : Int32) (x4 : Int32) (x5 : Int32) (v : Nat → Int32) (f : Nat → Nat → Int32) (g : Nat → Nat → Int64), R61 x1 x2 x3 x4 x5 v f g → mG p l e (mRm 0 0) s m args below meth c A D cI cJ cZ a 6 (MQ below (va_Qv post (mB D cI cJ cZ a) A) args s 0 0 A) 61 [(0, .ref (a 0)), (1, .int x1), (2, .int x2), (3, .int x3), (4, .int x4), (5, .int x5)] [] v f g) (x1 : Int32) (x2 : Int32) (x3 : Int32) (x4 : Int32) (x5 : Int32) (v : Nat → Int32) (f : Nat → Nat → Int32) (g : Nat → Nat → Int64) (h : r_laysSeconds_61 (fun v f g => post (v, f, g)) R4 R61 x1 x2 x3 x4 x5 v f g) : mG p l e (mRm 0 0) s m args below meth c A D cI cJ cZ a 6 (MQ below (va_Qv post (mB D cI cJ cZ a) A) args s 0 0 A) 61 [(0, .ref (a 0)), (1, .int x1), (2, .int x2), (3, .int x3), (4, .int x4), (5, .int x5)] [] v f g := by
  unfold r_laysSeconds_61 at h
  refine mg_aload_n C (i := 0) rfl 0 rfl dX12_laysSeconds_61 ?_
  refine mg_arr C 40 (by decide) (by decide) rfl mL_kinds rfl dX12_laysSeconds_62 ?_
  refine mg_iload C 4 rfl dX12_laysSeconds_65 ?_
  obtain ⟨hc_67, h⟩ := h
  refine mg_ialoadR C (n := 1968) 40 (by decide) (by decide) rfl rfl hc_67 dX12_laysSeconds_67 ?_
  refine mg_bipush C (x := nI 7) rfl dX12_laysSeconds_68 ?_
  refine mg_icmp_ne C 93 (by decide) dX12_laysSeconds_70 (fun c_ => ?_) (fun c_ => ?_)
  · have h := h.1 c_
    exact mg_sub [0, 1, 2, 3, 4] rfl (sb_laysSeconds_93 C hR4 x1 x2 x3 x4 v f g h)
  · have h := h.2 c_
    refine mg_iload C 5 rfl dX12_laysSeconds_73 ?_
    refine mg_iload_n C (i := 3) rfl 3 rfl dX12_laysSeconds_75 ?_
    refine mg_icmp_ge C 93 (by decide) dX12_laysSeconds_76 (fun c_ => ?_) (fun c_ => ?_)
    · have h := h.1 c_
      exact mg_sub [0, 1, 2, 3, 4] rfl (sb_laysSeconds_93 C hR4 x1 x2 x3 x4 v f g h)
    · have h := h.2 c_
      refine mg_aload_n C (i := 0) rfl 0 rfl dX12_laysSeconds_79 ?_
      refine mg_arr C 56 (by decide) (by decide) rfl mL_inSecond rfl dX12_laysSeconds_80 ?_
      refine mg_iload C 5 rfl dX12_laysSeconds_83 ?_
      refine mg_iconst C (x := nI 1) rfl dX12_laysSeconds_85 ?_
      obtain ⟨hc_86, h⟩ := h
      refine mg_cast (bI true) rfl ?_
      refine mg_bastoreR C (n := 48) 56 (by decide) (by decide) rfl rfl hc_86 (bI_vp _) dX12_laysSeconds_86 ?_
      refine mg_nmF (fun f7 e_f7 => ?_)
      have h := h f7 e_f7
      obtain ⟨x5_8, e_x5_8⟩ : ∃ z : Int32, z = x5 + nI 1 := ⟨_, rfl⟩
      have h := h x5_8 e_x5_8
      refine mg_iinc C (lv' := [(5, .int x5_8), (0, .ref (a 0)), (1, .int x1), (2, .int x2), (3, .int x3), (4, .int x4)]) 5 rfl (by rw [e_x5_8]; rfl) (Nat.le_of_ble_eq_true rfl) rfl dX12_laysSeconds_87 ?_
      refine mg_goto C 61 (by decide) dX12_laysSeconds_90 ?_
      exact mg_sub [1, 2, 3, 4, 5, 0] rfl (hR61 x1 x2 x3 x4 x5_8 v f7 g h)
set_option maxRecDepth 20000 in
theorem sl_laysSeconds_61 (C : mC p s m args meth c cX12_laysSeconds 6 none A D cI cJ cZ) {post : mS → Prop} {R4 : Int32 → Int32 → Int32 → (Nat → Int32) → (Nat → Nat → Int32) → (Nat → Nat → Int64) → Prop} (hR4 : ∀ (x1 : Int32) (x2 : Int32) (x3 : Int32) (v : Nat → Int32) (f : Nat → Nat → Int32) (g : Nat → Nat → Int64), R4 x1 x2 x3 v f g → mG p l e (mRm 0 0) s m args below meth c A D cI cJ cZ a 6 (MQ below (va_Qv post (mB D cI cJ cZ a) A) args s 0 0 A) 4 [(0, .ref (a 0)), (1, .int x1), (2, .int x2), (3, .int x3)] [] v f g) (x1 : Int32) (x2 : Int32) (x3 : Int32) (x4 : Int32) (x5 : Int32) (v : Nat → Int32) (f : Nat → Nat → Int32) (g : Nat → Nat → Int64) (h : r_laysSeconds_61L (fun v f g => post (v, f, g)) R4 x1 x2 x3 x4 x5 v f g) : mG p l e (mRm 0 0) s m args below meth c A D cI cJ cZ a 6 (MQ below (va_Qv post (mB D cI cJ cZ a) A) args s 0 0 A) 61 [(0, .ref (a 0)), (1, .int x1), (2, .int x2), (3, .int x3), (4, .int x4), (5, .int x5)] [] v f g :=
  h (fun y => mG p l e (mRm 0 0) s m args below meth c A D cI cJ cZ a 6 (MQ below (va_Qv post (mB D cI cJ cZ a) A) args s 0 0 A) 61 [(0, .ref (a 0)), (1, .int (y.1)), (2, .int (y.2.1)), (3, .int (y.2.2.1)), (4, .int (y.2.2.2.1)), (5, .int (y.2.2.2.2.1))] [] (y.2.2.2.2.2.1) (y.2.2.2.2.2.2.1) (y.2.2.2.2.2.2.2)) (fun y hy => sb_laysSeconds_61 C hR4 (fun b0 b1 b2 b3 b4 v f g z => z) (y.1) (y.2.1) (y.2.2.1) (y.2.2.2.1) (y.2.2.2.2.1) (y.2.2.2.2.2.1) (y.2.2.2.2.2.2.1) (y.2.2.2.2.2.2.2) hy)
set_option maxRecDepth 20000 in
theorem sb_laysSeconds_4 (C : mC p s m args meth c cX12_laysSeconds 6 none A D cI cJ cZ) {post : mS → Prop} {R4 : Int32 → Int32 → Int32 → (Nat → Int32) → (Nat → Nat → Int32) → (Nat → Nat → Int64) → Prop} (hR4 : ∀ (x1 : Int32) (x2 : Int32) (x3 : Int32) (v : Nat → Int32) (f : Nat → Nat → Int32) (g : Nat → Nat → Int64), R4 x1 x2 x3 v f g → mG p l e (mRm 0 0) s m args below meth c A D cI cJ cZ a 6 (MQ below (va_Qv post (mB D cI cJ cZ a) A) args s 0 0 A) 4 [(0, .ref (a 0)), (1, .int x1), (2, .int x2), (3, .int x3)] [] v f g) (x1 : Int32) (x2 : Int32) (x3 : Int32) (v : Nat → Int32) (f : Nat → Nat → Int32) (g : Nat → Nat → Int64) (h : r_laysSeconds_4 (fun v f g => post (v, f, g)) R4 x1 x2 x3 v f g) : mG p l e (mRm 0 0) s m args below meth c A D cI cJ cZ a 6 (MQ below (va_Qv post (mB D cI cJ cZ a) A) args s 0 0 A) 4 [(0, .ref (a 0)), (1, .int x1), (2, .int x2), (3, .int x3)] [] v f g := by
  unfold r_laysSeconds_4 at h
  refine mg_iload_n C (i := 3) rfl 3 rfl dX12_laysSeconds_4 ?_
  refine mg_aload_n C (i := 0) rfl 0 rfl dX12_laysSeconds_5 ?_
  refine mg_arr C 48 (by decide) (by decide) rfl mL_opsMany rfl dX12_laysSeconds_6 ?_
  refine mg_iload_n C (i := 1) rfl 1 rfl dX12_laysSeconds_9 ?_
  obtain ⟨hc_10, h⟩ := h
  refine mg_ialoadR C (n := 41) 48 (by decide) (by decide) rfl rfl hc_10 dX12_laysSeconds_10 ?_
  refine mg_icmp_ge C 112 (by decide) dX12_laysSeconds_11 (fun c_ => ?_) (fun c_ => ?_)
  · have h := h.1 c_
    exact mg_vret C h dX12_laysSeconds_112
  · have h := h.2 c_
    refine mg_bipush C (x := nI 48) rfl dX12_laysSeconds_14 ?_
    refine mg_iload_n C (i := 1) rfl 1 rfl dX12_laysSeconds_16 ?_
    refine mg_imul C dX12_laysSeconds_17 ?_
    refine mg_iload_n C (i := 3) rfl 3 rfl dX12_laysSeconds_18 ?_
    refine mg_iadd C dX12_laysSeconds_19 ?_
    refine mg_nmI (fun x4_1 e_x4_1 => ?_)
    have h := h x4_1 e_x4_1
    refine mg_istore C (lv' := [(4, .int x4_1), (0, .ref (a 0)), (1, .int x1), (2, .int x2), (3, .int x3)]) (Nat.le_of_ble_eq_true rfl) rfl dX12_laysSeconds_20 ?_
    refine mg_aload_n C (i := 0) rfl 1 rfl dX12_laysSeconds_22 ?_
    refine mg_arr C 56 (by decide) (by decide) rfl mL_inSecond rfl dX12_laysSeconds_23 ?_
    refine mg_iload_n C (i := 3) rfl 4 rfl dX12_laysSeconds_26 ?_
    refine mg_iconst C (x := nI 0) rfl dX12_laysSeconds_27 ?_
    obtain ⟨hc_28, h⟩ := h
    refine mg_cast (bI false) rfl ?_
    refine mg_bastoreR C (n := 48) 56 (by decide) (by decide) rfl rfl hc_28 (bI_vp _) dX12_laysSeconds_28 ?_
    refine mg_nmF (fun f2 e_f2 => ?_)
    have h := h f2 e_f2
    refine mg_aload_n C (i := 0) rfl 1 rfl dX12_laysSeconds_29 ?_
    refine mg_arr C 40 (by decide) (by decide) rfl mL_kinds rfl dX12_laysSeconds_30 ?_
    refine mg_iload C 0 rfl dX12_laysSeconds_33 ?_
    obtain ⟨hc_35, h⟩ := h
    refine mg_ialoadR C (n := 1968) 40 (by decide) (by decide) rfl rfl hc_35 dX12_laysSeconds_35 ?_
    refine mg_bipush C (x := nI 6) rfl dX12_laysSeconds_36 ?_
    refine mg_icmp_ge C 51 (by decide) dX12_laysSeconds_38 (fun c_ => ?_) (fun c_ => ?_)
    · have h := h.1 c_
      refine mg_aload_n C (i := 0) rfl 1 rfl dX12_laysSeconds_51 ?_
      refine mg_arr C 54 (by decide) (by decide) rfl mL_pile rfl dX12_laysSeconds_52 ?_
      refine mg_iload_n C (i := 2) rfl 3 rfl dX12_laysSeconds_55 ?_
      refine mg_iconst C (x := nI 1) rfl dX12_laysSeconds_56 ?_
      refine mg_isub C dX12_laysSeconds_57 ?_
      obtain ⟨hc_58, h⟩ := h
      refine mg_ialoadR C (n := 50) 54 (by decide) (by decide) rfl rfl hc_58 dX12_laysSeconds_58 ?_
      refine mg_nmI (fun x5_3 e_x5_3 => ?_)
      have h := h x5_3 e_x5_3
      refine mg_istore C (lv' := [(5, .int x5_3), (4, .int x4_1), (0, .ref (a 0)), (1, .int x1), (2, .int x2), (3, .int x3)]) (Nat.le_of_ble_eq_true rfl) rfl dX12_laysSeconds_59 ?_
      exact mg_sub [2, 3, 4, 5, 1, 0] rfl (sl_laysSeconds_61 C hR4 x1 x2 x3 x4_1 x5_3 v f2 g h)
    · have h := h.2 c_
      refine mg_aload_n C (i := 0) rfl 1 rfl dX12_laysSeconds_41 ?_
      refine mg_arr C 54 (by decide) (by decide) rfl mL_pile rfl dX12_laysSeconds_42 ?_
      refine mg_iload_n C (i := 2) rfl 3 rfl dX12_laysSeconds_45 ?_
      refine mg_iload_n C (i := 3) rfl 4 rfl dX12_laysSeconds_46 ?_
      obtain ⟨hc_47, h⟩ := h
      refine mg_iastoreR C (n := 50) 54 (by decide) (by decide) rfl rfl hc_47 dX12_laysSeconds_47 ?_
      refine mg_nmF (fun f9 e_f9 => ?_)
      have h := h f9 e_f9
      refine mg_goto C 103 (by decide) dX12_laysSeconds_48 ?_
      exact mg_sub [1, 2, 3, 4] rfl (sb_laysSeconds_103 C hR4 x1 x2 x3 v f9 g h)
set_option maxRecDepth 20000 in
theorem sl_laysSeconds_4 (C : mC p s m args meth c cX12_laysSeconds 6 none A D cI cJ cZ) {post : mS → Prop}   (x1 : Int32) (x2 : Int32) (x3 : Int32) (v : Nat → Int32) (f : Nat → Nat → Int32) (g : Nat → Nat → Int64) (h : r_laysSeconds_4L (fun v f g => post (v, f, g))  x1 x2 x3 v f g) : mG p l e (mRm 0 0) s m args below meth c A D cI cJ cZ a 6 (MQ below (va_Qv post (mB D cI cJ cZ a) A) args s 0 0 A) 4 [(0, .ref (a 0)), (1, .int x1), (2, .int x2), (3, .int x3)] [] v f g :=
  h (fun y => mG p l e (mRm 0 0) s m args below meth c A D cI cJ cZ a 6 (MQ below (va_Qv post (mB D cI cJ cZ a) A) args s 0 0 A) 4 [(0, .ref (a 0)), (1, .int (y.1)), (2, .int (y.2.1)), (3, .int (y.2.2.1))] [] (y.2.2.2.1) (y.2.2.2.2.1) (y.2.2.2.2.2)) (fun y hy => sb_laysSeconds_4 C  (fun b0 b1 b2 v f g z => z) (y.1) (y.2.1) (y.2.2.1) (y.2.2.2.1) (y.2.2.2.2.1) (y.2.2.2.2.2) hy)
end S_laysSeconds
set_option maxHeartbeats 1000000 in
set_option maxRecDepth 20000 in
theorem s_laysSeconds (l : Launch) (x1 : Int32) (v : Nat → Int32) (f : Nat → Nat → Int32) (g : Nat → Nat → Int64) {P : (Nat → Int32) → (Nat → Nat → Int32) → (Nat → Nat → Int64) → Prop} (h : r_laysSeconds P x1 v f g) : mMv l yX12_laysSeconds cX12_laysSeconds 6 none 0 0 false [.int x1] v f g (fun w => P w.1 w.2.1 w.2.2) := by
  intro D cI cJ cZ a sz
  refine mg_body (by decide +kernel) rfl (Nat.le_of_ble_eq_true rfl) ?_
  intro p e s m args below meth c hsz C
  clear hsz
  generalize va_A (mW cI cJ cZ a v f g) sz = A at C ⊢
  refine mg_lv (lv' := [(0, .ref (a 0)), (1, .int x1)]) rfl ?_
  unfold r_laysSeconds at h
  refine mg_iconst C (x := nI 0) rfl dX12_laysSeconds_0 ?_
  refine mg_istore_n C (i := 2) (lv' := [(2, .int ((nI 0))), (0, .ref (a 0)), (1, .int x1)]) rfl (Nat.le_of_ble_eq_true rfl) rfl dX12_laysSeconds_1 ?_
  refine mg_iconst C (x := nI 0) rfl dX12_laysSeconds_2 ?_
  refine mg_istore_n C (i := 3) (lv' := [(3, .int ((nI 0))), (2, .int ((nI 0))), (0, .ref (a 0)), (1, .int x1)]) rfl (Nat.le_of_ble_eq_true rfl) rfl dX12_laysSeconds_3 ?_
  exact mg_sub [2, 3, 1, 0] rfl (sl_laysSeconds_4 C  x1 (((nI 0))) (((nI 0))) v f g h)
def r_readies (Q : (Nat → Int32) → (Nat → Nat → Int32) → (Nat → Nat → Int64) → Prop) (x1 : Int32) (x2 : Int32) (v : Nat → Int32) (f : Nat → Nat → Int32) (g : Nat → Nat → Int64) : Prop :=
r_lays (fun v_1 f_1 g_1 => 
r_laysGains (fun v_2 f_2 g_2 => 
r_laysSeconds (fun v_3 f_3 g_3 => 
Q v_3 f_3 g_3) x2 v_2 f_2 g_2) x2 v_1 f_1 g_1) x1 v f g
set_option maxHeartbeats 1000000 in
set_option maxRecDepth 20000 in
theorem s_readies (l : Launch) (x1 : Int32) (x2 : Int32) (v : Nat → Int32) (f : Nat → Nat → Int32) (g : Nat → Nat → Int64) {P : (Nat → Int32) → (Nat → Nat → Int32) → (Nat → Nat → Int64) → Prop} (h : r_readies P x1 x2 v f g) : mMv l yX12_readies cX12_readies 3 none 4 105 false [.int x1, .int x2] v f g (fun w => P w.1 w.2.1 w.2.2) := by
  intro D cI cJ cZ a sz
  refine mg_body (by decide +kernel) rfl (Nat.le_of_ble_eq_true rfl) ?_
  intro p e s m args below meth c hsz C
  clear hsz
  generalize va_A (mW cI cJ cZ a v f g) sz = A at C ⊢
  refine mg_lv (lv' := [(0, .ref (a 0)), (1, .int x1), (2, .int x2)]) rfl ?_
  unfold r_readies at h
  refine mg_aload_n C (i := 0) rfl 0 rfl dX12_readies_0 ?_
  refine mg_iload_n C (i := 1) rfl 1 rfl dX12_readies_1 ?_
  refine mg_callvW C (s_lays l x1 v f g h) mCal_lays rfl ⟨by decide, by decide⟩ rfl (Nat.le_of_ble_eq_true rfl) dX12_readies_2 (fun v_1 f_1 g_1 h => ?_)
  refine mg_aload_n C (i := 0) rfl 0 rfl dX12_readies_5 ?_
  refine mg_iload_n C (i := 2) rfl 2 rfl dX12_readies_6 ?_
  refine mg_callvW C (s_laysGains l x2 v_1 f_1 g_1 h) mCal_laysGains rfl ⟨by decide, by decide⟩ rfl (Nat.le_of_ble_eq_true rfl) dX12_readies_7 (fun v_2 f_2 g_2 h => ?_)
  refine mg_aload_n C (i := 0) rfl 0 rfl dX12_readies_10 ?_
  refine mg_iload_n C (i := 2) rfl 2 rfl dX12_readies_11 ?_
  refine mg_callvW C (s_laysSeconds l x2 v_2 f_2 g_2 h) mCal_laysSeconds rfl ⟨by decide, by decide⟩ rfl (Nat.le_of_ble_eq_true rfl) dX12_readies_12 (fun v_3 f_3 g_3 h => ?_)
  exact mg_vret C h dX12_readies_15
def r_takes_121 (Q : Int32 → (Nat → Int32) → (Nat → Nat → Int32) → (Nat → Nat → Int64) → Prop) (R121 : Int32 → Int32 → Int32 → Int32 → (Nat → Int32) → (Nat → Nat → Int32) → (Nat → Nat → Int64) → Prop) (x1 : Int32) (x2 : Int32) (x4 : Int32) (x6 : Int32) (v : Nat → Int32) (f : Nat → Nat → Int32) (g : Nat → Nat → Int64) : Prop :=
((((v 85)) ≤ ((x6 + ((nI 1)))) →
  vp_in ((((v 85)) - ((nI 1)))) 8 ∧ (∀ f3 : Nat → Nat → Int32, f3 = mU f 57 ((((v 85)) - ((nI 1)))).toNatClampNeg x1 → vp_in ((((v 85)) - ((nI 1)))) 8 ∧ (∀ f4 : Nat → Nat → Int32, f4 = mU f3 58 ((((v 85)) - ((nI 1)))).toNatClampNeg x2 → isZ x4 ∧ (Q x4 v f4 g)))) ∧
 (¬ ((v 85)) ≤ ((x6 + ((nI 1)))) →
  vp_in ((x6 + ((nI 1)))) 8 ∧ (vp_in x6 8 ∧ (∀ f5 : Nat → Nat → Int32, f5 = mU f 57 (x6).toNatClampNeg ((f 57 ((x6 + ((nI 1)))).toNatClampNeg)) → vp_in ((x6 + ((nI 1)))) 8 ∧ (vp_in x6 8 ∧ (∀ f6 : Nat → Nat → Int32, f6 = mU f5 58 (x6).toNatClampNeg ((f5 58 ((x6 + ((nI 1)))).toNatClampNeg)) → ∀ x6_7 : Int32, x6_7 = x6 + nI 1 → R121 x1 x2 x4 x6_7 v f6 g))))))
def r_takes_121L (Q : Int32 → (Nat → Int32) → (Nat → Nat → Int32) → (Nat → Nat → Int64) → Prop)  (x1 : Int32) (x2 : Int32) (x4 : Int32) (x6 : Int32) (v : Nat → Int32) (f : Nat → Nat → Int32) (g : Nat → Nat → Int64) : Prop :=
  lfp (X := Int32 × Int32 × Int32 × Int32 × (Nat → Int32) × (Nat → Nat → Int32) × (Nat → Nat → Int64)) (fun P y => r_takes_121 Q  (fun b0 b1 b2 b3 v f g => P (b0, b1, b2, b3, v, f, g)) y.1 y.2.1 y.2.2.1 y.2.2.2.1 y.2.2.2.2.1 y.2.2.2.2.2.1 y.2.2.2.2.2.2) (x1, x2, x4, x6, v, f, g)
def r_takes_113 (Q : Int32 → (Nat → Int32) → (Nat → Nat → Int32) → (Nat → Nat → Int64) → Prop)  (x1 : Int32) (x2 : Int32) (x4 : Int32) (x5 : Int32) (t0 : Int32) (t1 : Int32) (v : Nat → Int32) (f : Nat → Nat → Int32) (g : Nat → Nat → Int64) : Prop :=
∀ v2 : Nat → Int32, v2 = upd v 85 ((t1 + t0)) → r_takes_121L Q  x1 x2 x4 x5 v2 f g
def r_takes_112 (Q : Int32 → (Nat → Int32) → (Nat → Nat → Int32) → (Nat → Nat → Int64) → Prop)  (x1 : Int32) (x2 : Int32) (x4 : Int32) (x5 : Int32) (t0 : Int32) (v : Nat → Int32) (f : Nat → Nat → Int32) (g : Nat → Nat → Int64) : Prop :=
r_takes_113 Q  x1 x2 x4 x5 ((nI 0)) t0 v f g
def r_takes_87 (Q : Int32 → (Nat → Int32) → (Nat → Nat → Int32) → (Nat → Nat → Int64) → Prop)  (x1 : Int32) (x2 : Int32) (x4 : Int32) (t0 : Int32) (v : Nat → Int32) (f : Nat → Nat → Int32) (g : Nat → Nat → Int64) : Prop :=
((¬ x4 = 0 →
  r_takes_112 Q  x1 x2 x4 t0 ((v 85)) v f g) ∧
 (x4 = 0 →
  ((((nI 8)) ≤ ((v 85)) →
    r_takes_112 Q  x1 x2 x4 t0 ((v 85)) v f g) ∧
   (¬ ((nI 8)) ≤ ((v 85)) →
    r_takes_113 Q  x1 x2 x4 t0 ((nI 1)) ((v 85)) v f g))))
def r_takes_59 (Q : Int32 → (Nat → Int32) → (Nat → Nat → Int32) → (Nat → Nat → Int64) → Prop)  (x1 : Int32) (x2 : Int32) (x3 : Int32) (t0 : Int32) (v : Nat → Int32) (f : Nat → Nat → Int32) (g : Nat → Nat → Int64) : Prop :=
((t0 = 0 →
  ((¬ ((v 85)) = ((nI 8)) →
    r_takes_87 Q  x1 x2 t0 ((v 85)) v f g) ∧
   (((v 85)) = ((nI 8)) →
    r_takes_87 Q  x1 x2 t0 ((nI 0)) v f g))) ∧
 (¬ t0 = 0 →
  r_takes_87 Q  x1 x2 t0 x3 v f g))
def r_takes_42 (Q : Int32 → (Nat → Int32) → (Nat → Nat → Int32) → (Nat → Nat → Int64) → Prop) (R5 : Int32 → Int32 → Int32 → Int32 → (Nat → Int32) → (Nat → Nat → Int32) → (Nat → Nat → Int64) → Prop) (x1 : Int32) (x2 : Int32) (x4 : Int32) (t0 : Int32) (v : Nat → Int32) (f : Nat → Nat → Int32) (g : Nat → Nat → Int64) : Prop :=
∀ x4_8 : Int32, x4_8 = x4 + nI 1 → R5 x1 x2 t0 x4_8 v f g
def r_takes_41 (Q : Int32 → (Nat → Int32) → (Nat → Nat → Int32) → (Nat → Nat → Int64) → Prop) (R5 : Int32 → Int32 → Int32 → Int32 → (Nat → Int32) → (Nat → Nat → Int32) → (Nat → Nat → Int64) → Prop) (x1 : Int32) (x2 : Int32) (x3 : Int32) (x4 : Int32) (v : Nat → Int32) (f : Nat → Nat → Int32) (g : Nat → Nat → Int64) : Prop :=
r_takes_42 Q R5 x1 x2 x4 x3 v f g
def r_takes_5 (Q : Int32 → (Nat → Int32) → (Nat → Nat → Int32) → (Nat → Nat → Int64) → Prop) (R5 : Int32 → Int32 → Int32 → Int32 → (Nat → Int32) → (Nat → Nat → Int32) → (Nat → Nat → Int64) → Prop) (x1 : Int32) (x2 : Int32) (x3 : Int32) (x4 : Int32) (v : Nat → Int32) (f : Nat → Nat → Int32) (g : Nat → Nat → Int64) : Prop :=
((((v 85)) ≤ x4 →
  ((x3 = (((-1))) →
    r_takes_59 Q  x1 x2 x3 ((nI 0)) v f g) ∧
   (¬ x3 = (((-1))) →
    r_takes_59 Q  x1 x2 x3 ((nI 1)) v f g))) ∧
 (¬ ((v 85)) ≤ x4 →
  vp_in x4 8 ∧ (((¬ ((f 57 (x4).toNatClampNeg)) = x1 →
    r_takes_41 Q R5 x1 x2 x3 x4 v f g) ∧
   (((f 57 (x4).toNatClampNeg)) = x1 →
    vp_in x4 8 ∧ (((¬ ((f 58 (x4).toNatClampNeg)) = x2 →
      r_takes_41 Q R5 x1 x2 x3 x4 v f g) ∧
     (((f 58 (x4).toNatClampNeg)) = x2 →
      r_takes_42 Q R5 x1 x2 x4 x4 v f g))))))))
def r_takes_5L (Q : Int32 → (Nat → Int32) → (Nat → Nat → Int32) → (Nat → Nat → Int64) → Prop)  (x1 : Int32) (x2 : Int32) (x3 : Int32) (x4 : Int32) (v : Nat → Int32) (f : Nat → Nat → Int32) (g : Nat → Nat → Int64) : Prop :=
  lfp (X := Int32 × Int32 × Int32 × Int32 × (Nat → Int32) × (Nat → Nat → Int32) × (Nat → Nat → Int64)) (fun P y => r_takes_5 Q  (fun b0 b1 b2 b3 v f g => P (b0, b1, b2, b3, v, f, g)) y.1 y.2.1 y.2.2.1 y.2.2.2.1 y.2.2.2.2.1 y.2.2.2.2.2.1 y.2.2.2.2.2.2) (x1, x2, x3, x4, v, f, g)
def r_takes (Q : Int32 → (Nat → Int32) → (Nat → Nat → Int32) → (Nat → Nat → Int64) → Prop) (x1 : Int32) (x2 : Int32) (v : Nat → Int32) (f : Nat → Nat → Int32) (g : Nat → Nat → Int64) : Prop :=
∀ x3_1 : Int32, x3_1 = ((-1)) → r_takes_5L Q  x1 x2 x3_1 (((nI 0))) v f g
section S_takes
variable {p : Program} {l : Launch} {e : Env} {s : State} {m : MethodId} {args : Array Value} {below : List Frame} {meth : Method} {c : Code} {A : Nat → Prop} {D : va_G} {cI cJ cZ : ClassId} {a : Nat → Nat}
set_option maxRecDepth 20000 in
theorem sb_takes_121 (C : mC p s m args meth c cX12_takes 7 (some .boolean) A D cI cJ cZ) {post : Int32 → mS → Prop} {R121 : Int32 → Int32 → Int32 → Int32 → (Nat → Int32) → (Nat → Nat → Int32) → (Nat → Nat → Int64) → Prop} (hR121 : ∀ (x1 : Int32) (x2 : Int32) (x4 : Int32) (x6 : Int32) (v : Nat → Int32) (f : Nat → Nat → Int32) (g : Nat → Nat → Int64), R121 x1 x2 x4 x6 v f g → mG p l e (mRm 0 0) s m args below meth c A D cI cJ cZ a 7 (MQ below (va_Qi post (mB D cI cJ cZ a) A) args s 0 0 A) 121 [(0, .ref (a 0)), (1, .int x1), (2, .int x2), (4, .int x4), (6, .int x6)] [] v f g) (x1 : Int32) (x2 : Int32) (x4 : Int32) (x6 : Int32) (v : Nat → Int32) (f : Nat → Nat → Int32) (g : Nat → Nat → Int64) (h : r_takes_121 (fun r v f g => post r (v, f, g)) R121 x1 x2 x4 x6 v f g) : mG p l e (mRm 0 0) s m args below meth c A D cI cJ cZ a 7 (MQ below (va_Qi post (mB D cI cJ cZ a) A) args s 0 0 A) 121 [(0, .ref (a 0)), (1, .int x1), (2, .int x2), (4, .int x4), (6, .int x6)] [] v f g := by
  unfold r_takes_121 at h
  refine mg_iload C 4 rfl dX12_takes_121 ?_
  refine mg_iconst C (x := nI 1) rfl dX12_takes_123 ?_
  refine mg_iadd C dX12_takes_124 ?_
  refine mg_aload_n C (i := 0) rfl 0 rfl dX12_takes_125 ?_
  refine mg_getI C (k := 85) (by decide) rfl mL_cached rfl dX12_takes_126 ?_
  refine mg_icmp_ge C 170 (by decide) dX12_takes_129 (fun c_ => ?_) (fun c_ => ?_)
  · have h := h.1 c_
    refine mg_aload_n C (i := 0) rfl 0 rfl dX12_takes_170 ?_
    refine mg_arr C 57 (by decide) (by decide) rfl mL_cacheQueries rfl dX12_takes_171 ?_
    refine mg_aload_n C (i := 0) rfl 0 rfl dX12_takes_174 ?_
    refine mg_getI C (k := 85) (by decide) rfl mL_cached rfl dX12_takes_175 ?_
    refine mg_iconst C (x := nI 1) rfl dX12_takes_178 ?_
    refine mg_isub C dX12_takes_179 ?_
    refine mg_iload_n C (i := 1) rfl 1 rfl dX12_takes_180 ?_
    obtain ⟨hc_181, h⟩ := h
    refine mg_iastoreR C (n := 8) 57 (by decide) (by decide) rfl rfl hc_181 dX12_takes_181 ?_
    refine mg_nmF (fun f3 e_f3 => ?_)
    have h := h f3 e_f3
    refine mg_aload_n C (i := 0) rfl 0 rfl dX12_takes_182 ?_
    refine mg_arr C 58 (by decide) (by decide) rfl mL_cacheSegments rfl dX12_takes_183 ?_
    refine mg_aload_n C (i := 0) rfl 0 rfl dX12_takes_186 ?_
    refine mg_getI C (k := 85) (by decide) rfl mL_cached rfl dX12_takes_187 ?_
    refine mg_iconst C (x := nI 1) rfl dX12_takes_190 ?_
    refine mg_isub C dX12_takes_191 ?_
    refine mg_iload_n C (i := 2) rfl 2 rfl dX12_takes_192 ?_
    obtain ⟨hc_193, h⟩ := h
    refine mg_iastoreR C (n := 8) 58 (by decide) (by decide) rfl rfl hc_193 dX12_takes_193 ?_
    refine mg_nmF (fun f4 e_f4 => ?_)
    have h := h f4 e_f4
    refine mg_iload C 3 rfl dX12_takes_194 ?_
    obtain ⟨hc_196, h⟩ := h
    exact mg_zret C (isZ_nar hc_196) h dX12_takes_196
  · have h := h.2 c_
    refine mg_aload_n C (i := 0) rfl 0 rfl dX12_takes_132 ?_
    refine mg_arr C 57 (by decide) (by decide) rfl mL_cacheQueries rfl dX12_takes_133 ?_
    refine mg_iload C 4 rfl dX12_takes_136 ?_
    refine mg_aload_n C (i := 0) rfl 0 rfl dX12_takes_138 ?_
    refine mg_arr C 57 (by decide) (by decide) rfl mL_cacheQueries rfl dX12_takes_139 ?_
    refine mg_iload C 4 rfl dX12_takes_142 ?_
    refine mg_iconst C (x := nI 1) rfl dX12_takes_144 ?_
    refine mg_iadd C dX12_takes_145 ?_
    obtain ⟨hc_146, h⟩ := h
    refine mg_ialoadR C (n := 8) 57 (by decide) (by decide) rfl rfl hc_146 dX12_takes_146 ?_
    obtain ⟨hc_147, h⟩ := h
    refine mg_iastoreR C (n := 8) 57 (by decide) (by decide) rfl rfl hc_147 dX12_takes_147 ?_
    refine mg_nmF (fun f5 e_f5 => ?_)
    have h := h f5 e_f5
    refine mg_aload_n C (i := 0) rfl 0 rfl dX12_takes_148 ?_
    refine mg_arr C 58 (by decide) (by decide) rfl mL_cacheSegments rfl dX12_takes_149 ?_
    refine mg_iload C 4 rfl dX12_takes_152 ?_
    refine mg_aload_n C (i := 0) rfl 0 rfl dX12_takes_154 ?_
    refine mg_arr C 58 (by decide) (by decide) rfl mL_cacheSegments rfl dX12_takes_155 ?_
    refine mg_iload C 4 rfl dX12_takes_158 ?_
    refine mg_iconst C (x := nI 1) rfl dX12_takes_160 ?_
    refine mg_iadd C dX12_takes_161 ?_
    obtain ⟨hc_162, h⟩ := h
    refine mg_ialoadR C (n := 8) 58 (by decide) (by decide) rfl rfl hc_162 dX12_takes_162 ?_
    obtain ⟨hc_163, h⟩ := h
    refine mg_iastoreR C (n := 8) 58 (by decide) (by decide) rfl rfl hc_163 dX12_takes_163 ?_
    refine mg_nmF (fun f6 e_f6 => ?_)
    have h := h f6 e_f6
    obtain ⟨x6_7, e_x6_7⟩ : ∃ z : Int32, z = x6 + nI 1 := ⟨_, rfl⟩
    have h := h x6_7 e_x6_7
    refine mg_iinc C (lv' := [(6, .int x6_7), (0, .ref (a 0)), (1, .int x1), (2, .int x2), (4, .int x4)]) 4 rfl (by rw [e_x6_7]; rfl) (Nat.le_of_ble_eq_true rfl) rfl dX12_takes_164 ?_
    refine mg_goto C 121 (by decide) dX12_takes_167 ?_
    exact mg_sub [1, 2, 3, 4, 0] rfl (hR121 x1 x2 x4 x6_7 v f6 g h)
set_option maxRecDepth 20000 in
theorem sl_takes_121 (C : mC p s m args meth c cX12_takes 7 (some .boolean) A D cI cJ cZ) {post : Int32 → mS → Prop}   (x1 : Int32) (x2 : Int32) (x4 : Int32) (x6 : Int32) (v : Nat → Int32) (f : Nat → Nat → Int32) (g : Nat → Nat → Int64) (h : r_takes_121L (fun r v f g => post r (v, f, g))  x1 x2 x4 x6 v f g) : mG p l e (mRm 0 0) s m args below meth c A D cI cJ cZ a 7 (MQ below (va_Qi post (mB D cI cJ cZ a) A) args s 0 0 A) 121 [(0, .ref (a 0)), (1, .int x1), (2, .int x2), (4, .int x4), (6, .int x6)] [] v f g :=
  h (fun y => mG p l e (mRm 0 0) s m args below meth c A D cI cJ cZ a 7 (MQ below (va_Qi post (mB D cI cJ cZ a) A) args s 0 0 A) 121 [(0, .ref (a 0)), (1, .int (y.1)), (2, .int (y.2.1)), (4, .int (y.2.2.1)), (6, .int (y.2.2.2.1))] [] (y.2.2.2.2.1) (y.2.2.2.2.2.1) (y.2.2.2.2.2.2)) (fun y hy => sb_takes_121 C  (fun b0 b1 b2 b3 v f g z => z) (y.1) (y.2.1) (y.2.2.1) (y.2.2.2.1) (y.2.2.2.2.1) (y.2.2.2.2.2.1) (y.2.2.2.2.2.2) hy)
set_option maxRecDepth 20000 in
theorem sb_takes_113 (C : mC p s m args meth c cX12_takes 7 (some .boolean) A D cI cJ cZ) {post : Int32 → mS → Prop}   (x1 : Int32) (x2 : Int32) (x4 : Int32) (x5 : Int32) (t0 : Int32) (t1 : Int32) (v : Nat → Int32) (f : Nat → Nat → Int32) (g : Nat → Nat → Int64) (h : r_takes_113 (fun r v f g => post r (v, f, g))  x1 x2 x4 x5 t0 t1 v f g) : mG p l e (mRm 0 0) s m args below meth c A D cI cJ cZ a 7 (MQ below (va_Qi post (mB D cI cJ cZ a) A) args s 0 0 A) 113 [(0, .ref (a 0)), (1, .int x1), (2, .int x2), (4, .int x4), (5, .int x5)] [.int t0, .int t1, .ref (a 0)] v f g := by
  unfold r_takes_113 at h
  refine mg_iadd C dX12_takes_113 ?_
  refine mg_put C (k := 85) (by decide) rfl mL_cached rfl (by decide +kernel) mT_cached rfl rfl dX12_takes_114 ?_
  refine mg_nmV (fun v2 e_v2 => ?_)
  have h := h v2 e_v2
  refine mg_iload C 4 rfl dX12_takes_117 ?_
  refine mg_istore C (lv' := [(6, .int x5), (0, .ref (a 0)), (1, .int x1), (2, .int x2), (4, .int x4), (5, .int x5)]) (Nat.le_of_ble_eq_true rfl) rfl dX12_takes_119 ?_
  exact mg_sub [1, 2, 3, 4, 0] rfl (sl_takes_121 C  x1 x2 x4 x5 v2 f g h)
set_option maxRecDepth 20000 in
theorem sb_takes_112 (C : mC p s m args meth c cX12_takes 7 (some .boolean) A D cI cJ cZ) {post : Int32 → mS → Prop}   (x1 : Int32) (x2 : Int32) (x4 : Int32) (x5 : Int32) (t0 : Int32) (v : Nat → Int32) (f : Nat → Nat → Int32) (g : Nat → Nat → Int64) (h : r_takes_112 (fun r v f g => post r (v, f, g))  x1 x2 x4 x5 t0 v f g) : mG p l e (mRm 0 0) s m args below meth c A D cI cJ cZ a 7 (MQ below (va_Qi post (mB D cI cJ cZ a) A) args s 0 0 A) 112 [(0, .ref (a 0)), (1, .int x1), (2, .int x2), (4, .int x4), (5, .int x5)] [.int t0, .ref (a 0)] v f g := by
  unfold r_takes_112 at h
  refine mg_iconst C (x := nI 0) rfl dX12_takes_112 ?_
  exact mg_sub [0, 1, 2, 3, 4] rfl (sb_takes_113 C  x1 x2 x4 x5 ((nI 0)) t0 v f g h)
set_option maxRecDepth 20000 in
theorem sb_takes_87 (C : mC p s m args meth c cX12_takes 7 (some .boolean) A D cI cJ cZ) {post : Int32 → mS → Prop}   (x1 : Int32) (x2 : Int32) (x4 : Int32) (t0 : Int32) (v : Nat → Int32) (f : Nat → Nat → Int32) (g : Nat → Nat → Int64) (h : r_takes_87 (fun r v f g => post r (v, f, g))  x1 x2 x4 t0 v f g) : mG p l e (mRm 0 0) s m args below meth c A D cI cJ cZ a 7 (MQ below (va_Qi post (mB D cI cJ cZ a) A) args s 0 0 A) 87 [(0, .ref (a 0)), (1, .int x1), (2, .int x2), (4, .int x4)] [.int t0] v f g := by
  unfold r_takes_87 at h
  refine mg_istore C (lv' := [(5, .int t0), (0, .ref (a 0)), (1, .int x1), (2, .int x2), (4, .int x4)]) (Nat.le_of_ble_eq_true rfl) rfl dX12_takes_87 ?_
  refine mg_aload_n C (i := 0) rfl 1 rfl dX12_takes_89 ?_
  refine mg_dup C rfl dX12_takes_90 ?_
  refine mg_getI C (k := 85) (by decide) rfl mL_cached rfl dX12_takes_91 ?_
  refine mg_iload C 4 rfl dX12_takes_94 ?_
  refine mg_if_ne C 112 (by decide) dX12_takes_96 (fun c_ => ?_) (fun c_ => ?_)
  · have h := h.1 c_
    exact mg_sub [1, 2, 3, 4, 0] rfl (sb_takes_112 C  x1 x2 x4 t0 ((v 85)) v f g h)
  · have h := h.2 c_
    refine mg_aload_n C (i := 0) rfl 1 rfl dX12_takes_99 ?_
    refine mg_getI C (k := 85) (by decide) rfl mL_cached rfl dX12_takes_100 ?_
    refine mg_bipush C (x := nI 8) rfl dX12_takes_103 ?_
    refine mg_icmp_ge C 112 (by decide) dX12_takes_105 (fun c_ => ?_) (fun c_ => ?_)
    · have h := h.1 c_
      exact mg_sub [1, 2, 3, 4, 0] rfl (sb_takes_112 C  x1 x2 x4 t0 ((v 85)) v f g h)
    · have h := h.2 c_
      refine mg_iconst C (x := nI 1) rfl dX12_takes_108 ?_
      refine mg_goto C 113 (by decide) dX12_takes_109 ?_
      exact mg_sub [1, 2, 3, 4, 0] rfl (sb_takes_113 C  x1 x2 x4 t0 ((nI 1)) ((v 85)) v f g h)
set_option maxRecDepth 20000 in
theorem sb_takes_59 (C : mC p s m args meth c cX12_takes 7 (some .boolean) A D cI cJ cZ) {post : Int32 → mS → Prop}   (x1 : Int32) (x2 : Int32) (x3 : Int32) (t0 : Int32) (v : Nat → Int32) (f : Nat → Nat → Int32) (g : Nat → Nat → Int64) (h : r_takes_59 (fun r v f g => post r (v, f, g))  x1 x2 x3 t0 v f g) : mG p l e (mRm 0 0) s m args below meth c A D cI cJ cZ a 7 (MQ below (va_Qi post (mB D cI cJ cZ a) A) args s 0 0 A) 59 [(0, .ref (a 0)), (1, .int x1), (2, .int x2), (3, .int x3)] [.int t0] v f g := by
  unfold r_takes_59 at h
  refine mg_istore C (lv' := [(4, .int t0), (0, .ref (a 0)), (1, .int x1), (2, .int x2), (3, .int x3)]) (Nat.le_of_ble_eq_true rfl) rfl dX12_takes_59 ?_
  refine mg_iload C 0 rfl dX12_takes_61 ?_
  refine mg_if_eq C 70 (by decide) dX12_takes_63 (fun c_ => ?_) (fun c_ => ?_)
  · have h := h.1 c_
    refine mg_aload_n C (i := 0) rfl 1 rfl dX12_takes_70 ?_
    refine mg_getI C (k := 85) (by decide) rfl mL_cached rfl dX12_takes_71 ?_
    refine mg_bipush C (x := nI 8) rfl dX12_takes_74 ?_
    refine mg_icmp_ne C 83 (by decide) dX12_takes_76 (fun c_ => ?_) (fun c_ => ?_)
    · have h := h.1 c_
      refine mg_aload_n C (i := 0) rfl 1 rfl dX12_takes_83 ?_
      refine mg_getI C (k := 85) (by decide) rfl mL_cached rfl dX12_takes_84 ?_
      exact mg_sub [1, 2, 3, 0] rfl (sb_takes_87 C  x1 x2 t0 ((v 85)) v f g h)
    · have h := h.2 c_
      refine mg_iconst C (x := nI 0) rfl dX12_takes_79 ?_
      refine mg_goto C 87 (by decide) dX12_takes_80 ?_
      exact mg_sub [1, 2, 3, 0] rfl (sb_takes_87 C  x1 x2 t0 ((nI 0)) v f g h)
  · have h := h.2 c_
    refine mg_iload_n C (i := 3) rfl 4 rfl dX12_takes_66 ?_
    refine mg_goto C 87 (by decide) dX12_takes_67 ?_
    exact mg_sub [1, 2, 3, 0] rfl (sb_takes_87 C  x1 x2 t0 x3 v f g h)
set_option maxRecDepth 20000 in
theorem sb_takes_42 (C : mC p s m args meth c cX12_takes 7 (some .boolean) A D cI cJ cZ) {post : Int32 → mS → Prop} {R5 : Int32 → Int32 → Int32 → Int32 → (Nat → Int32) → (Nat → Nat → Int32) → (Nat → Nat → Int64) → Prop} (hR5 : ∀ (x1 : Int32) (x2 : Int32) (x3 : Int32) (x4 : Int32) (v : Nat → Int32) (f : Nat → Nat → Int32) (g : Nat → Nat → Int64), R5 x1 x2 x3 x4 v f g → mG p l e (mRm 0 0) s m args below meth c A D cI cJ cZ a 7 (MQ below (va_Qi post (mB D cI cJ cZ a) A) args s 0 0 A) 5 [(0, .ref (a 0)), (1, .int x1), (2, .int x2), (3, .int x3), (4, .int x4)] [] v f g) (x1 : Int32) (x2 : Int32) (x4 : Int32) (t0 : Int32) (v : Nat → Int32) (f : Nat → Nat → Int32) (g : Nat → Nat → Int64) (h : r_takes_42 (fun r v f g => post r (v, f, g)) R5 x1 x2 x4 t0 v f g) : mG p l e (mRm 0 0) s m args below meth c A D cI cJ cZ a 7 (MQ below (va_Qi post (mB D cI cJ cZ a) A) args s 0 0 A) 42 [(0, .ref (a 0)), (1, .int x1), (2, .int x2), (4, .int x4)] [.int t0] v f g := by
  unfold r_takes_42 at h
  refine mg_istore_n C (i := 3) (lv' := [(3, .int t0), (0, .ref (a 0)), (1, .int x1), (2, .int x2), (4, .int x4)]) rfl (Nat.le_of_ble_eq_true rfl) rfl dX12_takes_42 ?_
  obtain ⟨x4_8, e_x4_8⟩ : ∃ z : Int32, z = x4 + nI 1 := ⟨_, rfl⟩
  have h := h x4_8 e_x4_8
  refine mg_iinc C (lv' := [(4, .int x4_8), (3, .int t0), (0, .ref (a 0)), (1, .int x1), (2, .int x2)]) 4 rfl (by rw [e_x4_8]; rfl) (Nat.le_of_ble_eq_true rfl) rfl dX12_takes_43 ?_
  refine mg_goto C 5 (by decide) dX12_takes_46 ?_
  exact mg_sub [2, 3, 4, 1, 0] rfl (hR5 x1 x2 t0 x4_8 v f g h)
set_option maxRecDepth 20000 in
theorem sb_takes_41 (C : mC p s m args meth c cX12_takes 7 (some .boolean) A D cI cJ cZ) {post : Int32 → mS → Prop} {R5 : Int32 → Int32 → Int32 → Int32 → (Nat → Int32) → (Nat → Nat → Int32) → (Nat → Nat → Int64) → Prop} (hR5 : ∀ (x1 : Int32) (x2 : Int32) (x3 : Int32) (x4 : Int32) (v : Nat → Int32) (f : Nat → Nat → Int32) (g : Nat → Nat → Int64), R5 x1 x2 x3 x4 v f g → mG p l e (mRm 0 0) s m args below meth c A D cI cJ cZ a 7 (MQ below (va_Qi post (mB D cI cJ cZ a) A) args s 0 0 A) 5 [(0, .ref (a 0)), (1, .int x1), (2, .int x2), (3, .int x3), (4, .int x4)] [] v f g) (x1 : Int32) (x2 : Int32) (x3 : Int32) (x4 : Int32) (v : Nat → Int32) (f : Nat → Nat → Int32) (g : Nat → Nat → Int64) (h : r_takes_41 (fun r v f g => post r (v, f, g)) R5 x1 x2 x3 x4 v f g) : mG p l e (mRm 0 0) s m args below meth c A D cI cJ cZ a 7 (MQ below (va_Qi post (mB D cI cJ cZ a) A) args s 0 0 A) 41 [(0, .ref (a 0)), (1, .int x1), (2, .int x2), (3, .int x3), (4, .int x4)] [] v f g := by
  unfold r_takes_41 at h
  refine mg_iload_n C (i := 3) rfl 3 rfl dX12_takes_41 ?_
  exact mg_sub [0, 1, 2, 4] rfl (sb_takes_42 C hR5 x1 x2 x4 x3 v f g h)
set_option maxRecDepth 20000 in
theorem sb_takes_5 (C : mC p s m args meth c cX12_takes 7 (some .boolean) A D cI cJ cZ) {post : Int32 → mS → Prop} {R5 : Int32 → Int32 → Int32 → Int32 → (Nat → Int32) → (Nat → Nat → Int32) → (Nat → Nat → Int64) → Prop} (hR5 : ∀ (x1 : Int32) (x2 : Int32) (x3 : Int32) (x4 : Int32) (v : Nat → Int32) (f : Nat → Nat → Int32) (g : Nat → Nat → Int64), R5 x1 x2 x3 x4 v f g → mG p l e (mRm 0 0) s m args below meth c A D cI cJ cZ a 7 (MQ below (va_Qi post (mB D cI cJ cZ a) A) args s 0 0 A) 5 [(0, .ref (a 0)), (1, .int x1), (2, .int x2), (3, .int x3), (4, .int x4)] [] v f g) (x1 : Int32) (x2 : Int32) (x3 : Int32) (x4 : Int32) (v : Nat → Int32) (f : Nat → Nat → Int32) (g : Nat → Nat → Int64) (h : r_takes_5 (fun r v f g => post r (v, f, g)) R5 x1 x2 x3 x4 v f g) : mG p l e (mRm 0 0) s m args below meth c A D cI cJ cZ a 7 (MQ below (va_Qi post (mB D cI cJ cZ a) A) args s 0 0 A) 5 [(0, .ref (a 0)), (1, .int x1), (2, .int x2), (3, .int x3), (4, .int x4)] [] v f g := by
  unfold r_takes_5 at h
  refine mg_iload C 4 rfl dX12_takes_5 ?_
  refine mg_aload_n C (i := 0) rfl 0 rfl dX12_takes_7 ?_
  refine mg_getI C (k := 85) (by decide) rfl mL_cached rfl dX12_takes_8 ?_
  refine mg_icmp_ge C 49 (by decide) dX12_takes_11 (fun c_ => ?_) (fun c_ => ?_)
  · have h := h.1 c_
    refine mg_iload_n C (i := 3) rfl 3 rfl dX12_takes_49 ?_
    refine mg_iconst C (x := (-1)) rfl dX12_takes_50 ?_
    refine mg_icmp_eq C 58 (by decide) dX12_takes_51 (fun c_ => ?_) (fun c_ => ?_)
    · have h := h.1 c_
      refine mg_iconst C (x := nI 0) rfl dX12_takes_58 ?_
      exact mg_sub [0, 1, 2, 3] rfl (sb_takes_59 C  x1 x2 x3 ((nI 0)) v f g h)
    · have h := h.2 c_
      refine mg_iconst C (x := nI 1) rfl dX12_takes_54 ?_
      refine mg_goto C 59 (by decide) dX12_takes_55 ?_
      exact mg_sub [0, 1, 2, 3] rfl (sb_takes_59 C  x1 x2 x3 ((nI 1)) v f g h)
  · have h := h.2 c_
    refine mg_aload_n C (i := 0) rfl 0 rfl dX12_takes_14 ?_
    refine mg_arr C 57 (by decide) (by decide) rfl mL_cacheQueries rfl dX12_takes_15 ?_
    refine mg_iload C 4 rfl dX12_takes_18 ?_
    obtain ⟨hc_20, h⟩ := h
    refine mg_ialoadR C (n := 8) 57 (by decide) (by decide) rfl rfl hc_20 dX12_takes_20 ?_
    refine mg_iload_n C (i := 1) rfl 1 rfl dX12_takes_21 ?_
    refine mg_icmp_ne C 41 (by decide) dX12_takes_22 (fun c_ => ?_) (fun c_ => ?_)
    · have h := h.1 c_
      exact mg_sub [0, 1, 2, 3, 4] rfl (sb_takes_41 C hR5 x1 x2 x3 x4 v f g h)
    · have h := h.2 c_
      refine mg_aload_n C (i := 0) rfl 0 rfl dX12_takes_25 ?_
      refine mg_arr C 58 (by decide) (by decide) rfl mL_cacheSegments rfl dX12_takes_26 ?_
      refine mg_iload C 4 rfl dX12_takes_29 ?_
      obtain ⟨hc_31, h⟩ := h
      refine mg_ialoadR C (n := 8) 58 (by decide) (by decide) rfl rfl hc_31 dX12_takes_31 ?_
      refine mg_iload_n C (i := 2) rfl 2 rfl dX12_takes_32 ?_
      refine mg_icmp_ne C 41 (by decide) dX12_takes_33 (fun c_ => ?_) (fun c_ => ?_)
      · have h := h.1 c_
        exact mg_sub [0, 1, 2, 3, 4] rfl (sb_takes_41 C hR5 x1 x2 x3 x4 v f g h)
      · have h := h.2 c_
        refine mg_iload C 4 rfl dX12_takes_36 ?_
        refine mg_goto C 42 (by decide) dX12_takes_38 ?_
        exact mg_sub [0, 1, 2, 4] rfl (sb_takes_42 C hR5 x1 x2 x4 x4 v f g h)
set_option maxRecDepth 20000 in
theorem sl_takes_5 (C : mC p s m args meth c cX12_takes 7 (some .boolean) A D cI cJ cZ) {post : Int32 → mS → Prop}   (x1 : Int32) (x2 : Int32) (x3 : Int32) (x4 : Int32) (v : Nat → Int32) (f : Nat → Nat → Int32) (g : Nat → Nat → Int64) (h : r_takes_5L (fun r v f g => post r (v, f, g))  x1 x2 x3 x4 v f g) : mG p l e (mRm 0 0) s m args below meth c A D cI cJ cZ a 7 (MQ below (va_Qi post (mB D cI cJ cZ a) A) args s 0 0 A) 5 [(0, .ref (a 0)), (1, .int x1), (2, .int x2), (3, .int x3), (4, .int x4)] [] v f g :=
  h (fun y => mG p l e (mRm 0 0) s m args below meth c A D cI cJ cZ a 7 (MQ below (va_Qi post (mB D cI cJ cZ a) A) args s 0 0 A) 5 [(0, .ref (a 0)), (1, .int (y.1)), (2, .int (y.2.1)), (3, .int (y.2.2.1)), (4, .int (y.2.2.2.1))] [] (y.2.2.2.2.1) (y.2.2.2.2.2.1) (y.2.2.2.2.2.2)) (fun y hy => sb_takes_5 C  (fun b0 b1 b2 b3 v f g z => z) (y.1) (y.2.1) (y.2.2.1) (y.2.2.2.1) (y.2.2.2.2.1) (y.2.2.2.2.2.1) (y.2.2.2.2.2.2) hy)
end S_takes
set_option maxHeartbeats 1000000 in
set_option maxRecDepth 20000 in
theorem s_takes (l : Launch) (x1 : Int32) (x2 : Int32) (v : Nat → Int32) (f : Nat → Nat → Int32) (g : Nat → Nat → Int64) {P : Int32 → (Nat → Int32) → (Nat → Nat → Int32) → (Nat → Nat → Int64) → Prop} (h : r_takes P x1 x2 v f g) : mMi l yX12_takes cX12_takes 7 (some .boolean) 0 0 false [.int x1, .int x2] v f g (fun r w => P r w.1 w.2.1 w.2.2) := by
  intro D cI cJ cZ a sz
  refine mg_body (by decide +kernel) rfl (Nat.le_of_ble_eq_true rfl) ?_
  intro p e s m args below meth c hsz C
  clear hsz
  generalize va_A (mW cI cJ cZ a v f g) sz = A at C ⊢
  refine mg_lv (lv' := [(0, .ref (a 0)), (1, .int x1), (2, .int x2)]) rfl ?_
  unfold r_takes at h
  refine mg_iconst C (x := (-1)) rfl dX12_takes_0 ?_
  refine mg_nmI (fun x3_1 e_x3_1 => ?_)
  have h := h x3_1 e_x3_1
  refine mg_istore_n C (i := 3) (lv' := [(3, .int x3_1), (0, .ref (a 0)), (1, .int x1), (2, .int x2)]) rfl (Nat.le_of_ble_eq_true rfl) rfl dX12_takes_1 ?_
  refine mg_iconst C (x := nI 0) rfl dX12_takes_2 ?_
  refine mg_istore C (lv' := [(4, .int ((nI 0))), (3, .int x3_1), (0, .ref (a 0)), (1, .int x1), (2, .int x2)]) (Nat.le_of_ble_eq_true rfl) rfl dX12_takes_3 ?_
  exact mg_sub [2, 3, 4, 1, 0] rfl (sl_takes_5 C  x1 x2 x3_1 (((nI 0))) v f g h)
def r_bound_249 (Q : Int32 → (Nat → Int32) → (Nat → Nat → Int32) → (Nat → Nat → Int64) → Prop) (R6 : Int32 → Int32 → Int32 → Int32 → Int32 → (Nat → Int32) → (Nat → Nat → Int32) → (Nat → Nat → Int64) → Prop) (x1 : Int32) (x2 : Int32) (x3 : Int32) (x5 : Int32) (t0 : Int32) (t1 : Int32) (v : Nat → Int32) (f : Nat → Nat → Int32) (g : Nat → Nat → Int64) : Prop :=
∀ x4_3 : Int32, x4_3 = (t1 + t0) → ∀ x5_4 : Int32, x5_4 = x5 + nI 1 → R6 x1 x2 x3 x4_3 x5_4 v f g
def r_bound_204 (Q : Int32 → (Nat → Int32) → (Nat → Nat → Int32) → (Nat → Nat → Int64) → Prop) (R6 : Int32 → Int32 → Int32 → Int32 → Int32 → (Nat → Int32) → (Nat → Nat → Int32) → (Nat → Nat → Int64) → Prop) (x1 : Int32) (x2 : Int32) (x3 : Int32) (x4 : Int32) (x5 : Int32) (x6 : Int32) (x7 : Int32) (v : Nat → Int32) (f : Nat → Nat → Int32) (g : Nat → Nat → Int64) : Prop :=
((¬ x7 = 0 →
  vp_in x6 1968 ∧ (((((f 40 (x6).toNatClampNeg)) < ((nI 3)) →
    r_strength (fun r_2 v_2 f_2 g_2 => 
    vp_in x5 48 ∧ (r_bound_249 Q R6 x1 x2 x3 x5 ((r_2 * ((f_2 55 (x5).toNatClampNeg)))) x4 v_2 f_2 g_2)) x7 v f g) ∧
   (¬ ((f 40 (x6).toNatClampNeg)) < ((nI 3)) →
    vp_in x5 48 ∧ (r_bound_249 Q R6 x1 x2 x3 x5 ((f 55 (x5).toNatClampNeg)) x4 v f g))))) ∧
 (x7 = 0 →
  r_bound_249 Q R6 x1 x2 x3 x5 ((nI 0)) x4 v f g))
def r_bound_196 (Q : Int32 → (Nat → Int32) → (Nat → Nat → Int32) → (Nat → Nat → Int64) → Prop) (R6 : Int32 → Int32 → Int32 → Int32 → Int32 → (Nat → Int32) → (Nat → Nat → Int32) → (Nat → Nat → Int64) → Prop) (R32 : Int32 → Int32 → Int32 → Int32 → Int32 → Int32 → Int32 → Int32 → (Nat → Int32) → (Nat → Nat → Int32) → (Nat → Nat → Int64) → Prop) (x1 : Int32) (x2 : Int32) (x3 : Int32) (x4 : Int32) (x5 : Int32) (x6 : Int32) (x8 : Int32) (t0 : Int32) (v : Nat → Int32) (f : Nat → Nat → Int32) (g : Nat → Nat → Int64) : Prop :=
∀ x8_5 : Int32, x8_5 = x8 + nI 1 → R32 x1 x2 x3 x4 x5 x6 t0 x8_5 v f g
def r_bound_173 (Q : Int32 → (Nat → Int32) → (Nat → Nat → Int32) → (Nat → Nat → Int64) → Prop) (R6 : Int32 → Int32 → Int32 → Int32 → Int32 → (Nat → Int32) → (Nat → Nat → Int32) → (Nat → Nat → Int64) → Prop) (R32 : Int32 → Int32 → Int32 → Int32 → Int32 → Int32 → Int32 → Int32 → (Nat → Int32) → (Nat → Nat → Int32) → (Nat → Nat → Int64) → Prop) (R66 : Int32 → Int32 → Int32 → Int32 → Int32 → Int32 → Int32 → Int32 → Int32 → Int32 → (Nat → Int32) → (Nat → Nat → Int32) → (Nat → Nat → Int64) → Prop) (x1 : Int32) (x2 : Int32) (x3 : Int32) (x4 : Int32) (x5 : Int32) (x6 : Int32) (x7 : Int32) (x8 : Int32) (x10 : Int32) (t0 : Int32) (t1 : Int32) (v : Nat → Int32) (f : Nat → Nat → Int32) (g : Nat → Nat → Int64) : Prop :=
∀ x9_7 : Int32, x9_7 = (t1 + t0) → ∀ x10_8 : Int32, x10_8 = x10 + nI 1 → R66 x1 x2 x3 x4 x5 x6 x7 x8 x9_7 x10_8 v f g
def r_bound_159 (Q : Int32 → (Nat → Int32) → (Nat → Nat → Int32) → (Nat → Nat → Int64) → Prop) (R6 : Int32 → Int32 → Int32 → Int32 → Int32 → (Nat → Int32) → (Nat → Nat → Int32) → (Nat → Nat → Int64) → Prop) (R32 : Int32 → Int32 → Int32 → Int32 → Int32 → Int32 → Int32 → Int32 → (Nat → Int32) → (Nat → Nat → Int32) → (Nat → Nat → Int64) → Prop) (R66 : Int32 → Int32 → Int32 → Int32 → Int32 → Int32 → Int32 → Int32 → Int32 → Int32 → (Nat → Int32) → (Nat → Nat → Int32) → (Nat → Nat → Int64) → Prop) (x1 : Int32) (x2 : Int32) (x3 : Int32) (x4 : Int32) (x5 : Int32) (x6 : Int32) (x7 : Int32) (x8 : Int32) (x9 : Int32) (x10 : Int32) (t0 : Int32) (v : Nat → Int32) (f : Nat → Nat → Int32) (g : Nat → Nat → Int64) : Prop :=
((t0 = 0 →
  r_bound_173 Q R6 R32 R66 x1 x2 x3 x4 x5 x6 x7 x8 x10 ((nI 0)) x9 v f g) ∧
 (¬ t0 = 0 →
  r_bound_173 Q R6 R32 R66 x1 x2 x3 x4 x5 x6 x7 x8 x10 ((nI 1)) x9 v f g))
def r_bound_66 (Q : Int32 → (Nat → Int32) → (Nat → Nat → Int32) → (Nat → Nat → Int64) → Prop) (R6 : Int32 → Int32 → Int32 → Int32 → Int32 → (Nat → Int32) → (Nat → Nat → Int32) → (Nat → Nat → Int64) → Prop) (R32 : Int32 → Int32 → Int32 → Int32 → Int32 → Int32 → Int32 → Int32 → (Nat → Int32) → (Nat → Nat → Int32) → (Nat → Nat → Int64) → Prop) (R66 : Int32 → Int32 → Int32 → Int32 → Int32 → Int32 → Int32 → Int32 → Int32 → Int32 → (Nat → Int32) → (Nat → Nat → Int32) → (Nat → Nat → Int64) → Prop) (x1 : Int32) (x2 : Int32) (x3 : Int32) (x4 : Int32) (x5 : Int32) (x6 : Int32) (x7 : Int32) (x8 : Int32) (x9 : Int32) (x10 : Int32) (v : Nat → Int32) (f : Nat → Nat → Int32) (g : Nat → Nat → Int64) : Prop :=
vp_in x8 20200 ∧ (vp_in x6 1968 ∧ (vp_in ((((((nI 2)) * ((f 19 (x8).toNatClampNeg)))) + ((f 41 (x6).toNatClampNeg)))) 4848 ∧ (((((f 18 ((((((nI 2)) * ((f 19 (x8).toNatClampNeg)))) + ((f 41 (x6).toNatClampNeg)))).toNatClampNeg)) ≤ x10 →
  ((x9 ≤ x7 →
    r_bound_196 Q R6 R32 x1 x2 x3 x4 x5 x6 x8 x7 v f g) ∧
   (¬ x9 ≤ x7 →
    r_bound_196 Q R6 R32 x1 x2 x3 x4 x5 x6 x8 x9 v f g))) ∧
 (¬ ((f 18 ((((((nI 2)) * ((f 19 (x8).toNatClampNeg)))) + ((f 41 (x6).toNatClampNeg)))).toNatClampNeg)) ≤ x10 →
  vp_in x6 1968 ∧ (((((f 40 (x6).toNatClampNeg)) < ((nI 3)) →
    vp_in x8 20200 ∧ (vp_in x6 1968 ∧ (vp_in ((((nI 6)) * x6)) 11808 ∧ (r_hasAt (fun r_6 v_6 f_6 g_6 => 
    r_bound_159 Q R6 R32 R66 x1 x2 x3 x4 x5 x6 x7 x8 x9 x10 r_6 v_6 f_6 g_6) ((f 19 (x8).toNatClampNeg)) ((f 41 (x6).toNatClampNeg)) x10 (g 45 ((((nI 6)) * x6)).toNatClampNeg) v f g)))) ∧
   (¬ ((f 40 (x6).toNatClampNeg)) < ((nI 3)) →
    vp_in x8 20200 ∧ (vp_in x6 1968 ∧ (r_fitsAt (fun r_9 v_9 f_9 g_9 => 
    r_bound_159 Q R6 R32 R66 x1 x2 x3 x4 x5 x6 x7 x8 x9 x10 r_9 v_9 f_9 g_9) ((f 19 (x8).toNatClampNeg)) ((f 41 (x6).toNatClampNeg)) x10 x6 v f g))))))))))
def r_bound_66L (Q : Int32 → (Nat → Int32) → (Nat → Nat → Int32) → (Nat → Nat → Int64) → Prop) (R6 : Int32 → Int32 → Int32 → Int32 → Int32 → (Nat → Int32) → (Nat → Nat → Int32) → (Nat → Nat → Int64) → Prop) (R32 : Int32 → Int32 → Int32 → Int32 → Int32 → Int32 → Int32 → Int32 → (Nat → Int32) → (Nat → Nat → Int32) → (Nat → Nat → Int64) → Prop) (x1 : Int32) (x2 : Int32) (x3 : Int32) (x4 : Int32) (x5 : Int32) (x6 : Int32) (x7 : Int32) (x8 : Int32) (x9 : Int32) (x10 : Int32) (v : Nat → Int32) (f : Nat → Nat → Int32) (g : Nat → Nat → Int64) : Prop :=
  lfp (X := Int32 × Int32 × Int32 × Int32 × Int32 × Int32 × Int32 × Int32 × Int32 × Int32 × (Nat → Int32) × (Nat → Nat → Int32) × (Nat → Nat → Int64)) (fun P y => r_bound_66 Q R6 R32 (fun b0 b1 b2 b3 b4 b5 b6 b7 b8 b9 v f g => P (b0, b1, b2, b3, b4, b5, b6, b7, b8, b9, v, f, g)) y.1 y.2.1 y.2.2.1 y.2.2.2.1 y.2.2.2.2.1 y.2.2.2.2.2.1 y.2.2.2.2.2.2.1 y.2.2.2.2.2.2.2.1 y.2.2.2.2.2.2.2.2.1 y.2.2.2.2.2.2.2.2.2.1 y.2.2.2.2.2.2.2.2.2.2.1 y.2.2.2.2.2.2.2.2.2.2.2.1 y.2.2.2.2.2.2.2.2.2.2.2.2) (x1, x2, x3, x4, x5, x6, x7, x8, x9, x10, v, f, g)
def r_bound_32 (Q : Int32 → (Nat → Int32) → (Nat → Nat → Int32) → (Nat → Nat → Int64) → Prop) (R6 : Int32 → Int32 → Int32 → Int32 → Int32 → (Nat → Int32) → (Nat → Nat → Int32) → (Nat → Nat → Int64) → Prop) (R32 : Int32 → Int32 → Int32 → Int32 → Int32 → Int32 → Int32 → Int32 → (Nat → Int32) → (Nat → Nat → Int32) → (Nat → Nat → Int64) → Prop) (x1 : Int32) (x2 : Int32) (x3 : Int32) (x4 : Int32) (x5 : Int32) (x6 : Int32) (x7 : Int32) (x8 : Int32) (v : Nat → Int32) (f : Nat → Nat → Int32) (g : Nat → Nat → Int64) : Prop :=
((x3 ≤ x8 →
  r_bound_204 Q R6 x1 x2 x3 x4 x5 x6 x7 v f g) ∧
 (¬ x3 ≤ x8 →
  vp_in x6 1968 ∧ (((((nI 6)) ≤ ((f 40 (x6).toNatClampNeg)) →
    r_bound_204 Q R6 x1 x2 x3 x4 x5 x6 x7 v f g) ∧
   (¬ ((nI 6)) ≤ ((f 40 (x6).toNatClampNeg)) →
    vp_in x5 48 ∧ (((¬ ((f 56 (x5).toNatClampNeg)) = 0 →
      r_bound_204 Q R6 x1 x2 x3 x4 x5 x6 x7 v f g) ∧
     (((f 56 (x5).toNatClampNeg)) = 0 →
      r_bound_66L Q R6 R32 x1 x2 x3 x4 x5 x6 x7 x8 (((nI 0))) (((nI 0))) v f g))))))))
def r_bound_32L (Q : Int32 → (Nat → Int32) → (Nat → Nat → Int32) → (Nat → Nat → Int64) → Prop) (R6 : Int32 → Int32 → Int32 → Int32 → Int32 → (Nat → Int32) → (Nat → Nat → Int32) → (Nat → Nat → Int64) → Prop) (x1 : Int32) (x2 : Int32) (x3 : Int32) (x4 : Int32) (x5 : Int32) (x6 : Int32) (x7 : Int32) (x8 : Int32) (v : Nat → Int32) (f : Nat → Nat → Int32) (g : Nat → Nat → Int64) : Prop :=
  lfp (X := Int32 × Int32 × Int32 × Int32 × Int32 × Int32 × Int32 × Int32 × (Nat → Int32) × (Nat → Nat → Int32) × (Nat → Nat → Int64)) (fun P y => r_bound_32 Q R6 (fun b0 b1 b2 b3 b4 b5 b6 b7 v f g => P (b0, b1, b2, b3, b4, b5, b6, b7, v, f, g)) y.1 y.2.1 y.2.2.1 y.2.2.2.1 y.2.2.2.2.1 y.2.2.2.2.2.1 y.2.2.2.2.2.2.1 y.2.2.2.2.2.2.2.1 y.2.2.2.2.2.2.2.2.1 y.2.2.2.2.2.2.2.2.2.1 y.2.2.2.2.2.2.2.2.2.2) (x1, x2, x3, x4, x5, x6, x7, x8, v, f, g)
def r_bound_6 (Q : Int32 → (Nat → Int32) → (Nat → Nat → Int32) → (Nat → Nat → Int64) → Prop) (R6 : Int32 → Int32 → Int32 → Int32 → Int32 → (Nat → Int32) → (Nat → Nat → Int32) → (Nat → Nat → Int64) → Prop) (x1 : Int32) (x2 : Int32) (x3 : Int32) (x4 : Int32) (x5 : Int32) (v : Nat → Int32) (f : Nat → Nat → Int32) (g : Nat → Nat → Int64) : Prop :=
vp_in x1 41 ∧ (((((f 48 (x1).toNatClampNeg)) ≤ x5 →
  Q x4 v f g) ∧
 (¬ ((f 48 (x1).toNatClampNeg)) ≤ x5 →
  ∀ x6_1 : Int32, x6_1 = (((((nI 48)) * x1)) + x5) → r_bound_32L Q R6 x1 x2 x3 x4 x5 x6_1 (((nI 0))) x2 v f g)))
def r_bound_6L (Q : Int32 → (Nat → Int32) → (Nat → Nat → Int32) → (Nat → Nat → Int64) → Prop)  (x1 : Int32) (x2 : Int32) (x3 : Int32) (x4 : Int32) (x5 : Int32) (v : Nat → Int32) (f : Nat → Nat → Int32) (g : Nat → Nat → Int64) : Prop :=
  lfp (X := Int32 × Int32 × Int32 × Int32 × Int32 × (Nat → Int32) × (Nat → Nat → Int32) × (Nat → Nat → Int64)) (fun P y => r_bound_6 Q  (fun b0 b1 b2 b3 b4 v f g => P (b0, b1, b2, b3, b4, v, f, g)) y.1 y.2.1 y.2.2.1 y.2.2.2.1 y.2.2.2.2.1 y.2.2.2.2.2.1 y.2.2.2.2.2.2.1 y.2.2.2.2.2.2.2) (x1, x2, x3, x4, x5, v, f, g)
def r_bound (Q : Int32 → (Nat → Int32) → (Nat → Nat → Int32) → (Nat → Nat → Int64) → Prop) (x1 : Int32) (x2 : Int32) (x3 : Int32) (v : Nat → Int32) (f : Nat → Nat → Int32) (g : Nat → Nat → Int64) : Prop :=
r_bound_6L Q  x1 x2 x3 (((nI 0))) (((nI 0))) v f g
section S_bound
variable {p : Program} {l : Launch} {e : Env} {s : State} {m : MethodId} {args : Array Value} {below : List Frame} {meth : Method} {c : Code} {A : Nat → Prop} {D : va_G} {cI cJ cZ : ClassId} {a : Nat → Nat}
set_option maxRecDepth 20000 in
theorem sb_bound_249 (C : mC p s m args meth c cX12_bound 12 (some .int) A D cI cJ cZ) {post : Int32 → mS → Prop} {R6 : Int32 → Int32 → Int32 → Int32 → Int32 → (Nat → Int32) → (Nat → Nat → Int32) → (Nat → Nat → Int64) → Prop} (hR6 : ∀ (x1 : Int32) (x2 : Int32) (x3 : Int32) (x4 : Int32) (x5 : Int32) (v : Nat → Int32) (f : Nat → Nat → Int32) (g : Nat → Nat → Int64), R6 x1 x2 x3 x4 x5 v f g → mG p l e (mRm 5 128) s m args below meth c A D cI cJ cZ a 12 (MQ below (va_Qi post (mB D cI cJ cZ a) A) args s 0 0 A) 6 [(0, .ref (a 0)), (1, .int x1), (2, .int x2), (3, .int x3), (4, .int x4), (5, .int x5)] [] v f g) (x1 : Int32) (x2 : Int32) (x3 : Int32) (x5 : Int32) (t0 : Int32) (t1 : Int32) (v : Nat → Int32) (f : Nat → Nat → Int32) (g : Nat → Nat → Int64) (h : r_bound_249 (fun r v f g => post r (v, f, g)) R6 x1 x2 x3 x5 t0 t1 v f g) : mG p l e (mRm 5 128) s m args below meth c A D cI cJ cZ a 12 (MQ below (va_Qi post (mB D cI cJ cZ a) A) args s 0 0 A) 249 [(0, .ref (a 0)), (1, .int x1), (2, .int x2), (3, .int x3), (5, .int x5)] [.int t0, .int t1] v f g := by
  unfold r_bound_249 at h
  refine mg_iadd C dX12_bound_249 ?_
  refine mg_nmI (fun x4_3 e_x4_3 => ?_)
  have h := h x4_3 e_x4_3
  refine mg_istore C (lv' := [(4, .int x4_3), (0, .ref (a 0)), (1, .int x1), (2, .int x2), (3, .int x3), (5, .int x5)]) (Nat.le_of_ble_eq_true rfl) rfl dX12_bound_250 ?_
  obtain ⟨x5_4, e_x5_4⟩ : ∃ z : Int32, z = x5 + nI 1 := ⟨_, rfl⟩
  have h := h x5_4 e_x5_4
  refine mg_iinc C (lv' := [(5, .int x5_4), (4, .int x4_3), (0, .ref (a 0)), (1, .int x1), (2, .int x2), (3, .int x3)]) 5 rfl (by rw [e_x5_4]; rfl) (Nat.le_of_ble_eq_true rfl) rfl dX12_bound_252 ?_
  refine mg_goto C 6 (by decide) dX12_bound_255 ?_
  exact mg_sub [2, 3, 4, 5, 1, 0] rfl (hR6 x1 x2 x3 x4_3 x5_4 v f g h)
set_option maxRecDepth 20000 in
theorem sb_bound_204 (C : mC p s m args meth c cX12_bound 12 (some .int) A D cI cJ cZ) {post : Int32 → mS → Prop} {R6 : Int32 → Int32 → Int32 → Int32 → Int32 → (Nat → Int32) → (Nat → Nat → Int32) → (Nat → Nat → Int64) → Prop} (hR6 : ∀ (x1 : Int32) (x2 : Int32) (x3 : Int32) (x4 : Int32) (x5 : Int32) (v : Nat → Int32) (f : Nat → Nat → Int32) (g : Nat → Nat → Int64), R6 x1 x2 x3 x4 x5 v f g → mG p l e (mRm 5 128) s m args below meth c A D cI cJ cZ a 12 (MQ below (va_Qi post (mB D cI cJ cZ a) A) args s 0 0 A) 6 [(0, .ref (a 0)), (1, .int x1), (2, .int x2), (3, .int x3), (4, .int x4), (5, .int x5)] [] v f g) (x1 : Int32) (x2 : Int32) (x3 : Int32) (x4 : Int32) (x5 : Int32) (x6 : Int32) (x7 : Int32) (v : Nat → Int32) (f : Nat → Nat → Int32) (g : Nat → Nat → Int64) (h : r_bound_204 (fun r v f g => post r (v, f, g)) R6 x1 x2 x3 x4 x5 x6 x7 v f g) : mG p l e (mRm 5 128) s m args below meth c A D cI cJ cZ a 12 (MQ below (va_Qi post (mB D cI cJ cZ a) A) args s 0 0 A) 204 [(0, .ref (a 0)), (1, .int x1), (2, .int x2), (3, .int x3), (4, .int x4), (5, .int x5), (6, .int x6), (7, .int x7)] [] v f g := by
  unfold r_bound_204 at h
  refine mg_iload C 4 rfl dX12_bound_204 ?_
  refine mg_iload C 7 rfl dX12_bound_206 ?_
  refine mg_if_ne C 215 (by decide) dX12_bound_208 (fun c_ => ?_) (fun c_ => ?_)
  · have h := h.1 c_
    refine mg_aload_n C (i := 0) rfl 0 rfl dX12_bound_215 ?_
    refine mg_arr C 40 (by decide) (by decide) rfl mL_kinds rfl dX12_bound_216 ?_
    refine mg_iload C 6 rfl dX12_bound_219 ?_
    obtain ⟨hc_221, h⟩ := h
    refine mg_ialoadR C (n := 1968) 40 (by decide) (by decide) rfl rfl hc_221 dX12_bound_221 ?_
    refine mg_iconst C (x := nI 3) rfl dX12_bound_222 ?_
    refine mg_icmp_lt C 236 (by decide) dX12_bound_223 (fun c_ => ?_) (fun c_ => ?_)
    · have h := h.1 c_
      refine mg_iload C 7 rfl dX12_bound_236 ?_
      refine mg_callsiW C (s_strength l x7 v f g h) mCal_strength rfl ⟨by decide, by decide⟩ rfl (Nat.le_of_ble_eq_true rfl) dX12_bound_238 (fun r_2 v_2 f_2 g_2 h => ?_)
      refine mg_aload_n C (i := 0) rfl 0 rfl dX12_bound_241 ?_
      refine mg_arr C 55 (by decide) (by decide) rfl mL_gains rfl dX12_bound_242 ?_
      refine mg_iload C 5 rfl dX12_bound_245 ?_
      obtain ⟨hc_247, h⟩ := h
      refine mg_ialoadR C (n := 48) 55 (by decide) (by decide) rfl rfl hc_247 dX12_bound_247 ?_
      refine mg_imul C dX12_bound_248 ?_
      exact mg_sub [0, 1, 2, 3, 5] rfl (sb_bound_249 C hR6 x1 x2 x3 x5 ((r_2 * ((f_2 55 (x5).toNatClampNeg)))) x4 v_2 f_2 g_2 h)
    · have h := h.2 c_
      refine mg_aload_n C (i := 0) rfl 0 rfl dX12_bound_226 ?_
      refine mg_arr C 55 (by decide) (by decide) rfl mL_gains rfl dX12_bound_227 ?_
      refine mg_iload C 5 rfl dX12_bound_230 ?_
      obtain ⟨hc_232, h⟩ := h
      refine mg_ialoadR C (n := 48) 55 (by decide) (by decide) rfl rfl hc_232 dX12_bound_232 ?_
      refine mg_goto C 249 (by decide) dX12_bound_233 ?_
      exact mg_sub [0, 1, 2, 3, 5] rfl (sb_bound_249 C hR6 x1 x2 x3 x5 ((f 55 (x5).toNatClampNeg)) x4 v f g h)
  · have h := h.2 c_
    refine mg_iconst C (x := nI 0) rfl dX12_bound_211 ?_
    refine mg_goto C 249 (by decide) dX12_bound_212 ?_
    exact mg_sub [0, 1, 2, 3, 5] rfl (sb_bound_249 C hR6 x1 x2 x3 x5 ((nI 0)) x4 v f g h)
set_option maxRecDepth 20000 in
theorem sb_bound_196 (C : mC p s m args meth c cX12_bound 12 (some .int) A D cI cJ cZ) {post : Int32 → mS → Prop} {R6 : Int32 → Int32 → Int32 → Int32 → Int32 → (Nat → Int32) → (Nat → Nat → Int32) → (Nat → Nat → Int64) → Prop} {R32 : Int32 → Int32 → Int32 → Int32 → Int32 → Int32 → Int32 → Int32 → (Nat → Int32) → (Nat → Nat → Int32) → (Nat → Nat → Int64) → Prop} (hR6 : ∀ (x1 : Int32) (x2 : Int32) (x3 : Int32) (x4 : Int32) (x5 : Int32) (v : Nat → Int32) (f : Nat → Nat → Int32) (g : Nat → Nat → Int64), R6 x1 x2 x3 x4 x5 v f g → mG p l e (mRm 5 128) s m args below meth c A D cI cJ cZ a 12 (MQ below (va_Qi post (mB D cI cJ cZ a) A) args s 0 0 A) 6 [(0, .ref (a 0)), (1, .int x1), (2, .int x2), (3, .int x3), (4, .int x4), (5, .int x5)] [] v f g) (hR32 : ∀ (x1 : Int32) (x2 : Int32) (x3 : Int32) (x4 : Int32) (x5 : Int32) (x6 : Int32) (x7 : Int32) (x8 : Int32) (v : Nat → Int32) (f : Nat → Nat → Int32) (g : Nat → Nat → Int64), R32 x1 x2 x3 x4 x5 x6 x7 x8 v f g → mG p l e (mRm 5 128) s m args below meth c A D cI cJ cZ a 12 (MQ below (va_Qi post (mB D cI cJ cZ a) A) args s 0 0 A) 32 [(0, .ref (a 0)), (1, .int x1), (2, .int x2), (3, .int x3), (4, .int x4), (5, .int x5), (6, .int x6), (7, .int x7), (8, .int x8)] [] v f g) (x1 : Int32) (x2 : Int32) (x3 : Int32) (x4 : Int32) (x5 : Int32) (x6 : Int32) (x8 : Int32) (t0 : Int32) (v : Nat → Int32) (f : Nat → Nat → Int32) (g : Nat → Nat → Int64) (h : r_bound_196 (fun r v f g => post r (v, f, g)) R6 R32 x1 x2 x3 x4 x5 x6 x8 t0 v f g) : mG p l e (mRm 5 128) s m args below meth c A D cI cJ cZ a 12 (MQ below (va_Qi post (mB D cI cJ cZ a) A) args s 0 0 A) 196 [(0, .ref (a 0)), (1, .int x1), (2, .int x2), (3, .int x3), (4, .int x4), (5, .int x5), (6, .int x6), (8, .int x8)] [.int t0] v f g := by
  unfold r_bound_196 at h
  refine mg_istore C (lv' := [(7, .int t0), (0, .ref (a 0)), (1, .int x1), (2, .int x2), (3, .int x3), (4, .int x4), (5, .int x5), (6, .int x6), (8, .int x8)]) (Nat.le_of_ble_eq_true rfl) rfl dX12_bound_196 ?_
  obtain ⟨x8_5, e_x8_5⟩ : ∃ z : Int32, z = x8 + nI 1 := ⟨_, rfl⟩
  have h := h x8_5 e_x8_5
  refine mg_iinc C (lv' := [(8, .int x8_5), (7, .int t0), (0, .ref (a 0)), (1, .int x1), (2, .int x2), (3, .int x3), (4, .int x4), (5, .int x5), (6, .int x6)]) 8 rfl (by rw [e_x8_5]; rfl) (Nat.le_of_ble_eq_true rfl) rfl dX12_bound_198 ?_
  refine mg_goto C 32 (by decide) dX12_bound_201 ?_
  exact mg_sub [2, 3, 4, 5, 6, 7, 8, 1, 0] rfl (hR32 x1 x2 x3 x4 x5 x6 t0 x8_5 v f g h)
set_option maxRecDepth 20000 in
theorem sb_bound_173 (C : mC p s m args meth c cX12_bound 12 (some .int) A D cI cJ cZ) {post : Int32 → mS → Prop} {R6 : Int32 → Int32 → Int32 → Int32 → Int32 → (Nat → Int32) → (Nat → Nat → Int32) → (Nat → Nat → Int64) → Prop} {R32 : Int32 → Int32 → Int32 → Int32 → Int32 → Int32 → Int32 → Int32 → (Nat → Int32) → (Nat → Nat → Int32) → (Nat → Nat → Int64) → Prop} {R66 : Int32 → Int32 → Int32 → Int32 → Int32 → Int32 → Int32 → Int32 → Int32 → Int32 → (Nat → Int32) → (Nat → Nat → Int32) → (Nat → Nat → Int64) → Prop} (hR6 : ∀ (x1 : Int32) (x2 : Int32) (x3 : Int32) (x4 : Int32) (x5 : Int32) (v : Nat → Int32) (f : Nat → Nat → Int32) (g : Nat → Nat → Int64), R6 x1 x2 x3 x4 x5 v f g → mG p l e (mRm 5 128) s m args below meth c A D cI cJ cZ a 12 (MQ below (va_Qi post (mB D cI cJ cZ a) A) args s 0 0 A) 6 [(0, .ref (a 0)), (1, .int x1), (2, .int x2), (3, .int x3), (4, .int x4), (5, .int x5)] [] v f g) (hR32 : ∀ (x1 : Int32) (x2 : Int32) (x3 : Int32) (x4 : Int32) (x5 : Int32) (x6 : Int32) (x7 : Int32) (x8 : Int32) (v : Nat → Int32) (f : Nat → Nat → Int32) (g : Nat → Nat → Int64), R32 x1 x2 x3 x4 x5 x6 x7 x8 v f g → mG p l e (mRm 5 128) s m args below meth c A D cI cJ cZ a 12 (MQ below (va_Qi post (mB D cI cJ cZ a) A) args s 0 0 A) 32 [(0, .ref (a 0)), (1, .int x1), (2, .int x2), (3, .int x3), (4, .int x4), (5, .int x5), (6, .int x6), (7, .int x7), (8, .int x8)] [] v f g) (hR66 : ∀ (x1 : Int32) (x2 : Int32) (x3 : Int32) (x4 : Int32) (x5 : Int32) (x6 : Int32) (x7 : Int32) (x8 : Int32) (x9 : Int32) (x10 : Int32) (v : Nat → Int32) (f : Nat → Nat → Int32) (g : Nat → Nat → Int64), R66 x1 x2 x3 x4 x5 x6 x7 x8 x9 x10 v f g → mG p l e (mRm 5 128) s m args below meth c A D cI cJ cZ a 12 (MQ below (va_Qi post (mB D cI cJ cZ a) A) args s 0 0 A) 66 [(0, .ref (a 0)), (1, .int x1), (2, .int x2), (3, .int x3), (4, .int x4), (5, .int x5), (6, .int x6), (7, .int x7), (8, .int x8), (9, .int x9), (10, .int x10)] [] v f g) (x1 : Int32) (x2 : Int32) (x3 : Int32) (x4 : Int32) (x5 : Int32) (x6 : Int32) (x7 : Int32) (x8 : Int32) (x10 : Int32) (t0 : Int32) (t1 : Int32) (v : Nat → Int32) (f : Nat → Nat → Int32) (g : Nat → Nat → Int64) (h : r_bound_173 (fun r v f g => post r (v, f, g)) R6 R32 R66 x1 x2 x3 x4 x5 x6 x7 x8 x10 t0 t1 v f g) : mG p l e (mRm 5 128) s m args below meth c A D cI cJ cZ a 12 (MQ below (va_Qi post (mB D cI cJ cZ a) A) args s 0 0 A) 173 [(0, .ref (a 0)), (1, .int x1), (2, .int x2), (3, .int x3), (4, .int x4), (5, .int x5), (6, .int x6), (7, .int x7), (8, .int x8), (10, .int x10)] [.int t0, .int t1] v f g := by
  unfold r_bound_173 at h
  refine mg_iadd C dX12_bound_173 ?_
  refine mg_nmI (fun x9_7 e_x9_7 => ?_)
  have h := h x9_7 e_x9_7
  refine mg_istore C (lv' := [(9, .int x9_7), (0, .ref (a 0)), (1, .int x1), (2, .int x2), (3, .int x3), (4, .int x4), (5, .int x5), (6, .int x6), (7, .int x7), (8, .int x8), (10, .int x10)]) (Nat.le_of_ble_eq_true rfl) rfl dX12_bound_174 ?_
  obtain ⟨x10_8, e_x10_8⟩ : ∃ z : Int32, z = x10 + nI 1 := ⟨_, rfl⟩
  have h := h x10_8 e_x10_8
  refine mg_iinc C (lv' := [(10, .int x10_8), (9, .int x9_7), (0, .ref (a 0)), (1, .int x1), (2, .int x2), (3, .int x3), (4, .int x4), (5, .int x5), (6, .int x6), (7, .int x7), (8, .int x8)]) 10 rfl (by rw [e_x10_8]; rfl) (Nat.le_of_ble_eq_true rfl) rfl dX12_bound_176 ?_
  refine mg_goto C 66 (by decide) dX12_bound_179 ?_
  exact mg_sub [2, 3, 4, 5, 6, 7, 8, 9, 10, 1, 0] rfl (hR66 x1 x2 x3 x4 x5 x6 x7 x8 x9_7 x10_8 v f g h)
set_option maxRecDepth 20000 in
theorem sb_bound_159 (C : mC p s m args meth c cX12_bound 12 (some .int) A D cI cJ cZ) {post : Int32 → mS → Prop} {R6 : Int32 → Int32 → Int32 → Int32 → Int32 → (Nat → Int32) → (Nat → Nat → Int32) → (Nat → Nat → Int64) → Prop} {R32 : Int32 → Int32 → Int32 → Int32 → Int32 → Int32 → Int32 → Int32 → (Nat → Int32) → (Nat → Nat → Int32) → (Nat → Nat → Int64) → Prop} {R66 : Int32 → Int32 → Int32 → Int32 → Int32 → Int32 → Int32 → Int32 → Int32 → Int32 → (Nat → Int32) → (Nat → Nat → Int32) → (Nat → Nat → Int64) → Prop} (hR6 : ∀ (x1 : Int32) (x2 : Int32) (x3 : Int32) (x4 : Int32) (x5 : Int32) (v : Nat → Int32) (f : Nat → Nat → Int32) (g : Nat → Nat → Int64), R6 x1 x2 x3 x4 x5 v f g → mG p l e (mRm 5 128) s m args below meth c A D cI cJ cZ a 12 (MQ below (va_Qi post (mB D cI cJ cZ a) A) args s 0 0 A) 6 [(0, .ref (a 0)), (1, .int x1), (2, .int x2), (3, .int x3), (4, .int x4), (5, .int x5)] [] v f g) (hR32 : ∀ (x1 : Int32) (x2 : Int32) (x3 : Int32) (x4 : Int32) (x5 : Int32) (x6 : Int32) (x7 : Int32) (x8 : Int32) (v : Nat → Int32) (f : Nat → Nat → Int32) (g : Nat → Nat → Int64), R32 x1 x2 x3 x4 x5 x6 x7 x8 v f g → mG p l e (mRm 5 128) s m args below meth c A D cI cJ cZ a 12 (MQ below (va_Qi post (mB D cI cJ cZ a) A) args s 0 0 A) 32 [(0, .ref (a 0)), (1, .int x1), (2, .int x2), (3, .int x3), (4, .int x4), (5, .int x5), (6, .int x6), (7, .int x7), (8, .int x8)] [] v f g) (hR66 : ∀ (x1 : Int32) (x2 : Int32) (x3 : Int32) (x4 : Int32) (x5 : Int32) (x6 : Int32) (x7 : Int32) (x8 : Int32) (x9 : Int32) (x10 : Int32) (v : Nat → Int32) (f : Nat → Nat → Int32) (g : Nat → Nat → Int64), R66 x1 x2 x3 x4 x5 x6 x7 x8 x9 x10 v f g → mG p l e (mRm 5 128) s m args below meth c A D cI cJ cZ a 12 (MQ below (va_Qi post (mB D cI cJ cZ a) A) args s 0 0 A) 66 [(0, .ref (a 0)), (1, .int x1), (2, .int x2), (3, .int x3), (4, .int x4), (5, .int x5), (6, .int x6), (7, .int x7), (8, .int x8), (9, .int x9), (10, .int x10)] [] v f g) (x1 : Int32) (x2 : Int32) (x3 : Int32) (x4 : Int32) (x5 : Int32) (x6 : Int32) (x7 : Int32) (x8 : Int32) (x9 : Int32) (x10 : Int32) (t0 : Int32) (v : Nat → Int32) (f : Nat → Nat → Int32) (g : Nat → Nat → Int64) (h : r_bound_159 (fun r v f g => post r (v, f, g)) R6 R32 R66 x1 x2 x3 x4 x5 x6 x7 x8 x9 x10 t0 v f g) : mG p l e (mRm 5 128) s m args below meth c A D cI cJ cZ a 12 (MQ below (va_Qi post (mB D cI cJ cZ a) A) args s 0 0 A) 159 [(0, .ref (a 0)), (1, .int x1), (2, .int x2), (3, .int x3), (4, .int x4), (5, .int x5), (6, .int x6), (7, .int x7), (8, .int x8), (9, .int x9), (10, .int x10)] [.int t0] v f g := by
  unfold r_bound_159 at h
  refine mg_istore C (lv' := [(11, .int t0), (0, .ref (a 0)), (1, .int x1), (2, .int x2), (3, .int x3), (4, .int x4), (5, .int x5), (6, .int x6), (7, .int x7), (8, .int x8), (9, .int x9), (10, .int x10)]) (Nat.le_of_ble_eq_true rfl) rfl dX12_bound_159 ?_
  refine mg_iload C 10 rfl dX12_bound_161 ?_
  refine mg_iload C 0 rfl dX12_bound_163 ?_
  refine mg_if_eq C 172 (by decide) dX12_bound_165 (fun c_ => ?_) (fun c_ => ?_)
  · have h := h.1 c_
    refine mg_iconst C (x := nI 0) rfl dX12_bound_172 ?_
    exact mg_sub [1, 2, 3, 4, 5, 6, 7, 8, 9, 11] rfl (sb_bound_173 C hR6 hR32 hR66 x1 x2 x3 x4 x5 x6 x7 x8 x10 ((nI 0)) x9 v f g h)
  · have h := h.2 c_
    refine mg_iconst C (x := nI 1) rfl dX12_bound_168 ?_
    refine mg_goto C 173 (by decide) dX12_bound_169 ?_
    exact mg_sub [1, 2, 3, 4, 5, 6, 7, 8, 9, 11] rfl (sb_bound_173 C hR6 hR32 hR66 x1 x2 x3 x4 x5 x6 x7 x8 x10 ((nI 1)) x9 v f g h)
set_option maxRecDepth 20000 in
theorem sb_bound_66 (C : mC p s m args meth c cX12_bound 12 (some .int) A D cI cJ cZ) {post : Int32 → mS → Prop} {R6 : Int32 → Int32 → Int32 → Int32 → Int32 → (Nat → Int32) → (Nat → Nat → Int32) → (Nat → Nat → Int64) → Prop} {R32 : Int32 → Int32 → Int32 → Int32 → Int32 → Int32 → Int32 → Int32 → (Nat → Int32) → (Nat → Nat → Int32) → (Nat → Nat → Int64) → Prop} {R66 : Int32 → Int32 → Int32 → Int32 → Int32 → Int32 → Int32 → Int32 → Int32 → Int32 → (Nat → Int32) → (Nat → Nat → Int32) → (Nat → Nat → Int64) → Prop} (hR6 : ∀ (x1 : Int32) (x2 : Int32) (x3 : Int32) (x4 : Int32) (x5 : Int32) (v : Nat → Int32) (f : Nat → Nat → Int32) (g : Nat → Nat → Int64), R6 x1 x2 x3 x4 x5 v f g → mG p l e (mRm 5 128) s m args below meth c A D cI cJ cZ a 12 (MQ below (va_Qi post (mB D cI cJ cZ a) A) args s 0 0 A) 6 [(0, .ref (a 0)), (1, .int x1), (2, .int x2), (3, .int x3), (4, .int x4), (5, .int x5)] [] v f g) (hR32 : ∀ (x1 : Int32) (x2 : Int32) (x3 : Int32) (x4 : Int32) (x5 : Int32) (x6 : Int32) (x7 : Int32) (x8 : Int32) (v : Nat → Int32) (f : Nat → Nat → Int32) (g : Nat → Nat → Int64), R32 x1 x2 x3 x4 x5 x6 x7 x8 v f g → mG p l e (mRm 5 128) s m args below meth c A D cI cJ cZ a 12 (MQ below (va_Qi post (mB D cI cJ cZ a) A) args s 0 0 A) 32 [(0, .ref (a 0)), (1, .int x1), (2, .int x2), (3, .int x3), (4, .int x4), (5, .int x5), (6, .int x6), (7, .int x7), (8, .int x8)] [] v f g) (hR66 : ∀ (x1 : Int32) (x2 : Int32) (x3 : Int32) (x4 : Int32) (x5 : Int32) (x6 : Int32) (x7 : Int32) (x8 : Int32) (x9 : Int32) (x10 : Int32) (v : Nat → Int32) (f : Nat → Nat → Int32) (g : Nat → Nat → Int64), R66 x1 x2 x3 x4 x5 x6 x7 x8 x9 x10 v f g → mG p l e (mRm 5 128) s m args below meth c A D cI cJ cZ a 12 (MQ below (va_Qi post (mB D cI cJ cZ a) A) args s 0 0 A) 66 [(0, .ref (a 0)), (1, .int x1), (2, .int x2), (3, .int x3), (4, .int x4), (5, .int x5), (6, .int x6), (7, .int x7), (8, .int x8), (9, .int x9), (10, .int x10)] [] v f g) (x1 : Int32) (x2 : Int32) (x3 : Int32) (x4 : Int32) (x5 : Int32) (x6 : Int32) (x7 : Int32) (x8 : Int32) (x9 : Int32) (x10 : Int32) (v : Nat → Int32) (f : Nat → Nat → Int32) (g : Nat → Nat → Int64) (h : r_bound_66 (fun r v f g => post r (v, f, g)) R6 R32 R66 x1 x2 x3 x4 x5 x6 x7 x8 x9 x10 v f g) : mG p l e (mRm 5 128) s m args below meth c A D cI cJ cZ a 12 (MQ below (va_Qi post (mB D cI cJ cZ a) A) args s 0 0 A) 66 [(0, .ref (a 0)), (1, .int x1), (2, .int x2), (3, .int x3), (4, .int x4), (5, .int x5), (6, .int x6), (7, .int x7), (8, .int x8), (9, .int x9), (10, .int x10)] [] v f g := by
  unfold r_bound_66 at h
  refine mg_iload C 10 rfl dX12_bound_66 ?_
  refine mg_aload_n C (i := 0) rfl 0 rfl dX12_bound_68 ?_
  refine mg_arr C 18 (by decide) (by decide) rfl mL_places rfl dX12_bound_69 ?_
  refine mg_iconst C (x := nI 2) rfl dX12_bound_72 ?_
  refine mg_aload_n C (i := 0) rfl 0 rfl dX12_bound_73 ?_
  refine mg_arr C 19 (by decide) (by decide) rfl mL_held rfl dX12_bound_74 ?_
  refine mg_iload C 8 rfl dX12_bound_77 ?_
  obtain ⟨hc_79, h⟩ := h
  refine mg_ialoadR C (n := 20200) 19 (by decide) (by decide) rfl rfl hc_79 dX12_bound_79 ?_
  refine mg_imul C dX12_bound_80 ?_
  refine mg_aload_n C (i := 0) rfl 0 rfl dX12_bound_81 ?_
  refine mg_arr C 41 (by decide) (by decide) rfl mL_fields rfl dX12_bound_82 ?_
  refine mg_iload C 6 rfl dX12_bound_85 ?_
  obtain ⟨hc_87, h⟩ := h
  refine mg_ialoadR C (n := 1968) 41 (by decide) (by decide) rfl rfl hc_87 dX12_bound_87 ?_
  refine mg_iadd C dX12_bound_88 ?_
  obtain ⟨hc_89, h⟩ := h
  refine mg_ialoadR C (n := 4848) 18 (by decide) (by decide) rfl rfl hc_89 dX12_bound_89 ?_
  refine mg_icmp_ge C 182 (by decide) dX12_bound_90 (fun c_ => ?_) (fun c_ => ?_)
  · have h := h.1 c_
    refine mg_iload C 9 rfl dX12_bound_182 ?_
    refine mg_iload C 7 rfl dX12_bound_184 ?_
    refine mg_icmp_le C 194 (by decide) dX12_bound_186 (fun c_ => ?_) (fun c_ => ?_)
    · have h := h.1 c_
      refine mg_iload C 7 rfl dX12_bound_194 ?_
      exact mg_sub [0, 1, 2, 3, 4, 5, 6, 8] rfl (sb_bound_196 C hR6 hR32 x1 x2 x3 x4 x5 x6 x8 x7 v f g h)
    · have h := h.2 c_
      refine mg_iload C 9 rfl dX12_bound_189 ?_
      refine mg_goto C 196 (by decide) dX12_bound_191 ?_
      exact mg_sub [0, 1, 2, 3, 4, 5, 6, 8] rfl (sb_bound_196 C hR6 hR32 x1 x2 x3 x4 x5 x6 x8 x9 v f g h)
  · have h := h.2 c_
    refine mg_aload_n C (i := 0) rfl 0 rfl dX12_bound_93 ?_
    refine mg_arr C 40 (by decide) (by decide) rfl mL_kinds rfl dX12_bound_94 ?_
    refine mg_iload C 6 rfl dX12_bound_97 ?_
    obtain ⟨hc_99, h⟩ := h
    refine mg_ialoadR C (n := 1968) 40 (by decide) (by decide) rfl rfl hc_99 dX12_bound_99 ?_
    refine mg_iconst C (x := nI 3) rfl dX12_bound_100 ?_
    refine mg_icmp_lt C 129 (by decide) dX12_bound_101 (fun c_ => ?_) (fun c_ => ?_)
    · have h := h.1 c_
      refine mg_aload_n C (i := 0) rfl 0 rfl dX12_bound_129 ?_
      refine mg_aload_n C (i := 0) rfl 0 rfl dX12_bound_130 ?_
      refine mg_arr C 19 (by decide) (by decide) rfl mL_held rfl dX12_bound_131 ?_
      refine mg_iload C 8 rfl dX12_bound_134 ?_
      obtain ⟨hc_136, h⟩ := h
      refine mg_ialoadR C (n := 20200) 19 (by decide) (by decide) rfl rfl hc_136 dX12_bound_136 ?_
      refine mg_aload_n C (i := 0) rfl 0 rfl dX12_bound_137 ?_
      refine mg_arr C 41 (by decide) (by decide) rfl mL_fields rfl dX12_bound_138 ?_
      refine mg_iload C 6 rfl dX12_bound_141 ?_
      obtain ⟨hc_143, h⟩ := h
      refine mg_ialoadR C (n := 1968) 41 (by decide) (by decide) rfl rfl hc_143 dX12_bound_143 ?_
      refine mg_iload C 10 rfl dX12_bound_144 ?_
      refine mg_aload_n C (i := 0) rfl 0 rfl dX12_bound_146 ?_
      refine mg_arr C 45 (by decide) (by decide) rfl mL_leafTokens rfl dX12_bound_147 ?_
      refine mg_bipush C (x := nI 6) rfl dX12_bound_150 ?_
      refine mg_iload C 6 rfl dX12_bound_152 ?_
      refine mg_imul C dX12_bound_154 ?_
      obtain ⟨hc_155, h⟩ := h
      refine mg_laloadR C (n := 11808) 45 (by decide) (by decide) rfl rfl hc_155 dX12_bound_155 ?_
      refine mg_calliW C (s_hasAt l ((f 19 (x8).toNatClampNeg)) ((f 41 (x6).toNatClampNeg)) x10 (g 45 ((((nI 6)) * x6)).toNatClampNeg) v f g h) mCal_hasAt rfl ⟨by decide, by decide⟩ rfl (Nat.le_of_ble_eq_true rfl) dX12_bound_156 (fun r_6 v_6 f_6 g_6 h => ?_)
      exact mg_sub [0, 1, 2, 3, 4, 5, 6, 7, 8, 9, 10] rfl (sb_bound_159 C hR6 hR32 hR66 x1 x2 x3 x4 x5 x6 x7 x8 x9 x10 r_6 v_6 f_6 g_6 h)
    · have h := h.2 c_
      refine mg_aload_n C (i := 0) rfl 0 rfl dX12_bound_104 ?_
      refine mg_aload_n C (i := 0) rfl 0 rfl dX12_bound_105 ?_
      refine mg_arr C 19 (by decide) (by decide) rfl mL_held rfl dX12_bound_106 ?_
      refine mg_iload C 8 rfl dX12_bound_109 ?_
      obtain ⟨hc_111, h⟩ := h
      refine mg_ialoadR C (n := 20200) 19 (by decide) (by decide) rfl rfl hc_111 dX12_bound_111 ?_
      refine mg_aload_n C (i := 0) rfl 0 rfl dX12_bound_112 ?_
      refine mg_arr C 41 (by decide) (by decide) rfl mL_fields rfl dX12_bound_113 ?_
      refine mg_iload C 6 rfl dX12_bound_116 ?_
      obtain ⟨hc_118, h⟩ := h
      refine mg_ialoadR C (n := 1968) 41 (by decide) (by decide) rfl rfl hc_118 dX12_bound_118 ?_
      refine mg_iload C 10 rfl dX12_bound_119 ?_
      refine mg_iload C 6 rfl dX12_bound_121 ?_
      refine mg_calliW C (s_fitsAt l ((f 19 (x8).toNatClampNeg)) ((f 41 (x6).toNatClampNeg)) x10 x6 v f g h) mCal_fitsAt rfl ⟨by decide, by decide⟩ rfl (Nat.le_of_ble_eq_true rfl) dX12_bound_123 (fun r_9 v_9 f_9 g_9 h => ?_)
      refine mg_goto C 159 (by decide) dX12_bound_126 ?_
      exact mg_sub [0, 1, 2, 3, 4, 5, 6, 7, 8, 9, 10] rfl (sb_bound_159 C hR6 hR32 hR66 x1 x2 x3 x4 x5 x6 x7 x8 x9 x10 r_9 v_9 f_9 g_9 h)
set_option maxRecDepth 20000 in
theorem sl_bound_66 (C : mC p s m args meth c cX12_bound 12 (some .int) A D cI cJ cZ) {post : Int32 → mS → Prop} {R6 : Int32 → Int32 → Int32 → Int32 → Int32 → (Nat → Int32) → (Nat → Nat → Int32) → (Nat → Nat → Int64) → Prop} {R32 : Int32 → Int32 → Int32 → Int32 → Int32 → Int32 → Int32 → Int32 → (Nat → Int32) → (Nat → Nat → Int32) → (Nat → Nat → Int64) → Prop} (hR6 : ∀ (x1 : Int32) (x2 : Int32) (x3 : Int32) (x4 : Int32) (x5 : Int32) (v : Nat → Int32) (f : Nat → Nat → Int32) (g : Nat → Nat → Int64), R6 x1 x2 x3 x4 x5 v f g → mG p l e (mRm 5 128) s m args below meth c A D cI cJ cZ a 12 (MQ below (va_Qi post (mB D cI cJ cZ a) A) args s 0 0 A) 6 [(0, .ref (a 0)), (1, .int x1), (2, .int x2), (3, .int x3), (4, .int x4), (5, .int x5)] [] v f g) (hR32 : ∀ (x1 : Int32) (x2 : Int32) (x3 : Int32) (x4 : Int32) (x5 : Int32) (x6 : Int32) (x7 : Int32) (x8 : Int32) (v : Nat → Int32) (f : Nat → Nat → Int32) (g : Nat → Nat → Int64), R32 x1 x2 x3 x4 x5 x6 x7 x8 v f g → mG p l e (mRm 5 128) s m args below meth c A D cI cJ cZ a 12 (MQ below (va_Qi post (mB D cI cJ cZ a) A) args s 0 0 A) 32 [(0, .ref (a 0)), (1, .int x1), (2, .int x2), (3, .int x3), (4, .int x4), (5, .int x5), (6, .int x6), (7, .int x7), (8, .int x8)] [] v f g) (x1 : Int32) (x2 : Int32) (x3 : Int32) (x4 : Int32) (x5 : Int32) (x6 : Int32) (x7 : Int32) (x8 : Int32) (x9 : Int32) (x10 : Int32) (v : Nat → Int32) (f : Nat → Nat → Int32) (g : Nat → Nat → Int64) (h : r_bound_66L (fun r v f g => post r (v, f, g)) R6 R32 x1 x2 x3 x4 x5 x6 x7 x8 x9 x10 v f g) : mG p l e (mRm 5 128) s m args below meth c A D cI cJ cZ a 12 (MQ below (va_Qi post (mB D cI cJ cZ a) A) args s 0 0 A) 66 [(0, .ref (a 0)), (1, .int x1), (2, .int x2), (3, .int x3), (4, .int x4), (5, .int x5), (6, .int x6), (7, .int x7), (8, .int x8), (9, .int x9), (10, .int x10)] [] v f g :=
  h (fun y => mG p l e (mRm 5 128) s m args below meth c A D cI cJ cZ a 12 (MQ below (va_Qi post (mB D cI cJ cZ a) A) args s 0 0 A) 66 [(0, .ref (a 0)), (1, .int (y.1)), (2, .int (y.2.1)), (3, .int (y.2.2.1)), (4, .int (y.2.2.2.1)), (5, .int (y.2.2.2.2.1)), (6, .int (y.2.2.2.2.2.1)), (7, .int (y.2.2.2.2.2.2.1)), (8, .int (y.2.2.2.2.2.2.2.1)), (9, .int (y.2.2.2.2.2.2.2.2.1)), (10, .int (y.2.2.2.2.2.2.2.2.2.1))] [] (y.2.2.2.2.2.2.2.2.2.2.1) (y.2.2.2.2.2.2.2.2.2.2.2.1) (y.2.2.2.2.2.2.2.2.2.2.2.2)) (fun y hy => sb_bound_66 C hR6 hR32 (fun b0 b1 b2 b3 b4 b5 b6 b7 b8 b9 v f g z => z) (y.1) (y.2.1) (y.2.2.1) (y.2.2.2.1) (y.2.2.2.2.1) (y.2.2.2.2.2.1) (y.2.2.2.2.2.2.1) (y.2.2.2.2.2.2.2.1) (y.2.2.2.2.2.2.2.2.1) (y.2.2.2.2.2.2.2.2.2.1) (y.2.2.2.2.2.2.2.2.2.2.1) (y.2.2.2.2.2.2.2.2.2.2.2.1) (y.2.2.2.2.2.2.2.2.2.2.2.2) hy)
set_option maxRecDepth 20000 in
theorem sb_bound_32 (C : mC p s m args meth c cX12_bound 12 (some .int) A D cI cJ cZ) {post : Int32 → mS → Prop} {R6 : Int32 → Int32 → Int32 → Int32 → Int32 → (Nat → Int32) → (Nat → Nat → Int32) → (Nat → Nat → Int64) → Prop} {R32 : Int32 → Int32 → Int32 → Int32 → Int32 → Int32 → Int32 → Int32 → (Nat → Int32) → (Nat → Nat → Int32) → (Nat → Nat → Int64) → Prop} (hR6 : ∀ (x1 : Int32) (x2 : Int32) (x3 : Int32) (x4 : Int32) (x5 : Int32) (v : Nat → Int32) (f : Nat → Nat → Int32) (g : Nat → Nat → Int64), R6 x1 x2 x3 x4 x5 v f g → mG p l e (mRm 5 128) s m args below meth c A D cI cJ cZ a 12 (MQ below (va_Qi post (mB D cI cJ cZ a) A) args s 0 0 A) 6 [(0, .ref (a 0)), (1, .int x1), (2, .int x2), (3, .int x3), (4, .int x4), (5, .int x5)] [] v f g) (hR32 : ∀ (x1 : Int32) (x2 : Int32) (x3 : Int32) (x4 : Int32) (x5 : Int32) (x6 : Int32) (x7 : Int32) (x8 : Int32) (v : Nat → Int32) (f : Nat → Nat → Int32) (g : Nat → Nat → Int64), R32 x1 x2 x3 x4 x5 x6 x7 x8 v f g → mG p l e (mRm 5 128) s m args below meth c A D cI cJ cZ a 12 (MQ below (va_Qi post (mB D cI cJ cZ a) A) args s 0 0 A) 32 [(0, .ref (a 0)), (1, .int x1), (2, .int x2), (3, .int x3), (4, .int x4), (5, .int x5), (6, .int x6), (7, .int x7), (8, .int x8)] [] v f g) (x1 : Int32) (x2 : Int32) (x3 : Int32) (x4 : Int32) (x5 : Int32) (x6 : Int32) (x7 : Int32) (x8 : Int32) (v : Nat → Int32) (f : Nat → Nat → Int32) (g : Nat → Nat → Int64) (h : r_bound_32 (fun r v f g => post r (v, f, g)) R6 R32 x1 x2 x3 x4 x5 x6 x7 x8 v f g) : mG p l e (mRm 5 128) s m args below meth c A D cI cJ cZ a 12 (MQ below (va_Qi post (mB D cI cJ cZ a) A) args s 0 0 A) 32 [(0, .ref (a 0)), (1, .int x1), (2, .int x2), (3, .int x3), (4, .int x4), (5, .int x5), (6, .int x6), (7, .int x7), (8, .int x8)] [] v f g := by
  unfold r_bound_32 at h
  refine mg_iload C 8 rfl dX12_bound_32 ?_
  refine mg_iload_n C (i := 3) rfl 3 rfl dX12_bound_34 ?_
  refine mg_icmp_ge C 204 (by decide) dX12_bound_35 (fun c_ => ?_) (fun c_ => ?_)
  · have h := h.1 c_
    exact mg_sub [0, 1, 2, 3, 4, 5, 6, 7] rfl (sb_bound_204 C hR6 x1 x2 x3 x4 x5 x6 x7 v f g h)
  · have h := h.2 c_
    refine mg_aload_n C (i := 0) rfl 0 rfl dX12_bound_38 ?_
    refine mg_arr C 40 (by decide) (by decide) rfl mL_kinds rfl dX12_bound_39 ?_
    refine mg_iload C 6 rfl dX12_bound_42 ?_
    obtain ⟨hc_44, h⟩ := h
    refine mg_ialoadR C (n := 1968) 40 (by decide) (by decide) rfl rfl hc_44 dX12_bound_44 ?_
    refine mg_bipush C (x := nI 6) rfl dX12_bound_45 ?_
    refine mg_icmp_ge C 204 (by decide) dX12_bound_47 (fun c_ => ?_) (fun c_ => ?_)
    · have h := h.1 c_
      exact mg_sub [0, 1, 2, 3, 4, 5, 6, 7] rfl (sb_bound_204 C hR6 x1 x2 x3 x4 x5 x6 x7 v f g h)
    · have h := h.2 c_
      refine mg_aload_n C (i := 0) rfl 0 rfl dX12_bound_50 ?_
      refine mg_arr C 56 (by decide) (by decide) rfl mL_inSecond rfl dX12_bound_51 ?_
      refine mg_iload C 5 rfl dX12_bound_54 ?_
      obtain ⟨hc_56, h⟩ := h
      refine mg_baloadR C (n := 48) 56 (by decide) (by decide) rfl rfl hc_56 dX12_bound_56 ?_
      refine mg_if_ne C 204 (by decide) dX12_bound_57 (fun c_ => ?_) (fun c_ => ?_)
      · have h := h.1 c_
        exact mg_sub [0, 1, 2, 3, 4, 5, 6, 7] rfl (sb_bound_204 C hR6 x1 x2 x3 x4 x5 x6 x7 v f g h)
      · have h := h.2 c_
        refine mg_iconst C (x := nI 0) rfl dX12_bound_60 ?_
        refine mg_istore C (lv' := [(9, .int ((nI 0))), (0, .ref (a 0)), (1, .int x1), (2, .int x2), (3, .int x3), (4, .int x4), (5, .int x5), (6, .int x6), (7, .int x7), (8, .int x8)]) (Nat.le_of_ble_eq_true rfl) rfl dX12_bound_61 ?_
        refine mg_iconst C (x := nI 0) rfl dX12_bound_63 ?_
        refine mg_istore C (lv' := [(10, .int ((nI 0))), (9, .int ((nI 0))), (0, .ref (a 0)), (1, .int x1), (2, .int x2), (3, .int x3), (4, .int x4), (5, .int x5), (6, .int x6), (7, .int x7), (8, .int x8)]) (Nat.le_of_ble_eq_true rfl) rfl dX12_bound_64 ?_
        exact mg_sub [2, 3, 4, 5, 6, 7, 8, 9, 10, 1, 0] rfl (sl_bound_66 C hR6 hR32 x1 x2 x3 x4 x5 x6 x7 x8 (((nI 0))) (((nI 0))) v f g h)
set_option maxRecDepth 20000 in
theorem sl_bound_32 (C : mC p s m args meth c cX12_bound 12 (some .int) A D cI cJ cZ) {post : Int32 → mS → Prop} {R6 : Int32 → Int32 → Int32 → Int32 → Int32 → (Nat → Int32) → (Nat → Nat → Int32) → (Nat → Nat → Int64) → Prop} (hR6 : ∀ (x1 : Int32) (x2 : Int32) (x3 : Int32) (x4 : Int32) (x5 : Int32) (v : Nat → Int32) (f : Nat → Nat → Int32) (g : Nat → Nat → Int64), R6 x1 x2 x3 x4 x5 v f g → mG p l e (mRm 5 128) s m args below meth c A D cI cJ cZ a 12 (MQ below (va_Qi post (mB D cI cJ cZ a) A) args s 0 0 A) 6 [(0, .ref (a 0)), (1, .int x1), (2, .int x2), (3, .int x3), (4, .int x4), (5, .int x5)] [] v f g) (x1 : Int32) (x2 : Int32) (x3 : Int32) (x4 : Int32) (x5 : Int32) (x6 : Int32) (x7 : Int32) (x8 : Int32) (v : Nat → Int32) (f : Nat → Nat → Int32) (g : Nat → Nat → Int64) (h : r_bound_32L (fun r v f g => post r (v, f, g)) R6 x1 x2 x3 x4 x5 x6 x7 x8 v f g) : mG p l e (mRm 5 128) s m args below meth c A D cI cJ cZ a 12 (MQ below (va_Qi post (mB D cI cJ cZ a) A) args s 0 0 A) 32 [(0, .ref (a 0)), (1, .int x1), (2, .int x2), (3, .int x3), (4, .int x4), (5, .int x5), (6, .int x6), (7, .int x7), (8, .int x8)] [] v f g :=
  h (fun y => mG p l e (mRm 5 128) s m args below meth c A D cI cJ cZ a 12 (MQ below (va_Qi post (mB D cI cJ cZ a) A) args s 0 0 A) 32 [(0, .ref (a 0)), (1, .int (y.1)), (2, .int (y.2.1)), (3, .int (y.2.2.1)), (4, .int (y.2.2.2.1)), (5, .int (y.2.2.2.2.1)), (6, .int (y.2.2.2.2.2.1)), (7, .int (y.2.2.2.2.2.2.1)), (8, .int (y.2.2.2.2.2.2.2.1))] [] (y.2.2.2.2.2.2.2.2.1) (y.2.2.2.2.2.2.2.2.2.1) (y.2.2.2.2.2.2.2.2.2.2)) (fun y hy => sb_bound_32 C hR6 (fun b0 b1 b2 b3 b4 b5 b6 b7 v f g z => z) (y.1) (y.2.1) (y.2.2.1) (y.2.2.2.1) (y.2.2.2.2.1) (y.2.2.2.2.2.1) (y.2.2.2.2.2.2.1) (y.2.2.2.2.2.2.2.1) (y.2.2.2.2.2.2.2.2.1) (y.2.2.2.2.2.2.2.2.2.1) (y.2.2.2.2.2.2.2.2.2.2) hy)
set_option maxRecDepth 20000 in
theorem sb_bound_6 (C : mC p s m args meth c cX12_bound 12 (some .int) A D cI cJ cZ) {post : Int32 → mS → Prop} {R6 : Int32 → Int32 → Int32 → Int32 → Int32 → (Nat → Int32) → (Nat → Nat → Int32) → (Nat → Nat → Int64) → Prop} (hR6 : ∀ (x1 : Int32) (x2 : Int32) (x3 : Int32) (x4 : Int32) (x5 : Int32) (v : Nat → Int32) (f : Nat → Nat → Int32) (g : Nat → Nat → Int64), R6 x1 x2 x3 x4 x5 v f g → mG p l e (mRm 5 128) s m args below meth c A D cI cJ cZ a 12 (MQ below (va_Qi post (mB D cI cJ cZ a) A) args s 0 0 A) 6 [(0, .ref (a 0)), (1, .int x1), (2, .int x2), (3, .int x3), (4, .int x4), (5, .int x5)] [] v f g) (x1 : Int32) (x2 : Int32) (x3 : Int32) (x4 : Int32) (x5 : Int32) (v : Nat → Int32) (f : Nat → Nat → Int32) (g : Nat → Nat → Int64) (h : r_bound_6 (fun r v f g => post r (v, f, g)) R6 x1 x2 x3 x4 x5 v f g) : mG p l e (mRm 5 128) s m args below meth c A D cI cJ cZ a 12 (MQ below (va_Qi post (mB D cI cJ cZ a) A) args s 0 0 A) 6 [(0, .ref (a 0)), (1, .int x1), (2, .int x2), (3, .int x3), (4, .int x4), (5, .int x5)] [] v f g := by
  unfold r_bound_6 at h
  refine mg_iload C 5 rfl dX12_bound_6 ?_
  refine mg_aload_n C (i := 0) rfl 0 rfl dX12_bound_8 ?_
  refine mg_arr C 48 (by decide) (by decide) rfl mL_opsMany rfl dX12_bound_9 ?_
  refine mg_iload_n C (i := 1) rfl 1 rfl dX12_bound_12 ?_
  obtain ⟨hc_13, h⟩ := h
  refine mg_ialoadR C (n := 41) 48 (by decide) (by decide) rfl rfl hc_13 dX12_bound_13 ?_
  refine mg_icmp_ge C 258 (by decide) dX12_bound_14 (fun c_ => ?_) (fun c_ => ?_)
  · have h := h.1 c_
    refine mg_iload C 4 rfl dX12_bound_258 ?_
    exact mg_iret C h dX12_bound_260
  · have h := h.2 c_
    refine mg_bipush C (x := nI 48) rfl dX12_bound_17 ?_
    refine mg_iload_n C (i := 1) rfl 1 rfl dX12_bound_19 ?_
    refine mg_imul C dX12_bound_20 ?_
    refine mg_iload C 5 rfl dX12_bound_21 ?_
    refine mg_iadd C dX12_bound_23 ?_
    refine mg_nmI (fun x6_1 e_x6_1 => ?_)
    have h := h x6_1 e_x6_1
    refine mg_istore C (lv' := [(6, .int x6_1), (0, .ref (a 0)), (1, .int x1), (2, .int x2), (3, .int x3), (4, .int x4), (5, .int x5)]) (Nat.le_of_ble_eq_true rfl) rfl dX12_bound_24 ?_
    refine mg_iconst C (x := nI 0) rfl dX12_bound_26 ?_
    refine mg_istore C (lv' := [(7, .int ((nI 0))), (6, .int x6_1), (0, .ref (a 0)), (1, .int x1), (2, .int x2), (3, .int x3), (4, .int x4), (5, .int x5)]) (Nat.le_of_ble_eq_true rfl) rfl dX12_bound_27 ?_
    refine mg_iload_n C (i := 2) rfl 4 rfl dX12_bound_29 ?_
    refine mg_istore C (lv' := [(8, .int x2), (7, .int ((nI 0))), (6, .int x6_1), (0, .ref (a 0)), (1, .int x1), (2, .int x2), (3, .int x3), (4, .int x4), (5, .int x5)]) (Nat.le_of_ble_eq_true rfl) rfl dX12_bound_30 ?_
    exact mg_sub [3, 4, 5, 6, 7, 8, 2, 1, 0] rfl (sl_bound_32 C hR6 x1 x2 x3 x4 x5 x6_1 (((nI 0))) x2 v f g h)
set_option maxRecDepth 20000 in
theorem sl_bound_6 (C : mC p s m args meth c cX12_bound 12 (some .int) A D cI cJ cZ) {post : Int32 → mS → Prop}   (x1 : Int32) (x2 : Int32) (x3 : Int32) (x4 : Int32) (x5 : Int32) (v : Nat → Int32) (f : Nat → Nat → Int32) (g : Nat → Nat → Int64) (h : r_bound_6L (fun r v f g => post r (v, f, g))  x1 x2 x3 x4 x5 v f g) : mG p l e (mRm 5 128) s m args below meth c A D cI cJ cZ a 12 (MQ below (va_Qi post (mB D cI cJ cZ a) A) args s 0 0 A) 6 [(0, .ref (a 0)), (1, .int x1), (2, .int x2), (3, .int x3), (4, .int x4), (5, .int x5)] [] v f g :=
  h (fun y => mG p l e (mRm 5 128) s m args below meth c A D cI cJ cZ a 12 (MQ below (va_Qi post (mB D cI cJ cZ a) A) args s 0 0 A) 6 [(0, .ref (a 0)), (1, .int (y.1)), (2, .int (y.2.1)), (3, .int (y.2.2.1)), (4, .int (y.2.2.2.1)), (5, .int (y.2.2.2.2.1))] [] (y.2.2.2.2.2.1) (y.2.2.2.2.2.2.1) (y.2.2.2.2.2.2.2)) (fun y hy => sb_bound_6 C  (fun b0 b1 b2 b3 b4 v f g z => z) (y.1) (y.2.1) (y.2.2.1) (y.2.2.2.1) (y.2.2.2.2.1) (y.2.2.2.2.2.1) (y.2.2.2.2.2.2.1) (y.2.2.2.2.2.2.2) hy)
end S_bound
set_option maxHeartbeats 1000000 in
set_option maxRecDepth 20000 in
theorem s_bound (l : Launch) (x1 : Int32) (x2 : Int32) (x3 : Int32) (v : Nat → Int32) (f : Nat → Nat → Int32) (g : Nat → Nat → Int64) {P : Int32 → (Nat → Int32) → (Nat → Nat → Int32) → (Nat → Nat → Int64) → Prop} (h : r_bound P x1 x2 x3 v f g) : mMi l yX12_bound cX12_bound 12 (some .int) 5 128 false [.int x1, .int x2, .int x3] v f g (fun r w => P r w.1 w.2.1 w.2.2) := by
  intro D cI cJ cZ a sz
  refine mg_body (by decide +kernel) rfl (Nat.le_of_ble_eq_true rfl) ?_
  intro p e s m args below meth c hsz C
  clear hsz
  generalize va_A (mW cI cJ cZ a v f g) sz = A at C ⊢
  refine mg_lv (lv' := [(0, .ref (a 0)), (1, .int x1), (2, .int x2), (3, .int x3)]) rfl ?_
  unfold r_bound at h
  refine mg_iconst C (x := nI 0) rfl dX12_bound_0 ?_
  refine mg_istore C (lv' := [(4, .int ((nI 0))), (0, .ref (a 0)), (1, .int x1), (2, .int x2), (3, .int x3)]) (Nat.le_of_ble_eq_true rfl) rfl dX12_bound_1 ?_
  refine mg_iconst C (x := nI 0) rfl dX12_bound_3 ?_
  refine mg_istore C (lv' := [(5, .int ((nI 0))), (4, .int ((nI 0))), (0, .ref (a 0)), (1, .int x1), (2, .int x2), (3, .int x3)]) (Nat.le_of_ble_eq_true rfl) rfl dX12_bound_4 ?_
  exact mg_sub [2, 3, 4, 5, 1, 0] rfl (sl_bound_6 C  x1 x2 x3 (((nI 0))) (((nI 0))) v f g h)
def r_holds_142 (Q : (Nat → Int32) → (Nat → Nat → Int32) → (Nat → Nat → Int64) → Prop)  (t0 : Int32) (t1 : Int32) (v : Nat → Int32) (f : Nat → Nat → Int32) (g : Nat → Nat → Int64) : Prop :=
∀ v3 : Nat → Int32, v3 = upd v 88 ((t1 + t0)) → Q v3 f g
def r_holds_103 (Q : (Nat → Int32) → (Nat → Nat → Int32) → (Nat → Nat → Int64) → Prop)  (x1 : Int32) (x2 : Int32) (x3 : Int32) (x4 : Int32) (v : Nat → Int32) (f : Nat → Nat → Int32) (g : Nat → Nat → Int64) : Prop :=
vp_in x4 20 ∧ (∀ f1 : Nat → Nat → Int32, f1 = mU f 60 (x4).toNatClampNeg x2 → vp_in x1 2424 ∧ (vp_in x4 20 ∧ (∀ f2 : Nat → Nat → Int32, f2 = mU f1 59 (x4).toNatClampNeg ((f1 14 (x1).toNatClampNeg)) → ((¬ ((v 88)) = x3 →
  r_holds_142 Q  ((nI 1)) ((v 88)) v f2 g) ∧
 (((v 88)) = x3 →
  r_holds_142 Q  ((nI 0)) ((v 88)) v f2 g)))))
def r_holds_47 (Q : (Nat → Int32) → (Nat → Nat → Int32) → (Nat → Nat → Int64) → Prop) (R47 : Int32 → Int32 → Int32 → Int32 → (Nat → Int32) → (Nat → Nat → Int32) → (Nat → Nat → Int64) → Prop) (x1 : Int32) (x2 : Int32) (x3 : Int32) (x4 : Int32) (v : Nat → Int32) (f : Nat → Nat → Int32) (g : Nat → Nat → Int64) : Prop :=
((x4 ≤ 0 →
  r_holds_103 Q  x1 x2 x3 x4 v f g) ∧
 (¬ x4 ≤ 0 →
  vp_in ((x4 - ((nI 1)))) 20 ∧ (((x2 ≤ ((f 60 ((x4 - ((nI 1)))).toNatClampNeg)) →
    r_holds_103 Q  x1 x2 x3 x4 v f g) ∧
   (¬ x2 ≤ ((f 60 ((x4 - ((nI 1)))).toNatClampNeg)) →
    vp_in ((x4 - ((nI 1)))) 20 ∧ (vp_in x4 20 ∧ (∀ f4 : Nat → Nat → Int32, f4 = mU f 60 (x4).toNatClampNeg ((f 60 ((x4 - ((nI 1)))).toNatClampNeg)) → vp_in ((x4 - ((nI 1)))) 20 ∧ (vp_in x4 20 ∧ (∀ f5 : Nat → Nat → Int32, f5 = mU f4 59 (x4).toNatClampNeg ((f4 59 ((x4 - ((nI 1)))).toNatClampNeg)) → ∀ x4_6 : Int32, x4_6 = x4 + (-1) → R47 x1 x2 x3 x4_6 v f5 g)))))))))
def r_holds_47L (Q : (Nat → Int32) → (Nat → Nat → Int32) → (Nat → Nat → Int64) → Prop)  (x1 : Int32) (x2 : Int32) (x3 : Int32) (x4 : Int32) (v : Nat → Int32) (f : Nat → Nat → Int32) (g : Nat → Nat → Int64) : Prop :=
  lfp (X := Int32 × Int32 × Int32 × Int32 × (Nat → Int32) × (Nat → Nat → Int32) × (Nat → Nat → Int64)) (fun P y => r_holds_47 Q  (fun b0 b1 b2 b3 v f g => P (b0, b1, b2, b3, v, f, g)) y.1 y.2.1 y.2.2.1 y.2.2.2.1 y.2.2.2.2.1 y.2.2.2.2.2.1 y.2.2.2.2.2.2) (x1, x2, x3, x4, v, f, g)
def r_holds_45 (Q : (Nat → Int32) → (Nat → Nat → Int32) → (Nat → Nat → Int64) → Prop)  (x1 : Int32) (x2 : Int32) (x3 : Int32) (t0 : Int32) (v : Nat → Int32) (f : Nat → Nat → Int32) (g : Nat → Nat → Int64) : Prop :=
r_holds_47L Q  x1 x2 x3 t0 v f g
def r_holds_24 (Q : (Nat → Int32) → (Nat → Nat → Int32) → (Nat → Nat → Int64) → Prop)  (x1 : Int32) (x2 : Int32) (x3 : Int32) (v : Nat → Int32) (f : Nat → Nat → Int32) (g : Nat → Nat → Int64) : Prop :=
((¬ ((v 88)) = x3 →
  r_holds_45 Q  x1 x2 x3 ((v 88)) v f g) ∧
 (((v 88)) = x3 →
  r_holds_45 Q  x1 x2 x3 ((((v 88)) - ((nI 1)))) v f g))
def r_holds (Q : (Nat → Int32) → (Nat → Nat → Int32) → (Nat → Nat → Int64) → Prop) (x1 : Int32) (x2 : Int32) (x3 : Int32) (v : Nat → Int32) (f : Nat → Nat → Int32) (g : Nat → Nat → Int64) : Prop :=
((¬ ((v 88)) = x3 →
  r_holds_24 Q  x1 x2 x3 v f g) ∧
 (((v 88)) = x3 →
  vp_in ((((v 88)) - ((nI 1)))) 20 ∧ (((((f 60 ((((v 88)) - ((nI 1)))).toNatClampNeg)) < x2 →
    r_holds_24 Q  x1 x2 x3 v f g) ∧
   (¬ ((f 60 ((((v 88)) - ((nI 1)))).toNatClampNeg)) < x2 →
    Q v f g)))))
section S_holds
variable {p : Program} {l : Launch} {e : Env} {s : State} {m : MethodId} {args : Array Value} {below : List Frame} {meth : Method} {c : Code} {A : Nat → Prop} {D : va_G} {cI cJ cZ : ClassId} {a : Nat → Nat}
set_option maxRecDepth 20000 in
theorem sb_holds_142 (C : mC p s m args meth c cX12_holds 5 none A D cI cJ cZ) {post : mS → Prop}   (t0 : Int32) (t1 : Int32) (v : Nat → Int32) (f : Nat → Nat → Int32) (g : Nat → Nat → Int64) (h : r_holds_142 (fun v f g => post (v, f, g))  t0 t1 v f g) : mG p l e (mRm 0 0) s m args below meth c A D cI cJ cZ a 5 (MQ below (va_Qv post (mB D cI cJ cZ a) A) args s 0 0 A) 142 [] [.int t0, .int t1, .ref (a 0)] v f g := by
  unfold r_holds_142 at h
  refine mg_iadd C dX12_holds_142 ?_
  refine mg_put C (k := 88) (by decide) rfl mL_hits rfl (by decide +kernel) mT_hits rfl rfl dX12_holds_143 ?_
  refine mg_nmV (fun v3 e_v3 => ?_)
  have h := h v3 e_v3
  exact mg_vret C h dX12_holds_146
set_option maxRecDepth 20000 in
theorem sb_holds_103 (C : mC p s m args meth c cX12_holds 5 none A D cI cJ cZ) {post : mS → Prop}   (x1 : Int32) (x2 : Int32) (x3 : Int32) (x4 : Int32) (v : Nat → Int32) (f : Nat → Nat → Int32) (g : Nat → Nat → Int64) (h : r_holds_103 (fun v f g => post (v, f, g))  x1 x2 x3 x4 v f g) : mG p l e (mRm 0 0) s m args below meth c A D cI cJ cZ a 5 (MQ below (va_Qv post (mB D cI cJ cZ a) A) args s 0 0 A) 103 [(0, .ref (a 0)), (1, .int x1), (2, .int x2), (3, .int x3), (4, .int x4)] [] v f g := by
  unfold r_holds_103 at h
  refine mg_aload_n C (i := 0) rfl 0 rfl dX12_holds_103 ?_
  refine mg_arr C 60 (by decide) (by decide) rfl mL_hitRanks rfl dX12_holds_104 ?_
  refine mg_iload C 4 rfl dX12_holds_107 ?_
  refine mg_iload_n C (i := 2) rfl 2 rfl dX12_holds_109 ?_
  obtain ⟨hc_110, h⟩ := h
  refine mg_iastoreR C (n := 20) 60 (by decide) (by decide) rfl rfl hc_110 dX12_holds_110 ?_
  refine mg_nmF (fun f1 e_f1 => ?_)
  have h := h f1 e_f1
  refine mg_aload_n C (i := 0) rfl 0 rfl dX12_holds_111 ?_
  refine mg_arr C 59 (by decide) (by decide) rfl mL_hitKeys rfl dX12_holds_112 ?_
  refine mg_iload C 4 rfl dX12_holds_115 ?_
  refine mg_aload_n C (i := 0) rfl 0 rfl dX12_holds_117 ?_
  refine mg_arr C 14 (by decide) (by decide) rfl mL_keys rfl dX12_holds_118 ?_
  refine mg_iload_n C (i := 1) rfl 1 rfl dX12_holds_121 ?_
  obtain ⟨hc_122, h⟩ := h
  refine mg_ialoadR C (n := 2424) 14 (by decide) (by decide) rfl rfl hc_122 dX12_holds_122 ?_
  obtain ⟨hc_123, h⟩ := h
  refine mg_iastoreR C (n := 20) 59 (by decide) (by decide) rfl rfl hc_123 dX12_holds_123 ?_
  refine mg_nmF (fun f2 e_f2 => ?_)
  have h := h f2 e_f2
  refine mg_aload_n C (i := 0) rfl 0 rfl dX12_holds_124 ?_
  refine mg_dup C rfl dX12_holds_125 ?_
  refine mg_getI C (k := 88) (by decide) rfl mL_hits rfl dX12_holds_126 ?_
  refine mg_aload_n C (i := 0) rfl 0 rfl dX12_holds_129 ?_
  refine mg_getI C (k := 88) (by decide) rfl mL_hits rfl dX12_holds_130 ?_
  refine mg_iload_n C (i := 3) rfl 3 rfl dX12_holds_133 ?_
  refine mg_icmp_ne C 141 (by decide) dX12_holds_134 (fun c_ => ?_) (fun c_ => ?_)
  · have h := h.1 c_
    refine mg_iconst C (x := nI 1) rfl dX12_holds_141 ?_
    exact mg_sub [] rfl (sb_holds_142 C  ((nI 1)) ((v 88)) v f2 g h)
  · have h := h.2 c_
    refine mg_iconst C (x := nI 0) rfl dX12_holds_137 ?_
    refine mg_goto C 142 (by decide) dX12_holds_138 ?_
    exact mg_sub [] rfl (sb_holds_142 C  ((nI 0)) ((v 88)) v f2 g h)
set_option maxRecDepth 20000 in
theorem sb_holds_47 (C : mC p s m args meth c cX12_holds 5 none A D cI cJ cZ) {post : mS → Prop} {R47 : Int32 → Int32 → Int32 → Int32 → (Nat → Int32) → (Nat → Nat → Int32) → (Nat → Nat → Int64) → Prop} (hR47 : ∀ (x1 : Int32) (x2 : Int32) (x3 : Int32) (x4 : Int32) (v : Nat → Int32) (f : Nat → Nat → Int32) (g : Nat → Nat → Int64), R47 x1 x2 x3 x4 v f g → mG p l e (mRm 0 0) s m args below meth c A D cI cJ cZ a 5 (MQ below (va_Qv post (mB D cI cJ cZ a) A) args s 0 0 A) 47 [(0, .ref (a 0)), (1, .int x1), (2, .int x2), (3, .int x3), (4, .int x4)] [] v f g) (x1 : Int32) (x2 : Int32) (x3 : Int32) (x4 : Int32) (v : Nat → Int32) (f : Nat → Nat → Int32) (g : Nat → Nat → Int64) (h : r_holds_47 (fun v f g => post (v, f, g)) R47 x1 x2 x3 x4 v f g) : mG p l e (mRm 0 0) s m args below meth c A D cI cJ cZ a 5 (MQ below (va_Qv post (mB D cI cJ cZ a) A) args s 0 0 A) 47 [(0, .ref (a 0)), (1, .int x1), (2, .int x2), (3, .int x3), (4, .int x4)] [] v f g := by
  unfold r_holds_47 at h
  refine mg_iload C 4 rfl dX12_holds_47 ?_
  refine mg_if_le C 103 (by decide) dX12_holds_49 (fun c_ => ?_) (fun c_ => ?_)
  · have h := h.1 c_
    exact mg_sub [0, 1, 2, 3, 4] rfl (sb_holds_103 C  x1 x2 x3 x4 v f g h)
  · have h := h.2 c_
    refine mg_aload_n C (i := 0) rfl 0 rfl dX12_holds_52 ?_
    refine mg_arr C 60 (by decide) (by decide) rfl mL_hitRanks rfl dX12_holds_53 ?_
    refine mg_iload C 4 rfl dX12_holds_56 ?_
    refine mg_iconst C (x := nI 1) rfl dX12_holds_58 ?_
    refine mg_isub C dX12_holds_59 ?_
    obtain ⟨hc_60, h⟩ := h
    refine mg_ialoadR C (n := 20) 60 (by decide) (by decide) rfl rfl hc_60 dX12_holds_60 ?_
    refine mg_iload_n C (i := 2) rfl 2 rfl dX12_holds_61 ?_
    refine mg_icmp_ge C 103 (by decide) dX12_holds_62 (fun c_ => ?_) (fun c_ => ?_)
    · have h := h.1 c_
      exact mg_sub [0, 1, 2, 3, 4] rfl (sb_holds_103 C  x1 x2 x3 x4 v f g h)
    · have h := h.2 c_
      refine mg_aload_n C (i := 0) rfl 0 rfl dX12_holds_65 ?_
      refine mg_arr C 60 (by decide) (by decide) rfl mL_hitRanks rfl dX12_holds_66 ?_
      refine mg_iload C 4 rfl dX12_holds_69 ?_
      refine mg_aload_n C (i := 0) rfl 0 rfl dX12_holds_71 ?_
      refine mg_arr C 60 (by decide) (by decide) rfl mL_hitRanks rfl dX12_holds_72 ?_
      refine mg_iload C 4 rfl dX12_holds_75 ?_
      refine mg_iconst C (x := nI 1) rfl dX12_holds_77 ?_
      refine mg_isub C dX12_holds_78 ?_
      obtain ⟨hc_79, h⟩ := h
      refine mg_ialoadR C (n := 20) 60 (by decide) (by decide) rfl rfl hc_79 dX12_holds_79 ?_
      obtain ⟨hc_80, h⟩ := h
      refine mg_iastoreR C (n := 20) 60 (by decide) (by decide) rfl rfl hc_80 dX12_holds_80 ?_
      refine mg_nmF (fun f4 e_f4 => ?_)
      have h := h f4 e_f4
      refine mg_aload_n C (i := 0) rfl 0 rfl dX12_holds_81 ?_
      refine mg_arr C 59 (by decide) (by decide) rfl mL_hitKeys rfl dX12_holds_82 ?_
      refine mg_iload C 4 rfl dX12_holds_85 ?_
      refine mg_aload_n C (i := 0) rfl 0 rfl dX12_holds_87 ?_
      refine mg_arr C 59 (by decide) (by decide) rfl mL_hitKeys rfl dX12_holds_88 ?_
      refine mg_iload C 4 rfl dX12_holds_91 ?_
      refine mg_iconst C (x := nI 1) rfl dX12_holds_93 ?_
      refine mg_isub C dX12_holds_94 ?_
      obtain ⟨hc_95, h⟩ := h
      refine mg_ialoadR C (n := 20) 59 (by decide) (by decide) rfl rfl hc_95 dX12_holds_95 ?_
      obtain ⟨hc_96, h⟩ := h
      refine mg_iastoreR C (n := 20) 59 (by decide) (by decide) rfl rfl hc_96 dX12_holds_96 ?_
      refine mg_nmF (fun f5 e_f5 => ?_)
      have h := h f5 e_f5
      obtain ⟨x4_6, e_x4_6⟩ : ∃ z : Int32, z = x4 + (-1) := ⟨_, rfl⟩
      have h := h x4_6 e_x4_6
      refine mg_iinc C (lv' := [(4, .int x4_6), (0, .ref (a 0)), (1, .int x1), (2, .int x2), (3, .int x3)]) 4 rfl (by rw [e_x4_6]; rfl) (Nat.le_of_ble_eq_true rfl) rfl dX12_holds_97 ?_
      refine mg_goto C 47 (by decide) dX12_holds_100 ?_
      exact mg_sub [1, 2, 3, 4, 0] rfl (hR47 x1 x2 x3 x4_6 v f5 g h)
set_option maxRecDepth 20000 in
theorem sl_holds_47 (C : mC p s m args meth c cX12_holds 5 none A D cI cJ cZ) {post : mS → Prop}   (x1 : Int32) (x2 : Int32) (x3 : Int32) (x4 : Int32) (v : Nat → Int32) (f : Nat → Nat → Int32) (g : Nat → Nat → Int64) (h : r_holds_47L (fun v f g => post (v, f, g))  x1 x2 x3 x4 v f g) : mG p l e (mRm 0 0) s m args below meth c A D cI cJ cZ a 5 (MQ below (va_Qv post (mB D cI cJ cZ a) A) args s 0 0 A) 47 [(0, .ref (a 0)), (1, .int x1), (2, .int x2), (3, .int x3), (4, .int x4)] [] v f g :=
  h (fun y => mG p l e (mRm 0 0) s m args below meth c A D cI cJ cZ a 5 (MQ below (va_Qv post (mB D cI cJ cZ a) A) args s 0 0 A) 47 [(0, .ref (a 0)), (1, .int (y.1)), (2, .int (y.2.1)), (3, .int (y.2.2.1)), (4, .int (y.2.2.2.1))] [] (y.2.2.2.2.1) (y.2.2.2.2.2.1) (y.2.2.2.2.2.2)) (fun y hy => sb_holds_47 C  (fun b0 b1 b2 b3 v f g z => z) (y.1) (y.2.1) (y.2.2.1) (y.2.2.2.1) (y.2.2.2.2.1) (y.2.2.2.2.2.1) (y.2.2.2.2.2.2) hy)
set_option maxRecDepth 20000 in
theorem sb_holds_45 (C : mC p s m args meth c cX12_holds 5 none A D cI cJ cZ) {post : mS → Prop}   (x1 : Int32) (x2 : Int32) (x3 : Int32) (t0 : Int32) (v : Nat → Int32) (f : Nat → Nat → Int32) (g : Nat → Nat → Int64) (h : r_holds_45 (fun v f g => post (v, f, g))  x1 x2 x3 t0 v f g) : mG p l e (mRm 0 0) s m args below meth c A D cI cJ cZ a 5 (MQ below (va_Qv post (mB D cI cJ cZ a) A) args s 0 0 A) 45 [(0, .ref (a 0)), (1, .int x1), (2, .int x2), (3, .int x3)] [.int t0] v f g := by
  unfold r_holds_45 at h
  refine mg_istore C (lv' := [(4, .int t0), (0, .ref (a 0)), (1, .int x1), (2, .int x2), (3, .int x3)]) (Nat.le_of_ble_eq_true rfl) rfl dX12_holds_45 ?_
  exact mg_sub [1, 2, 3, 4, 0] rfl (sl_holds_47 C  x1 x2 x3 t0 v f g h)
set_option maxRecDepth 20000 in
theorem sb_holds_24 (C : mC p s m args meth c cX12_holds 5 none A D cI cJ cZ) {post : mS → Prop}   (x1 : Int32) (x2 : Int32) (x3 : Int32) (v : Nat → Int32) (f : Nat → Nat → Int32) (g : Nat → Nat → Int64) (h : r_holds_24 (fun v f g => post (v, f, g))  x1 x2 x3 v f g) : mG p l e (mRm 0 0) s m args below meth c A D cI cJ cZ a 5 (MQ below (va_Qv post (mB D cI cJ cZ a) A) args s 0 0 A) 24 [(0, .ref (a 0)), (1, .int x1), (2, .int x2), (3, .int x3)] [] v f g := by
  unfold r_holds_24 at h
  refine mg_aload_n C (i := 0) rfl 0 rfl dX12_holds_24 ?_
  refine mg_getI C (k := 88) (by decide) rfl mL_hits rfl dX12_holds_25 ?_
  refine mg_iload_n C (i := 3) rfl 3 rfl dX12_holds_28 ?_
  refine mg_icmp_ne C 41 (by decide) dX12_holds_29 (fun c_ => ?_) (fun c_ => ?_)
  · have h := h.1 c_
    refine mg_aload_n C (i := 0) rfl 0 rfl dX12_holds_41 ?_
    refine mg_getI C (k := 88) (by decide) rfl mL_hits rfl dX12_holds_42 ?_
    exact mg_sub [0, 1, 2, 3] rfl (sb_holds_45 C  x1 x2 x3 ((v 88)) v f g h)
  · have h := h.2 c_
    refine mg_aload_n C (i := 0) rfl 0 rfl dX12_holds_32 ?_
    refine mg_getI C (k := 88) (by decide) rfl mL_hits rfl dX12_holds_33 ?_
    refine mg_iconst C (x := nI 1) rfl dX12_holds_36 ?_
    refine mg_isub C dX12_holds_37 ?_
    refine mg_goto C 45 (by decide) dX12_holds_38 ?_
    exact mg_sub [0, 1, 2, 3] rfl (sb_holds_45 C  x1 x2 x3 ((((v 88)) - ((nI 1)))) v f g h)
end S_holds
set_option maxHeartbeats 1000000 in
set_option maxRecDepth 20000 in
theorem s_holds (l : Launch) (x1 : Int32) (x2 : Int32) (x3 : Int32) (v : Nat → Int32) (f : Nat → Nat → Int32) (g : Nat → Nat → Int64) {P : (Nat → Int32) → (Nat → Nat → Int32) → (Nat → Nat → Int64) → Prop} (h : r_holds P x1 x2 x3 v f g) : mMv l yX12_holds cX12_holds 5 none 0 0 false [.int x1, .int x2, .int x3] v f g (fun w => P w.1 w.2.1 w.2.2) := by
  intro D cI cJ cZ a sz
  refine mg_body (by decide +kernel) rfl (Nat.le_of_ble_eq_true rfl) ?_
  intro p e s m args below meth c hsz C
  clear hsz
  generalize va_A (mW cI cJ cZ a v f g) sz = A at C ⊢
  refine mg_lv (lv' := [(0, .ref (a 0)), (1, .int x1), (2, .int x2), (3, .int x3)]) rfl ?_
  unfold r_holds at h
  refine mg_aload_n C (i := 0) rfl 0 rfl dX12_holds_0 ?_
  refine mg_getI C (k := 88) (by decide) rfl mL_hits rfl dX12_holds_1 ?_
  refine mg_iload_n C (i := 3) rfl 3 rfl dX12_holds_4 ?_
  refine mg_icmp_ne C 24 (by decide) dX12_holds_5 (fun c_ => ?_) (fun c_ => ?_)
  · have h := h.1 c_
    exact mg_sub [0, 1, 2, 3] rfl (sb_holds_24 C  x1 x2 x3 v f g h)
  · have h := h.2 c_
    refine mg_iload_n C (i := 2) rfl 2 rfl dX12_holds_8 ?_
    refine mg_aload_n C (i := 0) rfl 0 rfl dX12_holds_9 ?_
    refine mg_arr C 60 (by decide) (by decide) rfl mL_hitRanks rfl dX12_holds_10 ?_
    refine mg_aload_n C (i := 0) rfl 0 rfl dX12_holds_13 ?_
    refine mg_getI C (k := 88) (by decide) rfl mL_hits rfl dX12_holds_14 ?_
    refine mg_iconst C (x := nI 1) rfl dX12_holds_17 ?_
    refine mg_isub C dX12_holds_18 ?_
    obtain ⟨hc_19, h⟩ := h
    refine mg_ialoadR C (n := 20) 60 (by decide) (by decide) rfl rfl hc_19 dX12_holds_19 ?_
    refine mg_icmp_gt C 24 (by decide) dX12_holds_20 (fun c_ => ?_) (fun c_ => ?_)
    · have h := h.1 c_
      exact mg_sub [0, 1, 2, 3] rfl (sb_holds_24 C  x1 x2 x3 v f g h)
    · have h := h.2 c_
      exact mg_vret C h dX12_holds_23
def r_find_300 (Q : Int32 → (Nat → Int32) → (Nat → Nat → Int32) → (Nat → Nat → Int64) → Prop) (R74 : Int32 → Int32 → Int32 → Int32 → (Nat → Int32) → (Nat → Nat → Int32) → (Nat → Nat → Int64) → Prop) (R129 : Int32 → Int32 → Int32 → Int32 → Int32 → Int32 → (Nat → Int32) → (Nat → Nat → Int32) → (Nat → Nat → Int64) → Prop) (x2 : Int32) (x3 : Int32) (x4 : Int32) (x5 : Int32) (x6 : Int32) (x7 : Int32) (v : Nat → Int32) (f : Nat → Nat → Int32) (g : Nat → Nat → Int64) : Prop :=
∀ x7_14 : Int32, x7_14 = x7 + nI 4 → R129 x2 x3 x4 x5 x6 x7_14 v f g
def r_find_294 (Q : Int32 → (Nat → Int32) → (Nat → Nat → Int32) → (Nat → Nat → Int64) → Prop) (R74 : Int32 → Int32 → Int32 → Int32 → (Nat → Int32) → (Nat → Nat → Int32) → (Nat → Nat → Int64) → Prop) (R129 : Int32 → Int32 → Int32 → Int32 → Int32 → Int32 → (Nat → Int32) → (Nat → Nat → Int32) → (Nat → Nat → Int64) → Prop) (R232 : Int32 → Int32 → Int32 → Int32 → Int32 → Int32 → Int32 → Int32 → (Nat → Int32) → (Nat → Nat → Int32) → (Nat → Nat → Int64) → Prop) (x2 : Int32) (x3 : Int32) (x4 : Int32) (x5 : Int32) (x6 : Int32) (x7 : Int32) (x9 : Int32) (x10 : Int32) (v : Nat → Int32) (f : Nat → Nat → Int32) (g : Nat → Nat → Int64) : Prop :=
∀ x10_15 : Int32, x10_15 = x10 + nI 1 → R232 x2 x3 x4 x5 x6 x7 x9 x10_15 v f g
def r_find_272 (Q : Int32 → (Nat → Int32) → (Nat → Nat → Int32) → (Nat → Nat → Int64) → Prop) (R74 : Int32 → Int32 → Int32 → Int32 → (Nat → Int32) → (Nat → Nat → Int32) → (Nat → Nat → Int64) → Prop) (R129 : Int32 → Int32 → Int32 → Int32 → Int32 → Int32 → (Nat → Int32) → (Nat → Nat → Int32) → (Nat → Nat → Int64) → Prop) (R232 : Int32 → Int32 → Int32 → Int32 → Int32 → Int32 → Int32 → Int32 → (Nat → Int32) → (Nat → Nat → Int32) → (Nat → Nat → Int64) → Prop) (x2 : Int32) (x3 : Int32) (x4 : Int32) (x5 : Int32) (x6 : Int32) (x7 : Int32) (x9 : Int32) (x10 : Int32) (t0 : Int32) (v : Nat → Int32) (f : Nat → Nat → Int32) (g : Nat → Nat → Int64) : Prop :=
((t0 = (((-1))) →
  r_find_294 Q R74 R129 R232 x2 x3 x4 x5 x6 x7 x9 x10 v f g) ∧
 (¬ t0 = (((-1))) →
  vp_in x10 20200 ∧ (r_holds (fun v_16 f_16 g_16 => 
  r_find_294 Q R74 R129 R232 x2 x3 x4 x5 x6 x7 x9 x10 v_16 f_16 g_16) ((f 19 (x10).toNatClampNeg)) t0 x3 v f g)))
def r_find_232 (Q : Int32 → (Nat → Int32) → (Nat → Nat → Int32) → (Nat → Nat → Int64) → Prop) (R74 : Int32 → Int32 → Int32 → Int32 → (Nat → Int32) → (Nat → Nat → Int32) → (Nat → Nat → Int64) → Prop) (R129 : Int32 → Int32 → Int32 → Int32 → Int32 → Int32 → (Nat → Int32) → (Nat → Nat → Int32) → (Nat → Nat → Int64) → Prop) (R232 : Int32 → Int32 → Int32 → Int32 → Int32 → Int32 → Int32 → Int32 → (Nat → Int32) → (Nat → Nat → Int32) → (Nat → Nat → Int64) → Prop) (x2 : Int32) (x3 : Int32) (x4 : Int32) (x5 : Int32) (x6 : Int32) (x7 : Int32) (x9 : Int32) (x10 : Int32) (v : Nat → Int32) (f : Nat → Nat → Int32) (g : Nat → Nat → Int64) : Prop :=
((x9 ≤ x10 →
  r_find_300 Q R74 R129 x2 x3 x4 x5 x6 x7 v f g) ∧
 (¬ x9 ≤ x10 →
  vp_in ((((((nI 20200)) * x4)) + x10)) 101000 ∧ (((((f 32 ((((((nI 20200)) * x4)) + x10)).toNatClampNeg)) = 0 →
    r_find_272 Q R74 R129 R232 x2 x3 x4 x5 x6 x7 x9 x10 (((-1))) v f g) ∧
   (¬ ((f 32 ((((((nI 20200)) * x4)) + x10)).toNatClampNeg)) = 0 →
    vp_in x10 20200 ∧ (r_gives1 (fun r_17 v_17 f_17 g_17 => 
    r_find_272 Q R74 R129 R232 x2 x3 x4 x5 x6 x7 x9 x10 r_17 v_17 f_17 g_17) x2 ((f 19 (x10).toNatClampNeg)) v f g))))))
def r_find_232L (Q : Int32 → (Nat → Int32) → (Nat → Nat → Int32) → (Nat → Nat → Int64) → Prop) (R74 : Int32 → Int32 → Int32 → Int32 → (Nat → Int32) → (Nat → Nat → Int32) → (Nat → Nat → Int64) → Prop) (R129 : Int32 → Int32 → Int32 → Int32 → Int32 → Int32 → (Nat → Int32) → (Nat → Nat → Int32) → (Nat → Nat → Int64) → Prop) (x2 : Int32) (x3 : Int32) (x4 : Int32) (x5 : Int32) (x6 : Int32) (x7 : Int32) (x9 : Int32) (x10 : Int32) (v : Nat → Int32) (f : Nat → Nat → Int32) (g : Nat → Nat → Int64) : Prop :=
  lfp (X := Int32 × Int32 × Int32 × Int32 × Int32 × Int32 × Int32 × Int32 × (Nat → Int32) × (Nat → Nat → Int32) × (Nat → Nat → Int64)) (fun P y => r_find_232 Q R74 R129 (fun b0 b1 b2 b3 b4 b5 b6 b7 v f g => P (b0, b1, b2, b3, b4, b5, b6, b7, v, f, g)) y.1 y.2.1 y.2.2.1 y.2.2.2.1 y.2.2.2.2.1 y.2.2.2.2.2.1 y.2.2.2.2.2.2.1 y.2.2.2.2.2.2.2.1 y.2.2.2.2.2.2.2.2.1 y.2.2.2.2.2.2.2.2.2.1 y.2.2.2.2.2.2.2.2.2.2) (x2, x3, x4, x5, x6, x7, x9, x10, v, f, g)
def r_find_228 (Q : Int32 → (Nat → Int32) → (Nat → Nat → Int32) → (Nat → Nat → Int64) → Prop) (R74 : Int32 → Int32 → Int32 → Int32 → (Nat → Int32) → (Nat → Nat → Int32) → (Nat → Nat → Int64) → Prop) (R129 : Int32 → Int32 → Int32 → Int32 → Int32 → Int32 → (Nat → Int32) → (Nat → Nat → Int32) → (Nat → Nat → Int64) → Prop) (x2 : Int32) (x3 : Int32) (x4 : Int32) (x5 : Int32) (x6 : Int32) (x7 : Int32) (x8 : Int32) (x9 : Int32) (v : Nat → Int32) (f : Nat → Nat → Int32) (g : Nat → Nat → Int64) : Prop :=
r_find_232L Q R74 R129 x2 x3 x4 x5 x6 x7 x9 x8 v f g
def r_find_181 (Q : Int32 → (Nat → Int32) → (Nat → Nat → Int32) → (Nat → Nat → Int64) → Prop) (R74 : Int32 → Int32 → Int32 → Int32 → (Nat → Int32) → (Nat → Nat → Int32) → (Nat → Nat → Int64) → Prop) (R129 : Int32 → Int32 → Int32 → Int32 → Int32 → Int32 → (Nat → Int32) → (Nat → Nat → Int32) → (Nat → Nat → Int64) → Prop) (x2 : Int32) (x3 : Int32) (x4 : Int32) (x5 : Int32) (x6 : Int32) (x7 : Int32) (x8 : Int32) (t0 : Int32) (t1 : Int32) (v : Nat → Int32) (f : Nat → Nat → Int32) (g : Nat → Nat → Int64) : Prop :=
∀ x9_13 : Int32, x9_13 = (t1 + t0) → ((¬ ((v 88)) = x3 →
  r_find_228 Q R74 R129 x2 x3 x4 x5 x6 x7 x8 x9_13 v f g) ∧
 (((v 88)) = x3 →
  r_bound (fun r_18 v_18 f_18 g_18 => 
  vp_in ((((v_18 88)) - ((nI 1)))) 20 ∧ (((((f_18 60 ((((v_18 88)) - ((nI 1)))).toNatClampNeg)) < r_18 →
    r_find_228 Q R74 R129 x2 x3 x4 x5 x6 x7 x8 x9_13 v_18 f_18 g_18) ∧
   (¬ ((f_18 60 ((((v_18 88)) - ((nI 1)))).toNatClampNeg)) < r_18 →
    ∀ v19 : Nat → Int32, v19 = upd v_18 89 ((((v_18 89)) + ((nI 1)))) → r_find_300 Q R74 R129 x2 x3 x4 x5 x6 x7 v19 f_18 g_18)))) x2 x8 x9_13 v f g))
def r_find_129 (Q : Int32 → (Nat → Int32) → (Nat → Nat → Int32) → (Nat → Nat → Int64) → Prop) (R74 : Int32 → Int32 → Int32 → Int32 → (Nat → Int32) → (Nat → Nat → Int32) → (Nat → Nat → Int64) → Prop) (R129 : Int32 → Int32 → Int32 → Int32 → Int32 → Int32 → (Nat → Int32) → (Nat → Nat → Int32) → (Nat → Nat → Int64) → Prop) (x2 : Int32) (x3 : Int32) (x4 : Int32) (x5 : Int32) (x6 : Int32) (x7 : Int32) (v : Nat → Int32) (f : Nat → Nat → Int32) (g : Nat → Nat → Int64) : Prop :=
vp_in x6 202 ∧ (((((f 20 (x6).toNatClampNeg)) ≤ x7 →
  ∀ x5_11 : Int32, x5_11 = x5 + nI 1 → R74 x2 x3 x4 x5_11 v f g) ∧
 (¬ ((f 20 (x6).toNatClampNeg)) ≤ x7 →
  ∀ x8_12 : Int32, x8_12 = (((((nI 100)) * x6)) + x7) → vp_in x6 202 ∧ (((((nI 4)) ≤ ((((f 20 (x6).toNatClampNeg)) - x7)) →
    r_find_181 Q R74 R129 x2 x3 x4 x5 x6 x7 x8_12 ((nI 4)) x8_12 v f g) ∧
   (¬ ((nI 4)) ≤ ((((f 20 (x6).toNatClampNeg)) - x7)) →
    vp_in x6 202 ∧ (r_find_181 Q R74 R129 x2 x3 x4 x5 x6 x7 x8_12 ((((f 20 (x6).toNatClampNeg)) - x7)) x8_12 v f g)))))))
def r_find_129L (Q : Int32 → (Nat → Int32) → (Nat → Nat → Int32) → (Nat → Nat → Int64) → Prop) (R74 : Int32 → Int32 → Int32 → Int32 → (Nat → Int32) → (Nat → Nat → Int32) → (Nat → Nat → Int64) → Prop) (x2 : Int32) (x3 : Int32) (x4 : Int32) (x5 : Int32) (x6 : Int32) (x7 : Int32) (v : Nat → Int32) (f : Nat → Nat → Int32) (g : Nat → Nat → Int64) : Prop :=
  lfp (X := Int32 × Int32 × Int32 × Int32 × Int32 × Int32 × (Nat → Int32) × (Nat → Nat → Int32) × (Nat → Nat → Int64)) (fun P y => r_find_129 Q R74 (fun b0 b1 b2 b3 b4 b5 v f g => P (b0, b1, b2, b3, b4, b5, v, f, g)) y.1 y.2.1 y.2.2.1 y.2.2.2.1 y.2.2.2.2.1 y.2.2.2.2.2.1 y.2.2.2.2.2.2.1 y.2.2.2.2.2.2.2.1 y.2.2.2.2.2.2.2.2) (x2, x3, x4, x5, x6, x7, v, f, g)
def r_find_122 (Q : Int32 → (Nat → Int32) → (Nat → Nat → Int32) → (Nat → Nat → Int64) → Prop) (R74 : Int32 → Int32 → Int32 → Int32 → (Nat → Int32) → (Nat → Nat → Int32) → (Nat → Nat → Int64) → Prop) (x2 : Int32) (x3 : Int32) (x4 : Int32) (x5 : Int32) (x6 : Int32) (t0 : Int32) (t1 : Int32) (v : Nat → Int32) (f : Nat → Nat → Int32) (g : Nat → Nat → Int64) : Prop :=
∀ v10 : Nat → Int32, v10 = upd v 90 ((t1 + t0)) → r_find_129L Q R74 x2 x3 x4 x5 x6 (((nI 0))) v10 f g
def r_find_74 (Q : Int32 → (Nat → Int32) → (Nat → Nat → Int32) → (Nat → Nat → Int64) → Prop) (R74 : Int32 → Int32 → Int32 → Int32 → (Nat → Int32) → (Nat → Nat → Int32) → (Nat → Nat → Int64) → Prop) (x2 : Int32) (x3 : Int32) (x4 : Int32) (x5 : Int32) (v : Nat → Int32) (f : Nat → Nat → Int32) (g : Nat → Nat → Int64) : Prop :=
vp_in x4 5 ∧ (((((f 31 (x4).toNatClampNeg)) ≤ x5 →
  Q ((v 88)) v f g) ∧
 (¬ ((f 31 (x4).toNatClampNeg)) ≤ x5 →
  vp_in ((((((nI 202)) * x4)) + x5)) 1010 ∧ (∀ x6_8 : Int32, x6_8 = (f 30 ((((((nI 202)) * x4)) + x5)).toNatClampNeg) → r_takes (fun r_9 v_9 f_9 g_9 => 
  ((r_9 = 0 →
    r_find_122 Q R74 x2 x3 x4 x5 x6_8 ((nI 0)) ((v 90)) v_9 f_9 g_9) ∧
   (¬ r_9 = 0 →
    r_find_122 Q R74 x2 x3 x4 x5 x6_8 ((nI 1)) ((v 90)) v_9 f_9 g_9))) x2 x6_8 v f g))))
def r_find_74L (Q : Int32 → (Nat → Int32) → (Nat → Nat → Int32) → (Nat → Nat → Int64) → Prop)  (x2 : Int32) (x3 : Int32) (x4 : Int32) (x5 : Int32) (v : Nat → Int32) (f : Nat → Nat → Int32) (g : Nat → Nat → Int64) : Prop :=
  lfp (X := Int32 × Int32 × Int32 × Int32 × (Nat → Int32) × (Nat → Nat → Int32) × (Nat → Nat → Int64)) (fun P y => r_find_74 Q  (fun b0 b1 b2 b3 v f g => P (b0, b1, b2, b3, v, f, g)) y.1 y.2.1 y.2.2.1 y.2.2.2.1 y.2.2.2.2.1 y.2.2.2.2.2.1 y.2.2.2.2.2.2) (x2, x3, x4, x5, v, f, g)
def r_find_33 (Q : Int32 → (Nat → Int32) → (Nat → Nat → Int32) → (Nat → Nat → Int64) → Prop)  (x2 : Int32) (x3 : Int32) (x4 : Int32) (t0 : Int32) (v : Nat → Int32) (f : Nat → Nat → Int32) (g : Nat → Nat → Int64) : Prop :=
r_in (fun r_2 v_2 f_2 g_2 => 
r_goes (fun r_3 v_3 f_3 g_3 => 
((¬ r_3 = 0 →
  r_readies (fun v_4 f_4 g_4 => 
  ∀ v5 : Nat → Int32, v5 = upd v_4 88 ((nI 0)) → ∀ v6 : Nat → Int32, v6 = upd v5 89 ((nI 0)) → ∀ v7 : Nat → Int32, v7 = upd v6 90 ((nI 0)) → r_find_74L Q  x2 x3 x4 (((nI 0))) v7 f_4 g_4) x4 x2 v_3 f_3 g_3) ∧
 (r_3 = 0 →
  Q ((nI 0)) v_3 f_3 g_3))) t0 r_2 ((nI 1)) v_2 f_2 g_2) x3 ((nI 1)) ((nI 20)) v f g
def r_find_32 (Q : Int32 → (Nat → Int32) → (Nat → Nat → Int32) → (Nat → Nat → Int64) → Prop)  (x2 : Int32) (x3 : Int32) (x4 : Int32) (v : Nat → Int32) (f : Nat → Nat → Int32) (g : Nat → Nat → Int64) : Prop :=
r_find_33 Q  x2 x3 x4 ((nI 0)) v f g
def r_find (Q : Int32 → (Nat → Int32) → (Nat → Nat → Int32) → (Nat → Nat → Int64) → Prop) (x1 : Int32) (x2 : Int32) (x3 : Int32) (v : Nat → Int32) (f : Nat → Nat → Int32) (g : Nat → Nat → Int64) : Prop :=
r_slotOf (fun r_1 v_1 f_1 g_1 => 
((r_1 = (((-1))) →
  r_find_32 Q  x2 x3 r_1 v_1 f_1 g_1) ∧
 (¬ r_1 = (((-1))) →
  r_in (fun r_20 v_20 f_20 g_20 => 
  ((r_20 = 0 →
    r_find_32 Q  x2 x3 r_1 v_20 f_20 g_20) ∧
   (¬ r_20 = 0 →
    r_find_33 Q  x2 x3 r_1 ((nI 1)) v_20 f_20 g_20))) x2 ((nI 0)) ((((v_1 73)) - ((nI 1)))) v_1 f_1 g_1))) x1 v f g
section S_find
variable {p : Program} {l : Launch} {e : Env} {s : State} {m : MethodId} {args : Array Value} {below : List Frame} {meth : Method} {c : Code} {A : Nat → Prop} {D : va_G} {cI cJ cZ : ClassId} {a : Nat → Nat}
set_option maxRecDepth 20000 in
theorem sb_find_300 (C : mC p s m args meth c cX12_find 12 (some .int) A D cI cJ cZ) {post : Int32 → mS → Prop} {R74 : Int32 → Int32 → Int32 → Int32 → (Nat → Int32) → (Nat → Nat → Int32) → (Nat → Nat → Int64) → Prop} {R129 : Int32 → Int32 → Int32 → Int32 → Int32 → Int32 → (Nat → Int32) → (Nat → Nat → Int32) → (Nat → Nat → Int64) → Prop} (hR74 : ∀ (x2 : Int32) (x3 : Int32) (x4 : Int32) (x5 : Int32) (v : Nat → Int32) (f : Nat → Nat → Int32) (g : Nat → Nat → Int64), R74 x2 x3 x4 x5 v f g → mG p l e (mRm 7 182) s m args below meth c A D cI cJ cZ a 12 (MQ below (va_Qi post (mB D cI cJ cZ a) A) args s 0 0 A) 74 [(0, .ref (a 0)), (2, .int x2), (3, .int x3), (4, .int x4), (5, .int x5)] [] v f g) (hR129 : ∀ (x2 : Int32) (x3 : Int32) (x4 : Int32) (x5 : Int32) (x6 : Int32) (x7 : Int32) (v : Nat → Int32) (f : Nat → Nat → Int32) (g : Nat → Nat → Int64), R129 x2 x3 x4 x5 x6 x7 v f g → mG p l e (mRm 7 182) s m args below meth c A D cI cJ cZ a 12 (MQ below (va_Qi post (mB D cI cJ cZ a) A) args s 0 0 A) 129 [(0, .ref (a 0)), (2, .int x2), (3, .int x3), (4, .int x4), (5, .int x5), (6, .int x6), (7, .int x7)] [] v f g) (x2 : Int32) (x3 : Int32) (x4 : Int32) (x5 : Int32) (x6 : Int32) (x7 : Int32) (v : Nat → Int32) (f : Nat → Nat → Int32) (g : Nat → Nat → Int64) (h : r_find_300 (fun r v f g => post r (v, f, g)) R74 R129 x2 x3 x4 x5 x6 x7 v f g) : mG p l e (mRm 7 182) s m args below meth c A D cI cJ cZ a 12 (MQ below (va_Qi post (mB D cI cJ cZ a) A) args s 0 0 A) 300 [(0, .ref (a 0)), (2, .int x2), (3, .int x3), (4, .int x4), (5, .int x5), (6, .int x6), (7, .int x7)] [] v f g := by
  unfold r_find_300 at h
  obtain ⟨x7_14, e_x7_14⟩ : ∃ z : Int32, z = x7 + nI 4 := ⟨_, rfl⟩
  have h := h x7_14 e_x7_14
  refine mg_iinc C (lv' := [(7, .int x7_14), (0, .ref (a 0)), (2, .int x2), (3, .int x3), (4, .int x4), (5, .int x5), (6, .int x6)]) 6 rfl (by rw [e_x7_14]; rfl) (Nat.le_of_ble_eq_true rfl) rfl dX12_find_300 ?_
  refine mg_goto C 129 (by decide) dX12_find_303 ?_
  exact mg_sub [1, 2, 3, 4, 5, 6, 0] rfl (hR129 x2 x3 x4 x5 x6 x7_14 v f g h)
set_option maxRecDepth 20000 in
theorem sb_find_294 (C : mC p s m args meth c cX12_find 12 (some .int) A D cI cJ cZ) {post : Int32 → mS → Prop} {R74 : Int32 → Int32 → Int32 → Int32 → (Nat → Int32) → (Nat → Nat → Int32) → (Nat → Nat → Int64) → Prop} {R129 : Int32 → Int32 → Int32 → Int32 → Int32 → Int32 → (Nat → Int32) → (Nat → Nat → Int32) → (Nat → Nat → Int64) → Prop} {R232 : Int32 → Int32 → Int32 → Int32 → Int32 → Int32 → Int32 → Int32 → (Nat → Int32) → (Nat → Nat → Int32) → (Nat → Nat → Int64) → Prop} (hR74 : ∀ (x2 : Int32) (x3 : Int32) (x4 : Int32) (x5 : Int32) (v : Nat → Int32) (f : Nat → Nat → Int32) (g : Nat → Nat → Int64), R74 x2 x3 x4 x5 v f g → mG p l e (mRm 7 182) s m args below meth c A D cI cJ cZ a 12 (MQ below (va_Qi post (mB D cI cJ cZ a) A) args s 0 0 A) 74 [(0, .ref (a 0)), (2, .int x2), (3, .int x3), (4, .int x4), (5, .int x5)] [] v f g) (hR129 : ∀ (x2 : Int32) (x3 : Int32) (x4 : Int32) (x5 : Int32) (x6 : Int32) (x7 : Int32) (v : Nat → Int32) (f : Nat → Nat → Int32) (g : Nat → Nat → Int64), R129 x2 x3 x4 x5 x6 x7 v f g → mG p l e (mRm 7 182) s m args below meth c A D cI cJ cZ a 12 (MQ below (va_Qi post (mB D cI cJ cZ a) A) args s 0 0 A) 129 [(0, .ref (a 0)), (2, .int x2), (3, .int x3), (4, .int x4), (5, .int x5), (6, .int x6), (7, .int x7)] [] v f g) (hR232 : ∀ (x2 : Int32) (x3 : Int32) (x4 : Int32) (x5 : Int32) (x6 : Int32) (x7 : Int32) (x9 : Int32) (x10 : Int32) (v : Nat → Int32) (f : Nat → Nat → Int32) (g : Nat → Nat → Int64), R232 x2 x3 x4 x5 x6 x7 x9 x10 v f g → mG p l e (mRm 7 182) s m args below meth c A D cI cJ cZ a 12 (MQ below (va_Qi post (mB D cI cJ cZ a) A) args s 0 0 A) 232 [(0, .ref (a 0)), (2, .int x2), (3, .int x3), (4, .int x4), (5, .int x5), (6, .int x6), (7, .int x7), (9, .int x9), (10, .int x10)] [] v f g) (x2 : Int32) (x3 : Int32) (x4 : Int32) (x5 : Int32) (x6 : Int32) (x7 : Int32) (x9 : Int32) (x10 : Int32) (v : Nat → Int32) (f : Nat → Nat → Int32) (g : Nat → Nat → Int64) (h : r_find_294 (fun r v f g => post r (v, f, g)) R74 R129 R232 x2 x3 x4 x5 x6 x7 x9 x10 v f g) : mG p l e (mRm 7 182) s m args below meth c A D cI cJ cZ a 12 (MQ below (va_Qi post (mB D cI cJ cZ a) A) args s 0 0 A) 294 [(0, .ref (a 0)), (2, .int x2), (3, .int x3), (4, .int x4), (5, .int x5), (6, .int x6), (7, .int x7), (9, .int x9), (10, .int x10)] [] v f g := by
  unfold r_find_294 at h
  obtain ⟨x10_15, e_x10_15⟩ : ∃ z : Int32, z = x10 + nI 1 := ⟨_, rfl⟩
  have h := h x10_15 e_x10_15
  refine mg_iinc C (lv' := [(10, .int x10_15), (0, .ref (a 0)), (2, .int x2), (3, .int x3), (4, .int x4), (5, .int x5), (6, .int x6), (7, .int x7), (9, .int x9)]) 8 rfl (by rw [e_x10_15]; rfl) (Nat.le_of_ble_eq_true rfl) rfl dX12_find_294 ?_
  refine mg_goto C 232 (by decide) dX12_find_297 ?_
  exact mg_sub [1, 2, 3, 4, 5, 6, 7, 8, 0] rfl (hR232 x2 x3 x4 x5 x6 x7 x9 x10_15 v f g h)
set_option maxRecDepth 20000 in
theorem sb_find_272 (C : mC p s m args meth c cX12_find 12 (some .int) A D cI cJ cZ) {post : Int32 → mS → Prop} {R74 : Int32 → Int32 → Int32 → Int32 → (Nat → Int32) → (Nat → Nat → Int32) → (Nat → Nat → Int64) → Prop} {R129 : Int32 → Int32 → Int32 → Int32 → Int32 → Int32 → (Nat → Int32) → (Nat → Nat → Int32) → (Nat → Nat → Int64) → Prop} {R232 : Int32 → Int32 → Int32 → Int32 → Int32 → Int32 → Int32 → Int32 → (Nat → Int32) → (Nat → Nat → Int32) → (Nat → Nat → Int64) → Prop} (hR74 : ∀ (x2 : Int32) (x3 : Int32) (x4 : Int32) (x5 : Int32) (v : Nat → Int32) (f : Nat → Nat → Int32) (g : Nat → Nat → Int64), R74 x2 x3 x4 x5 v f g → mG p l e (mRm 7 182) s m args below meth c A D cI cJ cZ a 12 (MQ below (va_Qi post (mB D cI cJ cZ a) A) args s 0 0 A) 74 [(0, .ref (a 0)), (2, .int x2), (3, .int x3), (4, .int x4), (5, .int x5)] [] v f g) (hR129 : ∀ (x2 : Int32) (x3 : Int32) (x4 : Int32) (x5 : Int32) (x6 : Int32) (x7 : Int32) (v : Nat → Int32) (f : Nat → Nat → Int32) (g : Nat → Nat → Int64), R129 x2 x3 x4 x5 x6 x7 v f g → mG p l e (mRm 7 182) s m args below meth c A D cI cJ cZ a 12 (MQ below (va_Qi post (mB D cI cJ cZ a) A) args s 0 0 A) 129 [(0, .ref (a 0)), (2, .int x2), (3, .int x3), (4, .int x4), (5, .int x5), (6, .int x6), (7, .int x7)] [] v f g) (hR232 : ∀ (x2 : Int32) (x3 : Int32) (x4 : Int32) (x5 : Int32) (x6 : Int32) (x7 : Int32) (x9 : Int32) (x10 : Int32) (v : Nat → Int32) (f : Nat → Nat → Int32) (g : Nat → Nat → Int64), R232 x2 x3 x4 x5 x6 x7 x9 x10 v f g → mG p l e (mRm 7 182) s m args below meth c A D cI cJ cZ a 12 (MQ below (va_Qi post (mB D cI cJ cZ a) A) args s 0 0 A) 232 [(0, .ref (a 0)), (2, .int x2), (3, .int x3), (4, .int x4), (5, .int x5), (6, .int x6), (7, .int x7), (9, .int x9), (10, .int x10)] [] v f g) (x2 : Int32) (x3 : Int32) (x4 : Int32) (x5 : Int32) (x6 : Int32) (x7 : Int32) (x9 : Int32) (x10 : Int32) (t0 : Int32) (v : Nat → Int32) (f : Nat → Nat → Int32) (g : Nat → Nat → Int64) (h : r_find_272 (fun r v f g => post r (v, f, g)) R74 R129 R232 x2 x3 x4 x5 x6 x7 x9 x10 t0 v f g) : mG p l e (mRm 7 182) s m args below meth c A D cI cJ cZ a 12 (MQ below (va_Qi post (mB D cI cJ cZ a) A) args s 0 0 A) 272 [(0, .ref (a 0)), (2, .int x2), (3, .int x3), (4, .int x4), (5, .int x5), (6, .int x6), (7, .int x7), (9, .int x9), (10, .int x10)] [.int t0] v f g := by
  unfold r_find_272 at h
  refine mg_istore C (lv' := [(11, .int t0), (0, .ref (a 0)), (2, .int x2), (3, .int x3), (4, .int x4), (5, .int x5), (6, .int x6), (7, .int x7), (9, .int x9), (10, .int x10)]) (Nat.le_of_ble_eq_true rfl) rfl dX12_find_272 ?_
  refine mg_iload C 0 rfl dX12_find_274 ?_
  refine mg_iconst C (x := (-1)) rfl dX12_find_276 ?_
  refine mg_icmp_eq C 294 (by decide) dX12_find_277 (fun c_ => ?_) (fun c_ => ?_)
  · have h := h.1 c_
    exact mg_sub [1, 2, 3, 4, 5, 6, 7, 8, 9] rfl (sb_find_294 C hR74 hR129 hR232 x2 x3 x4 x5 x6 x7 x9 x10 v f g h)
  · have h := h.2 c_
    refine mg_aload_n C (i := 0) rfl 1 rfl dX12_find_280 ?_
    refine mg_aload_n C (i := 0) rfl 1 rfl dX12_find_281 ?_
    refine mg_arr C 19 (by decide) (by decide) rfl mL_held rfl dX12_find_282 ?_
    refine mg_iload C 9 rfl dX12_find_285 ?_
    obtain ⟨hc_287, h⟩ := h
    refine mg_ialoadR C (n := 20200) 19 (by decide) (by decide) rfl rfl hc_287 dX12_find_287 ?_
    refine mg_iload C 0 rfl dX12_find_288 ?_
    refine mg_iload_n C (i := 3) rfl 3 rfl dX12_find_290 ?_
    refine mg_callvW C (s_holds l ((f 19 (x10).toNatClampNeg)) t0 x3 v f g h) mCal_holds rfl ⟨by decide, by decide⟩ rfl (Nat.le_of_ble_eq_true rfl) dX12_find_291 (fun v_16 f_16 g_16 h => ?_)
    exact mg_sub [1, 2, 3, 4, 5, 6, 7, 8, 9] rfl (sb_find_294 C hR74 hR129 hR232 x2 x3 x4 x5 x6 x7 x9 x10 v_16 f_16 g_16 h)
set_option maxRecDepth 20000 in
theorem sb_find_232 (C : mC p s m args meth c cX12_find 12 (some .int) A D cI cJ cZ) {post : Int32 → mS → Prop} {R74 : Int32 → Int32 → Int32 → Int32 → (Nat → Int32) → (Nat → Nat → Int32) → (Nat → Nat → Int64) → Prop} {R129 : Int32 → Int32 → Int32 → Int32 → Int32 → Int32 → (Nat → Int32) → (Nat → Nat → Int32) → (Nat → Nat → Int64) → Prop} {R232 : Int32 → Int32 → Int32 → Int32 → Int32 → Int32 → Int32 → Int32 → (Nat → Int32) → (Nat → Nat → Int32) → (Nat → Nat → Int64) → Prop} (hR74 : ∀ (x2 : Int32) (x3 : Int32) (x4 : Int32) (x5 : Int32) (v : Nat → Int32) (f : Nat → Nat → Int32) (g : Nat → Nat → Int64), R74 x2 x3 x4 x5 v f g → mG p l e (mRm 7 182) s m args below meth c A D cI cJ cZ a 12 (MQ below (va_Qi post (mB D cI cJ cZ a) A) args s 0 0 A) 74 [(0, .ref (a 0)), (2, .int x2), (3, .int x3), (4, .int x4), (5, .int x5)] [] v f g) (hR129 : ∀ (x2 : Int32) (x3 : Int32) (x4 : Int32) (x5 : Int32) (x6 : Int32) (x7 : Int32) (v : Nat → Int32) (f : Nat → Nat → Int32) (g : Nat → Nat → Int64), R129 x2 x3 x4 x5 x6 x7 v f g → mG p l e (mRm 7 182) s m args below meth c A D cI cJ cZ a 12 (MQ below (va_Qi post (mB D cI cJ cZ a) A) args s 0 0 A) 129 [(0, .ref (a 0)), (2, .int x2), (3, .int x3), (4, .int x4), (5, .int x5), (6, .int x6), (7, .int x7)] [] v f g) (hR232 : ∀ (x2 : Int32) (x3 : Int32) (x4 : Int32) (x5 : Int32) (x6 : Int32) (x7 : Int32) (x9 : Int32) (x10 : Int32) (v : Nat → Int32) (f : Nat → Nat → Int32) (g : Nat → Nat → Int64), R232 x2 x3 x4 x5 x6 x7 x9 x10 v f g → mG p l e (mRm 7 182) s m args below meth c A D cI cJ cZ a 12 (MQ below (va_Qi post (mB D cI cJ cZ a) A) args s 0 0 A) 232 [(0, .ref (a 0)), (2, .int x2), (3, .int x3), (4, .int x4), (5, .int x5), (6, .int x6), (7, .int x7), (9, .int x9), (10, .int x10)] [] v f g) (x2 : Int32) (x3 : Int32) (x4 : Int32) (x5 : Int32) (x6 : Int32) (x7 : Int32) (x9 : Int32) (x10 : Int32) (v : Nat → Int32) (f : Nat → Nat → Int32) (g : Nat → Nat → Int64) (h : r_find_232 (fun r v f g => post r (v, f, g)) R74 R129 R232 x2 x3 x4 x5 x6 x7 x9 x10 v f g) : mG p l e (mRm 7 182) s m args below meth c A D cI cJ cZ a 12 (MQ below (va_Qi post (mB D cI cJ cZ a) A) args s 0 0 A) 232 [(0, .ref (a 0)), (2, .int x2), (3, .int x3), (4, .int x4), (5, .int x5), (6, .int x6), (7, .int x7), (9, .int x9), (10, .int x10)] [] v f g := by
  unfold r_find_232 at h
  refine mg_iload C 8 rfl dX12_find_232 ?_
  refine mg_iload C 7 rfl dX12_find_234 ?_
  refine mg_icmp_ge C 300 (by decide) dX12_find_236 (fun c_ => ?_) (fun c_ => ?_)
  · have h := h.1 c_
    exact mg_sub [0, 1, 2, 3, 4, 5, 6] rfl (sb_find_300 C hR74 hR129 x2 x3 x4 x5 x6 x7 v f g h)
  · have h := h.2 c_
    refine mg_aload_n C (i := 0) rfl 0 rfl dX12_find_239 ?_
    refine mg_arr C 32 (by decide) (by decide) rfl mL_lookedLive rfl dX12_find_240 ?_
    refine mg_sipush C (x := nI 20200) rfl dX12_find_243 ?_
    refine mg_iload C 3 rfl dX12_find_246 ?_
    refine mg_imul C dX12_find_248 ?_
    refine mg_iload C 8 rfl dX12_find_249 ?_
    refine mg_iadd C dX12_find_251 ?_
    obtain ⟨hc_252, h⟩ := h
    refine mg_baloadR C (n := 101000) 32 (by decide) (by decide) rfl rfl hc_252 dX12_find_252 ?_
    refine mg_if_eq C 271 (by decide) dX12_find_253 (fun c_ => ?_) (fun c_ => ?_)
    · have h := h.1 c_
      refine mg_iconst C (x := (-1)) rfl dX12_find_271 ?_
      exact mg_sub [0, 1, 2, 3, 4, 5, 6, 7, 8] rfl (sb_find_272 C hR74 hR129 hR232 x2 x3 x4 x5 x6 x7 x9 x10 (((-1))) v f g h)
    · have h := h.2 c_
      refine mg_aload_n C (i := 0) rfl 0 rfl dX12_find_256 ?_
      refine mg_iload_n C (i := 2) rfl 1 rfl dX12_find_257 ?_
      refine mg_aload_n C (i := 0) rfl 0 rfl dX12_find_258 ?_
      refine mg_arr C 19 (by decide) (by decide) rfl mL_held rfl dX12_find_259 ?_
      refine mg_iload C 8 rfl dX12_find_262 ?_
      obtain ⟨hc_264, h⟩ := h
      refine mg_ialoadR C (n := 20200) 19 (by decide) (by decide) rfl rfl hc_264 dX12_find_264 ?_
      refine mg_calliW C (s_gives1 l x2 ((f 19 (x10).toNatClampNeg)) v f g h) mCal_gives1 rfl ⟨by decide, by decide⟩ rfl (Nat.le_of_ble_eq_true rfl) dX12_find_265 (fun r_17 v_17 f_17 g_17 h => ?_)
      refine mg_goto C 272 (by decide) dX12_find_268 ?_
      exact mg_sub [0, 1, 2, 3, 4, 5, 6, 7, 8] rfl (sb_find_272 C hR74 hR129 hR232 x2 x3 x4 x5 x6 x7 x9 x10 r_17 v_17 f_17 g_17 h)
set_option maxRecDepth 20000 in
theorem sl_find_232 (C : mC p s m args meth c cX12_find 12 (some .int) A D cI cJ cZ) {post : Int32 → mS → Prop} {R74 : Int32 → Int32 → Int32 → Int32 → (Nat → Int32) → (Nat → Nat → Int32) → (Nat → Nat → Int64) → Prop} {R129 : Int32 → Int32 → Int32 → Int32 → Int32 → Int32 → (Nat → Int32) → (Nat → Nat → Int32) → (Nat → Nat → Int64) → Prop} (hR74 : ∀ (x2 : Int32) (x3 : Int32) (x4 : Int32) (x5 : Int32) (v : Nat → Int32) (f : Nat → Nat → Int32) (g : Nat → Nat → Int64), R74 x2 x3 x4 x5 v f g → mG p l e (mRm 7 182) s m args below meth c A D cI cJ cZ a 12 (MQ below (va_Qi post (mB D cI cJ cZ a) A) args s 0 0 A) 74 [(0, .ref (a 0)), (2, .int x2), (3, .int x3), (4, .int x4), (5, .int x5)] [] v f g) (hR129 : ∀ (x2 : Int32) (x3 : Int32) (x4 : Int32) (x5 : Int32) (x6 : Int32) (x7 : Int32) (v : Nat → Int32) (f : Nat → Nat → Int32) (g : Nat → Nat → Int64), R129 x2 x3 x4 x5 x6 x7 v f g → mG p l e (mRm 7 182) s m args below meth c A D cI cJ cZ a 12 (MQ below (va_Qi post (mB D cI cJ cZ a) A) args s 0 0 A) 129 [(0, .ref (a 0)), (2, .int x2), (3, .int x3), (4, .int x4), (5, .int x5), (6, .int x6), (7, .int x7)] [] v f g) (x2 : Int32) (x3 : Int32) (x4 : Int32) (x5 : Int32) (x6 : Int32) (x7 : Int32) (x9 : Int32) (x10 : Int32) (v : Nat → Int32) (f : Nat → Nat → Int32) (g : Nat → Nat → Int64) (h : r_find_232L (fun r v f g => post r (v, f, g)) R74 R129 x2 x3 x4 x5 x6 x7 x9 x10 v f g) : mG p l e (mRm 7 182) s m args below meth c A D cI cJ cZ a 12 (MQ below (va_Qi post (mB D cI cJ cZ a) A) args s 0 0 A) 232 [(0, .ref (a 0)), (2, .int x2), (3, .int x3), (4, .int x4), (5, .int x5), (6, .int x6), (7, .int x7), (9, .int x9), (10, .int x10)] [] v f g :=
  h (fun y => mG p l e (mRm 7 182) s m args below meth c A D cI cJ cZ a 12 (MQ below (va_Qi post (mB D cI cJ cZ a) A) args s 0 0 A) 232 [(0, .ref (a 0)), (2, .int (y.1)), (3, .int (y.2.1)), (4, .int (y.2.2.1)), (5, .int (y.2.2.2.1)), (6, .int (y.2.2.2.2.1)), (7, .int (y.2.2.2.2.2.1)), (9, .int (y.2.2.2.2.2.2.1)), (10, .int (y.2.2.2.2.2.2.2.1))] [] (y.2.2.2.2.2.2.2.2.1) (y.2.2.2.2.2.2.2.2.2.1) (y.2.2.2.2.2.2.2.2.2.2)) (fun y hy => sb_find_232 C hR74 hR129 (fun b0 b1 b2 b3 b4 b5 b6 b7 v f g z => z) (y.1) (y.2.1) (y.2.2.1) (y.2.2.2.1) (y.2.2.2.2.1) (y.2.2.2.2.2.1) (y.2.2.2.2.2.2.1) (y.2.2.2.2.2.2.2.1) (y.2.2.2.2.2.2.2.2.1) (y.2.2.2.2.2.2.2.2.2.1) (y.2.2.2.2.2.2.2.2.2.2) hy)
set_option maxRecDepth 20000 in
theorem sb_find_228 (C : mC p s m args meth c cX12_find 12 (some .int) A D cI cJ cZ) {post : Int32 → mS → Prop} {R74 : Int32 → Int32 → Int32 → Int32 → (Nat → Int32) → (Nat → Nat → Int32) → (Nat → Nat → Int64) → Prop} {R129 : Int32 → Int32 → Int32 → Int32 → Int32 → Int32 → (Nat → Int32) → (Nat → Nat → Int32) → (Nat → Nat → Int64) → Prop} (hR74 : ∀ (x2 : Int32) (x3 : Int32) (x4 : Int32) (x5 : Int32) (v : Nat → Int32) (f : Nat → Nat → Int32) (g : Nat → Nat → Int64), R74 x2 x3 x4 x5 v f g → mG p l e (mRm 7 182) s m args below meth c A D cI cJ cZ a 12 (MQ below (va_Qi post (mB D cI cJ cZ a) A) args s 0 0 A) 74 [(0, .ref (a 0)), (2, .int x2), (3, .int x3), (4, .int x4), (5, .int x5)] [] v f g) (hR129 : ∀ (x2 : Int32) (x3 : Int32) (x4 : Int32) (x5 : Int32) (x6 : Int32) (x7 : Int32) (v : Nat → Int32) (f : Nat → Nat → Int32) (g : Nat → Nat → Int64), R129 x2 x3 x4 x5 x6 x7 v f g → mG p l e (mRm 7 182) s m args below meth c A D cI cJ cZ a 12 (MQ below (va_Qi post (mB D cI cJ cZ a) A) args s 0 0 A) 129 [(0, .ref (a 0)), (2, .int x2), (3, .int x3), (4, .int x4), (5, .int x5), (6, .int x6), (7, .int x7)] [] v f g) (x2 : Int32) (x3 : Int32) (x4 : Int32) (x5 : Int32) (x6 : Int32) (x7 : Int32) (x8 : Int32) (x9 : Int32) (v : Nat → Int32) (f : Nat → Nat → Int32) (g : Nat → Nat → Int64) (h : r_find_228 (fun r v f g => post r (v, f, g)) R74 R129 x2 x3 x4 x5 x6 x7 x8 x9 v f g) : mG p l e (mRm 7 182) s m args below meth c A D cI cJ cZ a 12 (MQ below (va_Qi post (mB D cI cJ cZ a) A) args s 0 0 A) 228 [(0, .ref (a 0)), (2, .int x2), (3, .int x3), (4, .int x4), (5, .int x5), (6, .int x6), (7, .int x7), (8, .int x8), (9, .int x9)] [] v f g := by
  unfold r_find_228 at h
  refine mg_iload C 7 rfl dX12_find_228 ?_
  refine mg_istore C (lv' := [(10, .int x8), (0, .ref (a 0)), (2, .int x2), (3, .int x3), (4, .int x4), (5, .int x5), (6, .int x6), (7, .int x7), (8, .int x8), (9, .int x9)]) (Nat.le_of_ble_eq_true rfl) rfl dX12_find_230 ?_
  exact mg_sub [1, 2, 3, 4, 5, 6, 7, 9, 0] rfl (sl_find_232 C hR74 hR129 x2 x3 x4 x5 x6 x7 x9 x8 v f g h)
set_option maxRecDepth 20000 in
theorem sb_find_181 (C : mC p s m args meth c cX12_find 12 (some .int) A D cI cJ cZ) {post : Int32 → mS → Prop} {R74 : Int32 → Int32 → Int32 → Int32 → (Nat → Int32) → (Nat → Nat → Int32) → (Nat → Nat → Int64) → Prop} {R129 : Int32 → Int32 → Int32 → Int32 → Int32 → Int32 → (Nat → Int32) → (Nat → Nat → Int32) → (Nat → Nat → Int64) → Prop} (hR74 : ∀ (x2 : Int32) (x3 : Int32) (x4 : Int32) (x5 : Int32) (v : Nat → Int32) (f : Nat → Nat → Int32) (g : Nat → Nat → Int64), R74 x2 x3 x4 x5 v f g → mG p l e (mRm 7 182) s m args below meth c A D cI cJ cZ a 12 (MQ below (va_Qi post (mB D cI cJ cZ a) A) args s 0 0 A) 74 [(0, .ref (a 0)), (2, .int x2), (3, .int x3), (4, .int x4), (5, .int x5)] [] v f g) (hR129 : ∀ (x2 : Int32) (x3 : Int32) (x4 : Int32) (x5 : Int32) (x6 : Int32) (x7 : Int32) (v : Nat → Int32) (f : Nat → Nat → Int32) (g : Nat → Nat → Int64), R129 x2 x3 x4 x5 x6 x7 v f g → mG p l e (mRm 7 182) s m args below meth c A D cI cJ cZ a 12 (MQ below (va_Qi post (mB D cI cJ cZ a) A) args s 0 0 A) 129 [(0, .ref (a 0)), (2, .int x2), (3, .int x3), (4, .int x4), (5, .int x5), (6, .int x6), (7, .int x7)] [] v f g) (x2 : Int32) (x3 : Int32) (x4 : Int32) (x5 : Int32) (x6 : Int32) (x7 : Int32) (x8 : Int32) (t0 : Int32) (t1 : Int32) (v : Nat → Int32) (f : Nat → Nat → Int32) (g : Nat → Nat → Int64) (h : r_find_181 (fun r v f g => post r (v, f, g)) R74 R129 x2 x3 x4 x5 x6 x7 x8 t0 t1 v f g) : mG p l e (mRm 7 182) s m args below meth c A D cI cJ cZ a 12 (MQ below (va_Qi post (mB D cI cJ cZ a) A) args s 0 0 A) 181 [(0, .ref (a 0)), (2, .int x2), (3, .int x3), (4, .int x4), (5, .int x5), (6, .int x6), (7, .int x7), (8, .int x8)] [.int t0, .int t1] v f g := by
  unfold r_find_181 at h
  refine mg_iadd C dX12_find_181 ?_
  refine mg_nmI (fun x9_13 e_x9_13 => ?_)
  have h := h x9_13 e_x9_13
  refine mg_istore C (lv' := [(9, .int x9_13), (0, .ref (a 0)), (2, .int x2), (3, .int x3), (4, .int x4), (5, .int x5), (6, .int x6), (7, .int x7), (8, .int x8)]) (Nat.le_of_ble_eq_true rfl) rfl dX12_find_182 ?_
  refine mg_aload_n C (i := 0) rfl 1 rfl dX12_find_184 ?_
  refine mg_getI C (k := 88) (by decide) rfl mL_hits rfl dX12_find_185 ?_
  refine mg_iload_n C (i := 3) rfl 3 rfl dX12_find_188 ?_
  refine mg_icmp_ne C 228 (by decide) dX12_find_189 (fun c_ => ?_) (fun c_ => ?_)
  · have h := h.1 c_
    exact mg_sub [1, 2, 3, 4, 5, 6, 7, 8, 0] rfl (sb_find_228 C hR74 hR129 x2 x3 x4 x5 x6 x7 x8 x9_13 v f g h)
  · have h := h.2 c_
    refine mg_aload_n C (i := 0) rfl 1 rfl dX12_find_192 ?_
    refine mg_iload_n C (i := 2) rfl 2 rfl dX12_find_193 ?_
    refine mg_iload C 8 rfl dX12_find_194 ?_
    refine mg_iload C 0 rfl dX12_find_196 ?_
    refine mg_calliW C (s_bound l x2 x8 x9_13 v f g h) mCal_bound rfl ⟨by decide, by decide⟩ rfl (Nat.le_of_ble_eq_true rfl) dX12_find_198 (fun r_18 v_18 f_18 g_18 h => ?_)
    refine mg_aload_n C (i := 0) rfl 1 rfl dX12_find_201 ?_
    refine mg_arr C 60 (by decide) (by decide) rfl mL_hitRanks rfl dX12_find_202 ?_
    refine mg_aload_n C (i := 0) rfl 1 rfl dX12_find_205 ?_
    refine mg_getI C (k := 88) (by decide) rfl mL_hits rfl dX12_find_206 ?_
    refine mg_iconst C (x := nI 1) rfl dX12_find_209 ?_
    refine mg_isub C dX12_find_210 ?_
    obtain ⟨hc_211, h⟩ := h
    refine mg_ialoadR C (n := 20) 60 (by decide) (by decide) rfl rfl hc_211 dX12_find_211 ?_
    refine mg_icmp_gt C 228 (by decide) dX12_find_212 (fun c_ => ?_) (fun c_ => ?_)
    · have h := h.1 c_
      exact mg_sub [1, 2, 3, 4, 5, 6, 7, 8, 0] rfl (sb_find_228 C hR74 hR129 x2 x3 x4 x5 x6 x7 x8 x9_13 v_18 f_18 g_18 h)
    · have h := h.2 c_
      refine mg_aload_n C (i := 0) rfl 1 rfl dX12_find_215 ?_
      refine mg_dup C rfl dX12_find_216 ?_
      refine mg_getI C (k := 89) (by decide) rfl mL_skips rfl dX12_find_217 ?_
      refine mg_iconst C (x := nI 1) rfl dX12_find_220 ?_
      refine mg_iadd C dX12_find_221 ?_
      refine mg_put C (k := 89) (by decide) rfl mL_skips rfl (by decide +kernel) mT_skips rfl rfl dX12_find_222 ?_
      refine mg_nmV (fun v19 e_v19 => ?_)
      have h := h v19 e_v19
      refine mg_goto C 300 (by decide) dX12_find_225 ?_
      exact mg_sub [1, 2, 3, 4, 5, 6, 7] rfl (sb_find_300 C hR74 hR129 x2 x3 x4 x5 x6 x7 v19 f_18 g_18 h)
set_option maxRecDepth 20000 in
theorem sb_find_129 (C : mC p s m args meth c cX12_find 12 (some .int) A D cI cJ cZ) {post : Int32 → mS → Prop} {R74 : Int32 → Int32 → Int32 → Int32 → (Nat → Int32) → (Nat → Nat → Int32) → (Nat → Nat → Int64) → Prop} {R129 : Int32 → Int32 → Int32 → Int32 → Int32 → Int32 → (Nat → Int32) → (Nat → Nat → Int32) → (Nat → Nat → Int64) → Prop} (hR74 : ∀ (x2 : Int32) (x3 : Int32) (x4 : Int32) (x5 : Int32) (v : Nat → Int32) (f : Nat → Nat → Int32) (g : Nat → Nat → Int64), R74 x2 x3 x4 x5 v f g → mG p l e (mRm 7 182) s m args below meth c A D cI cJ cZ a 12 (MQ below (va_Qi post (mB D cI cJ cZ a) A) args s 0 0 A) 74 [(0, .ref (a 0)), (2, .int x2), (3, .int x3), (4, .int x4), (5, .int x5)] [] v f g) (hR129 : ∀ (x2 : Int32) (x3 : Int32) (x4 : Int32) (x5 : Int32) (x6 : Int32) (x7 : Int32) (v : Nat → Int32) (f : Nat → Nat → Int32) (g : Nat → Nat → Int64), R129 x2 x3 x4 x5 x6 x7 v f g → mG p l e (mRm 7 182) s m args below meth c A D cI cJ cZ a 12 (MQ below (va_Qi post (mB D cI cJ cZ a) A) args s 0 0 A) 129 [(0, .ref (a 0)), (2, .int x2), (3, .int x3), (4, .int x4), (5, .int x5), (6, .int x6), (7, .int x7)] [] v f g) (x2 : Int32) (x3 : Int32) (x4 : Int32) (x5 : Int32) (x6 : Int32) (x7 : Int32) (v : Nat → Int32) (f : Nat → Nat → Int32) (g : Nat → Nat → Int64) (h : r_find_129 (fun r v f g => post r (v, f, g)) R74 R129 x2 x3 x4 x5 x6 x7 v f g) : mG p l e (mRm 7 182) s m args below meth c A D cI cJ cZ a 12 (MQ below (va_Qi post (mB D cI cJ cZ a) A) args s 0 0 A) 129 [(0, .ref (a 0)), (2, .int x2), (3, .int x3), (4, .int x4), (5, .int x5), (6, .int x6), (7, .int x7)] [] v f g := by
  unfold r_find_129 at h
  refine mg_iload C 6 rfl dX12_find_129 ?_
  refine mg_aload_n C (i := 0) rfl 0 rfl dX12_find_131 ?_
  refine mg_arr C 20 (by decide) (by decide) rfl mL_sizes rfl dX12_find_132 ?_
  refine mg_iload C 5 rfl dX12_find_135 ?_
  obtain ⟨hc_137, h⟩ := h
  refine mg_ialoadR C (n := 202) 20 (by decide) (by decide) rfl rfl hc_137 dX12_find_137 ?_
  refine mg_icmp_ge C 306 (by decide) dX12_find_138 (fun c_ => ?_) (fun c_ => ?_)
  · have h := h.1 c_
    obtain ⟨x5_11, e_x5_11⟩ : ∃ z : Int32, z = x5 + nI 1 := ⟨_, rfl⟩
    have h := h x5_11 e_x5_11
    refine mg_iinc C (lv' := [(5, .int x5_11), (0, .ref (a 0)), (2, .int x2), (3, .int x3), (4, .int x4), (6, .int x6), (7, .int x7)]) 4 rfl (by rw [e_x5_11]; rfl) (Nat.le_of_ble_eq_true rfl) rfl dX12_find_306 ?_
    refine mg_goto C 74 (by decide) dX12_find_309 ?_
    exact mg_sub [1, 2, 3, 4, 0] rfl (hR74 x2 x3 x4 x5_11 v f g h)
  · have h := h.2 c_
    refine mg_bipush C (x := nI 100) rfl dX12_find_141 ?_
    refine mg_iload C 5 rfl dX12_find_143 ?_
    refine mg_imul C dX12_find_145 ?_
    refine mg_iload C 6 rfl dX12_find_146 ?_
    refine mg_iadd C dX12_find_148 ?_
    refine mg_nmI (fun x8_12 e_x8_12 => ?_)
    have h := h x8_12 e_x8_12
    refine mg_istore C (lv' := [(8, .int x8_12), (0, .ref (a 0)), (2, .int x2), (3, .int x3), (4, .int x4), (5, .int x5), (6, .int x6), (7, .int x7)]) (Nat.le_of_ble_eq_true rfl) rfl dX12_find_149 ?_
    refine mg_iload C 0 rfl dX12_find_151 ?_
    refine mg_aload_n C (i := 0) rfl 1 rfl dX12_find_153 ?_
    refine mg_arr C 20 (by decide) (by decide) rfl mL_sizes rfl dX12_find_154 ?_
    refine mg_iload C 6 rfl dX12_find_157 ?_
    obtain ⟨hc_159, h⟩ := h
    refine mg_ialoadR C (n := 202) 20 (by decide) (by decide) rfl rfl hc_159 dX12_find_159 ?_
    refine mg_iload C 7 rfl dX12_find_160 ?_
    refine mg_isub C dX12_find_162 ?_
    refine mg_iconst C (x := nI 4) rfl dX12_find_163 ?_
    refine mg_icmp_ge C 180 (by decide) dX12_find_164 (fun c_ => ?_) (fun c_ => ?_)
    · have h := h.1 c_
      refine mg_iconst C (x := nI 4) rfl dX12_find_180 ?_
      exact mg_sub [1, 2, 3, 4, 5, 6, 7, 0] rfl (sb_find_181 C hR74 hR129 x2 x3 x4 x5 x6 x7 x8_12 ((nI 4)) x8_12 v f g h)
    · have h := h.2 c_
      refine mg_aload_n C (i := 0) rfl 1 rfl dX12_find_167 ?_
      refine mg_arr C 20 (by decide) (by decide) rfl mL_sizes rfl dX12_find_168 ?_
      refine mg_iload C 6 rfl dX12_find_171 ?_
      obtain ⟨hc_173, h⟩ := h
      refine mg_ialoadR C (n := 202) 20 (by decide) (by decide) rfl rfl hc_173 dX12_find_173 ?_
      refine mg_iload C 7 rfl dX12_find_174 ?_
      refine mg_isub C dX12_find_176 ?_
      refine mg_goto C 181 (by decide) dX12_find_177 ?_
      exact mg_sub [1, 2, 3, 4, 5, 6, 7, 0] rfl (sb_find_181 C hR74 hR129 x2 x3 x4 x5 x6 x7 x8_12 ((((f 20 (x6).toNatClampNeg)) - x7)) x8_12 v f g h)
set_option maxRecDepth 20000 in
theorem sl_find_129 (C : mC p s m args meth c cX12_find 12 (some .int) A D cI cJ cZ) {post : Int32 → mS → Prop} {R74 : Int32 → Int32 → Int32 → Int32 → (Nat → Int32) → (Nat → Nat → Int32) → (Nat → Nat → Int64) → Prop} (hR74 : ∀ (x2 : Int32) (x3 : Int32) (x4 : Int32) (x5 : Int32) (v : Nat → Int32) (f : Nat → Nat → Int32) (g : Nat → Nat → Int64), R74 x2 x3 x4 x5 v f g → mG p l e (mRm 7 182) s m args below meth c A D cI cJ cZ a 12 (MQ below (va_Qi post (mB D cI cJ cZ a) A) args s 0 0 A) 74 [(0, .ref (a 0)), (2, .int x2), (3, .int x3), (4, .int x4), (5, .int x5)] [] v f g) (x2 : Int32) (x3 : Int32) (x4 : Int32) (x5 : Int32) (x6 : Int32) (x7 : Int32) (v : Nat → Int32) (f : Nat → Nat → Int32) (g : Nat → Nat → Int64) (h : r_find_129L (fun r v f g => post r (v, f, g)) R74 x2 x3 x4 x5 x6 x7 v f g) : mG p l e (mRm 7 182) s m args below meth c A D cI cJ cZ a 12 (MQ below (va_Qi post (mB D cI cJ cZ a) A) args s 0 0 A) 129 [(0, .ref (a 0)), (2, .int x2), (3, .int x3), (4, .int x4), (5, .int x5), (6, .int x6), (7, .int x7)] [] v f g :=
  h (fun y => mG p l e (mRm 7 182) s m args below meth c A D cI cJ cZ a 12 (MQ below (va_Qi post (mB D cI cJ cZ a) A) args s 0 0 A) 129 [(0, .ref (a 0)), (2, .int (y.1)), (3, .int (y.2.1)), (4, .int (y.2.2.1)), (5, .int (y.2.2.2.1)), (6, .int (y.2.2.2.2.1)), (7, .int (y.2.2.2.2.2.1))] [] (y.2.2.2.2.2.2.1) (y.2.2.2.2.2.2.2.1) (y.2.2.2.2.2.2.2.2)) (fun y hy => sb_find_129 C hR74 (fun b0 b1 b2 b3 b4 b5 v f g z => z) (y.1) (y.2.1) (y.2.2.1) (y.2.2.2.1) (y.2.2.2.2.1) (y.2.2.2.2.2.1) (y.2.2.2.2.2.2.1) (y.2.2.2.2.2.2.2.1) (y.2.2.2.2.2.2.2.2) hy)
set_option maxRecDepth 20000 in
theorem sb_find_122 (C : mC p s m args meth c cX12_find 12 (some .int) A D cI cJ cZ) {post : Int32 → mS → Prop} {R74 : Int32 → Int32 → Int32 → Int32 → (Nat → Int32) → (Nat → Nat → Int32) → (Nat → Nat → Int64) → Prop} (hR74 : ∀ (x2 : Int32) (x3 : Int32) (x4 : Int32) (x5 : Int32) (v : Nat → Int32) (f : Nat → Nat → Int32) (g : Nat → Nat → Int64), R74 x2 x3 x4 x5 v f g → mG p l e (mRm 7 182) s m args below meth c A D cI cJ cZ a 12 (MQ below (va_Qi post (mB D cI cJ cZ a) A) args s 0 0 A) 74 [(0, .ref (a 0)), (2, .int x2), (3, .int x3), (4, .int x4), (5, .int x5)] [] v f g) (x2 : Int32) (x3 : Int32) (x4 : Int32) (x5 : Int32) (x6 : Int32) (t0 : Int32) (t1 : Int32) (v : Nat → Int32) (f : Nat → Nat → Int32) (g : Nat → Nat → Int64) (h : r_find_122 (fun r v f g => post r (v, f, g)) R74 x2 x3 x4 x5 x6 t0 t1 v f g) : mG p l e (mRm 7 182) s m args below meth c A D cI cJ cZ a 12 (MQ below (va_Qi post (mB D cI cJ cZ a) A) args s 0 0 A) 122 [(0, .ref (a 0)), (2, .int x2), (3, .int x3), (4, .int x4), (5, .int x5), (6, .int x6)] [.int t0, .int t1, .ref (a 0)] v f g := by
  unfold r_find_122 at h
  refine mg_iadd C dX12_find_122 ?_
  refine mg_put C (k := 90) (by decide) rfl mL_taken rfl (by decide +kernel) mT_taken rfl rfl dX12_find_123 ?_
  refine mg_nmV (fun v10 e_v10 => ?_)
  have h := h v10 e_v10
  refine mg_iconst C (x := nI 0) rfl dX12_find_126 ?_
  refine mg_istore C (lv' := [(7, .int ((nI 0))), (0, .ref (a 0)), (2, .int x2), (3, .int x3), (4, .int x4), (5, .int x5), (6, .int x6)]) (Nat.le_of_ble_eq_true rfl) rfl dX12_find_127 ?_
  exact mg_sub [1, 2, 3, 4, 5, 6, 0] rfl (sl_find_129 C hR74 x2 x3 x4 x5 x6 (((nI 0))) v10 f g h)
set_option maxRecDepth 20000 in
theorem sb_find_74 (C : mC p s m args meth c cX12_find 12 (some .int) A D cI cJ cZ) {post : Int32 → mS → Prop} {R74 : Int32 → Int32 → Int32 → Int32 → (Nat → Int32) → (Nat → Nat → Int32) → (Nat → Nat → Int64) → Prop} (hR74 : ∀ (x2 : Int32) (x3 : Int32) (x4 : Int32) (x5 : Int32) (v : Nat → Int32) (f : Nat → Nat → Int32) (g : Nat → Nat → Int64), R74 x2 x3 x4 x5 v f g → mG p l e (mRm 7 182) s m args below meth c A D cI cJ cZ a 12 (MQ below (va_Qi post (mB D cI cJ cZ a) A) args s 0 0 A) 74 [(0, .ref (a 0)), (2, .int x2), (3, .int x3), (4, .int x4), (5, .int x5)] [] v f g) (x2 : Int32) (x3 : Int32) (x4 : Int32) (x5 : Int32) (v : Nat → Int32) (f : Nat → Nat → Int32) (g : Nat → Nat → Int64) (h : r_find_74 (fun r v f g => post r (v, f, g)) R74 x2 x3 x4 x5 v f g) : mG p l e (mRm 7 182) s m args below meth c A D cI cJ cZ a 12 (MQ below (va_Qi post (mB D cI cJ cZ a) A) args s 0 0 A) 74 [(0, .ref (a 0)), (2, .int x2), (3, .int x3), (4, .int x4), (5, .int x5)] [] v f g := by
  unfold r_find_74 at h
  refine mg_iload C 4 rfl dX12_find_74 ?_
  refine mg_aload_n C (i := 0) rfl 0 rfl dX12_find_76 ?_
  refine mg_arr C 31 (by decide) (by decide) rfl mL_lookedMany rfl dX12_find_77 ?_
  refine mg_iload C 3 rfl dX12_find_80 ?_
  obtain ⟨hc_82, h⟩ := h
  refine mg_ialoadR C (n := 5) 31 (by decide) (by decide) rfl rfl hc_82 dX12_find_82 ?_
  refine mg_icmp_ge C 312 (by decide) dX12_find_83 (fun c_ => ?_) (fun c_ => ?_)
  · have h := h.1 c_
    refine mg_aload_n C (i := 0) rfl 0 rfl dX12_find_312 ?_
    refine mg_getI C (k := 88) (by decide) rfl mL_hits rfl dX12_find_313 ?_
    exact mg_iret C h dX12_find_316
  · have h := h.2 c_
    refine mg_aload_n C (i := 0) rfl 0 rfl dX12_find_86 ?_
    refine mg_arr C 30 (by decide) (by decide) rfl mL_looked rfl dX12_find_87 ?_
    refine mg_sipush C (x := nI 202) rfl dX12_find_90 ?_
    refine mg_iload C 3 rfl dX12_find_93 ?_
    refine mg_imul C dX12_find_95 ?_
    refine mg_iload C 4 rfl dX12_find_96 ?_
    refine mg_iadd C dX12_find_98 ?_
    obtain ⟨hc_99, h⟩ := h
    refine mg_ialoadR C (n := 1010) 30 (by decide) (by decide) rfl rfl hc_99 dX12_find_99 ?_
    refine mg_nmI (fun x6_8 e_x6_8 => ?_)
    have h := h x6_8 e_x6_8
    refine mg_istore C (lv' := [(6, .int x6_8), (0, .ref (a 0)), (2, .int x2), (3, .int x3), (4, .int x4), (5, .int x5)]) (Nat.le_of_ble_eq_true rfl) rfl dX12_find_100 ?_
    refine mg_aload_n C (i := 0) rfl 1 rfl dX12_find_102 ?_
    refine mg_dup C rfl dX12_find_103 ?_
    refine mg_getI C (k := 90) (by decide) rfl mL_taken rfl dX12_find_104 ?_
    refine mg_aload_n C (i := 0) rfl 1 rfl dX12_find_107 ?_
    refine mg_iload_n C (i := 2) rfl 2 rfl dX12_find_108 ?_
    refine mg_iload C 0 rfl dX12_find_109 ?_
    refine mg_calliW C (s_takes l x2 x6_8 v f g h) mCal_takes rfl ⟨by decide, by decide⟩ rfl (Nat.le_of_ble_eq_true rfl) dX12_find_111 (fun r_9 v_9 f_9 g_9 h => ?_)
    refine mg_if_eq C 121 (by decide) dX12_find_114 (fun c_ => ?_) (fun c_ => ?_)
    · have h := h.1 c_
      refine mg_iconst C (x := nI 0) rfl dX12_find_121 ?_
      exact mg_sub [1, 2, 3, 4, 5, 0] rfl (sb_find_122 C hR74 x2 x3 x4 x5 x6_8 ((nI 0)) ((v 90)) v_9 f_9 g_9 h)
    · have h := h.2 c_
      refine mg_iconst C (x := nI 1) rfl dX12_find_117 ?_
      refine mg_goto C 122 (by decide) dX12_find_118 ?_
      exact mg_sub [1, 2, 3, 4, 5, 0] rfl (sb_find_122 C hR74 x2 x3 x4 x5 x6_8 ((nI 1)) ((v 90)) v_9 f_9 g_9 h)
set_option maxRecDepth 20000 in
theorem sl_find_74 (C : mC p s m args meth c cX12_find 12 (some .int) A D cI cJ cZ) {post : Int32 → mS → Prop}   (x2 : Int32) (x3 : Int32) (x4 : Int32) (x5 : Int32) (v : Nat → Int32) (f : Nat → Nat → Int32) (g : Nat → Nat → Int64) (h : r_find_74L (fun r v f g => post r (v, f, g))  x2 x3 x4 x5 v f g) : mG p l e (mRm 7 182) s m args below meth c A D cI cJ cZ a 12 (MQ below (va_Qi post (mB D cI cJ cZ a) A) args s 0 0 A) 74 [(0, .ref (a 0)), (2, .int x2), (3, .int x3), (4, .int x4), (5, .int x5)] [] v f g :=
  h (fun y => mG p l e (mRm 7 182) s m args below meth c A D cI cJ cZ a 12 (MQ below (va_Qi post (mB D cI cJ cZ a) A) args s 0 0 A) 74 [(0, .ref (a 0)), (2, .int (y.1)), (3, .int (y.2.1)), (4, .int (y.2.2.1)), (5, .int (y.2.2.2.1))] [] (y.2.2.2.2.1) (y.2.2.2.2.2.1) (y.2.2.2.2.2.2)) (fun y hy => sb_find_74 C  (fun b0 b1 b2 b3 v f g z => z) (y.1) (y.2.1) (y.2.2.1) (y.2.2.2.1) (y.2.2.2.2.1) (y.2.2.2.2.2.1) (y.2.2.2.2.2.2) hy)
set_option maxRecDepth 20000 in
theorem sb_find_33 (C : mC p s m args meth c cX12_find 12 (some .int) A D cI cJ cZ) {post : Int32 → mS → Prop}   (x2 : Int32) (x3 : Int32) (x4 : Int32) (t0 : Int32) (v : Nat → Int32) (f : Nat → Nat → Int32) (g : Nat → Nat → Int64) (h : r_find_33 (fun r v f g => post r (v, f, g))  x2 x3 x4 t0 v f g) : mG p l e (mRm 7 182) s m args below meth c A D cI cJ cZ a 12 (MQ below (va_Qi post (mB D cI cJ cZ a) A) args s 0 0 A) 33 [(0, .ref (a 0)), (2, .int x2), (3, .int x3), (4, .int x4)] [.int t0, .ref (a 0)] v f g := by
  unfold r_find_33 at h
  refine mg_iload_n C (i := 3) rfl 2 rfl dX12_find_33 ?_
  refine mg_iconst C (x := nI 1) rfl dX12_find_34 ?_
  refine mg_bipush C (x := nI 20) rfl dX12_find_35 ?_
  refine mg_callsiW C (s_in l x3 ((nI 1)) ((nI 20)) v f g h) mCal_in rfl ⟨by decide, by decide⟩ rfl (Nat.le_of_ble_eq_true rfl) dX12_find_37 (fun r_2 v_2 f_2 g_2 h => ?_)
  refine mg_iconst C (x := nI 1) rfl dX12_find_40 ?_
  refine mg_calliW C (s_goes l t0 r_2 ((nI 1)) v_2 f_2 g_2 h) mCal_goes rfl ⟨by decide, by decide⟩ rfl (Nat.le_of_ble_eq_true rfl) dX12_find_41 (fun r_3 v_3 f_3 g_3 h => ?_)
  refine mg_if_ne C 49 (by decide) dX12_find_44 (fun c_ => ?_) (fun c_ => ?_)
  · have h := h.1 c_
    refine mg_aload_n C (i := 0) rfl 0 rfl dX12_find_49 ?_
    refine mg_iload C 3 rfl dX12_find_50 ?_
    refine mg_iload_n C (i := 2) rfl 1 rfl dX12_find_52 ?_
    refine mg_callvW C (s_readies l x4 x2 v_3 f_3 g_3 h) mCal_readies rfl ⟨by decide, by decide⟩ rfl (Nat.le_of_ble_eq_true rfl) dX12_find_53 (fun v_4 f_4 g_4 h => ?_)
    refine mg_aload_n C (i := 0) rfl 0 rfl dX12_find_56 ?_
    refine mg_iconst C (x := nI 0) rfl dX12_find_57 ?_
    refine mg_put C (k := 88) (by decide) rfl mL_hits rfl (by decide +kernel) mT_hits rfl rfl dX12_find_58 ?_
    refine mg_nmV (fun v5 e_v5 => ?_)
    have h := h v5 e_v5
    refine mg_aload_n C (i := 0) rfl 0 rfl dX12_find_61 ?_
    refine mg_iconst C (x := nI 0) rfl dX12_find_62 ?_
    refine mg_put C (k := 89) (by decide) rfl mL_skips rfl (by decide +kernel) mT_skips rfl rfl dX12_find_63 ?_
    refine mg_nmV (fun v6 e_v6 => ?_)
    have h := h v6 e_v6
    refine mg_aload_n C (i := 0) rfl 0 rfl dX12_find_66 ?_
    refine mg_iconst C (x := nI 0) rfl dX12_find_67 ?_
    refine mg_put C (k := 90) (by decide) rfl mL_taken rfl (by decide +kernel) mT_taken rfl rfl dX12_find_68 ?_
    refine mg_nmV (fun v7 e_v7 => ?_)
    have h := h v7 e_v7
    refine mg_iconst C (x := nI 0) rfl dX12_find_71 ?_
    refine mg_istore C (lv' := [(5, .int ((nI 0))), (0, .ref (a 0)), (2, .int x2), (3, .int x3), (4, .int x4)]) (Nat.le_of_ble_eq_true rfl) rfl dX12_find_72 ?_
    exact mg_sub [1, 2, 3, 4, 0] rfl (sl_find_74 C  x2 x3 x4 (((nI 0))) v7 f_4 g_4 h)
  · have h := h.2 c_
    refine mg_iconst C (x := nI 0) rfl dX12_find_47 ?_
    exact mg_iret C h dX12_find_48
set_option maxRecDepth 20000 in
theorem sb_find_32 (C : mC p s m args meth c cX12_find 12 (some .int) A D cI cJ cZ) {post : Int32 → mS → Prop}   (x2 : Int32) (x3 : Int32) (x4 : Int32) (v : Nat → Int32) (f : Nat → Nat → Int32) (g : Nat → Nat → Int64) (h : r_find_32 (fun r v f g => post r (v, f, g))  x2 x3 x4 v f g) : mG p l e (mRm 7 182) s m args below meth c A D cI cJ cZ a 12 (MQ below (va_Qi post (mB D cI cJ cZ a) A) args s 0 0 A) 32 [(0, .ref (a 0)), (2, .int x2), (3, .int x3), (4, .int x4)] [.ref (a 0)] v f g := by
  unfold r_find_32 at h
  refine mg_iconst C (x := nI 0) rfl dX12_find_32 ?_
  exact mg_sub [0, 1, 2, 3] rfl (sb_find_33 C  x2 x3 x4 ((nI 0)) v f g h)
end S_find
set_option maxHeartbeats 1000000 in
set_option maxRecDepth 20000 in
theorem s_find (l : Launch) (x1 : Int32) (x2 : Int32) (x3 : Int32) (v : Nat → Int32) (f : Nat → Nat → Int32) (g : Nat → Nat → Int64) {P : Int32 → (Nat → Int32) → (Nat → Nat → Int32) → (Nat → Nat → Int64) → Prop} (h : r_find P x1 x2 x3 v f g) : mMi l yX12_find cX12_find 12 (some .int) 7 182 false [.int x1, .int x2, .int x3] v f g (fun r w => P r w.1 w.2.1 w.2.2) := by
  intro D cI cJ cZ a sz
  refine mg_body (by decide +kernel) rfl (Nat.le_of_ble_eq_true rfl) ?_
  intro p e s m args below meth c hsz C
  clear hsz
  generalize va_A (mW cI cJ cZ a v f g) sz = A at C ⊢
  refine mg_lv (lv' := [(0, .ref (a 0)), (1, .int x1), (2, .int x2), (3, .int x3)]) rfl ?_
  unfold r_find at h
  refine mg_aload_n C (i := 0) rfl 0 rfl dX12_find_0 ?_
  refine mg_iload_n C (i := 1) rfl 1 rfl dX12_find_1 ?_
  refine mg_calliW C (s_slotOf l x1 v f g h) mCal_slotOf rfl ⟨by decide, by decide⟩ rfl (Nat.le_of_ble_eq_true rfl) dX12_find_2 (fun r_1 v_1 f_1 g_1 h => ?_)
  refine mg_istore C (lv' := [(4, .int r_1), (0, .ref (a 0)), (1, .int x1), (2, .int x2), (3, .int x3)]) (Nat.le_of_ble_eq_true rfl) rfl dX12_find_5 ?_
  refine mg_aload_n C (i := 0) rfl 1 rfl dX12_find_7 ?_
  refine mg_iload C 0 rfl dX12_find_8 ?_
  refine mg_iconst C (x := (-1)) rfl dX12_find_10 ?_
  refine mg_icmp_eq C 32 (by decide) dX12_find_11 (fun c_ => ?_) (fun c_ => ?_)
  · have h := h.1 c_
    exact mg_sub [1, 3, 4, 0] rfl (sb_find_32 C  x2 x3 r_1 v_1 f_1 g_1 h)
  · have h := h.2 c_
    refine mg_iload_n C (i := 2) rfl 3 rfl dX12_find_14 ?_
    refine mg_iconst C (x := nI 0) rfl dX12_find_15 ?_
    refine mg_aload_n C (i := 0) rfl 1 rfl dX12_find_16 ?_
    refine mg_getI C (k := 73) (by decide) rfl mL_queries rfl dX12_find_17 ?_
    refine mg_iconst C (x := nI 1) rfl dX12_find_20 ?_
    refine mg_isub C dX12_find_21 ?_
    refine mg_callsiW C (s_in l x2 ((nI 0)) ((((v_1 73)) - ((nI 1)))) v_1 f_1 g_1 h) mCal_in rfl ⟨by decide, by decide⟩ rfl (Nat.le_of_ble_eq_true rfl) dX12_find_22 (fun r_20 v_20 f_20 g_20 h => ?_)
    refine mg_if_eq C 32 (by decide) dX12_find_25 (fun c_ => ?_) (fun c_ => ?_)
    · have h := h.1 c_
      exact mg_sub [1, 3, 4, 0] rfl (sb_find_32 C  x2 x3 r_1 v_20 f_20 g_20 h)
    · have h := h.2 c_
      refine mg_iconst C (x := nI 1) rfl dX12_find_28 ?_
      refine mg_goto C 33 (by decide) dX12_find_29 ?_
      exact mg_sub [1, 3, 4, 0] rfl (sb_find_33 C  x2 x3 r_1 ((nI 1)) v_20 f_20 g_20 h)
