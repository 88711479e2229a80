/-! the reference's methods as predicates, and their contracts -/
def r_thrown (Q : Int32 → (Nat → Int32) → (Nat → Nat → Int32) → (Nat → Nat → Int64) → Prop)  (v : Nat → Int32) (f : Nat → Nat → Int32) (g : Nat → Nat → Int64) : Prop :=
Q ((v 99)) v f g
set_option maxHeartbeats 1000000 in
set_option maxRecDepth 20000 in
theorem s_thrown (l : Launch)  (v : Nat → Int32) (f : Nat → Nat → Int32) (g : Nat → Nat → Int64) {P : Int32 → (Nat → Int32) → (Nat → Nat → Int32) → (Nat → Nat → Int64) → Prop} (h : r_thrown P  v f g) : mMi l yX12_thrown cX12_thrown 1 (some .int) 0 0 false [] v f g (fun r w => P r w.1 w.2.1 w.2.2) := by
  intro D cI cJ cZ a sz
  refine mg_body (by decide +kernel) rfl (Nat.le_of_ble_eq_true rfl) ?_
  intro p e s m args below meth c hsz C
  clear hsz
  generalize va_A (mW cI cJ cZ a v f g) sz = A at C ⊢
  refine mg_lv (lv' := [(0, .ref (a 0))]) rfl ?_
  unfold r_thrown at h
  refine mg_aload_n C (i := 0) rfl 0 rfl dX12_thrown_0 ?_
  refine mg_getI C (k := 99) (by decide) rfl mL_last rfl dX12_thrown_1 ?_
  exact mg_iret C h dX12_thrown_4
def r_in (Q : Int32 → (Nat → Int32) → (Nat → Nat → Int32) → (Nat → Nat → Int64) → Prop) (x0 : Int32) (x1 : Int32) (x2 : Int32) (v : Nat → Int32) (f : Nat → Nat → Int32) (g : Nat → Nat → Int64) : Prop :=
((x0 < x1 →
  Q ((bI false)) v f g) ∧
 (¬ x0 < x1 →
  ((x2 < x0 →
    Q ((bI false)) v f g) ∧
   (¬ x2 < x0 →
    Q ((bI true)) v f g))))
set_option maxHeartbeats 1000000 in
set_option maxRecDepth 20000 in
theorem s_in (l : Launch) (x0 : Int32) (x1 : Int32) (x2 : Int32) (v : Nat → Int32) (f : Nat → Nat → Int32) (g : Nat → Nat → Int64) {P : Int32 → (Nat → Int32) → (Nat → Nat → Int32) → (Nat → Nat → Int64) → Prop} (h : r_in P x0 x1 x2 v f g) : mMi l yX12_in cX12_in 3 (some .boolean) 0 0 true [.int x0, .int x1, .int x2] v f g (fun r w => P r w.1 w.2.1 w.2.2) := by
  intro D cI cJ cZ a sz
  refine mg_body (by decide +kernel) rfl (Nat.le_of_ble_eq_true rfl) ?_
  intro p e s m args below meth c hsz C
  clear hsz
  generalize va_A (mW cI cJ cZ a v f g) sz = A at C ⊢
  refine mg_lv (lv' := [(0, .int x0), (1, .int x1), (2, .int x2)]) rfl ?_
  unfold r_in at h
  refine mg_iload_n C (i := 0) rfl 0 rfl dX12_in_0 ?_
  refine mg_iload_n C (i := 1) rfl 1 rfl dX12_in_1 ?_
  refine mg_icmp_lt C 14 (by decide) dX12_in_2 (fun c_ => ?_) (fun c_ => ?_)
  · have h := h.1 c_
    refine mg_iconst C (x := nI 0) rfl dX12_in_14 ?_
    refine mg_cast (bI false) rfl ?_
    exact mg_zret C (bI_nar _) h dX12_in_15
  · have h := h.2 c_
    refine mg_iload_n C (i := 0) rfl 0 rfl dX12_in_5 ?_
    refine mg_iload_n C (i := 2) rfl 2 rfl dX12_in_6 ?_
    refine mg_icmp_gt C 14 (by decide) dX12_in_7 (fun c_ => ?_) (fun c_ => ?_)
    · have h := h.1 c_
      refine mg_iconst C (x := nI 0) rfl dX12_in_14 ?_
      refine mg_cast (bI false) rfl ?_
      exact mg_zret C (bI_nar _) h dX12_in_15
    · have h := h.2 c_
      refine mg_iconst C (x := nI 1) rfl dX12_in_10 ?_
      refine mg_goto C 15 (by decide) dX12_in_11 ?_
      refine mg_cast (bI true) rfl ?_
      exact mg_zret C (bI_nar _) h dX12_in_15
def r_goes_26 (Q : Int32 → (Nat → Int32) → (Nat → Nat → Int32) → (Nat → Nat → Int64) → Prop)  (t0 : Int32) (v : Nat → Int32) (f : Nat → Nat → Int32) (g : Nat → Nat → Int64) : Prop :=
∀ v1 : Nat → Int32, v1 = upd v 99 t0 → ((¬ ((v1 99)) = 0 →
  Q ((bI false)) v1 f g) ∧
 (((v1 99)) = 0 →
  Q ((bI true)) v1 f g))
def r_goes (Q : Int32 → (Nat → Int32) → (Nat → Nat → Int32) → (Nat → Nat → Int64) → Prop) (x1 : Int32) (x2 : Int32) (x3 : Int32) (v : Nat → Int32) (f : Nat → Nat → Int32) (g : Nat → Nat → Int64) : Prop :=
((¬ x1 = 0 →
  ((¬ x2 = 0 →
    ((x3 = 0 →
      r_goes_26 Q  ((nI 3)) v f g) ∧
     (¬ x3 = 0 →
      r_goes_26 Q  ((nI 0)) v f g))) ∧
   (x2 = 0 →
    r_goes_26 Q  ((nI 2)) v f g))) ∧
 (x1 = 0 →
  r_goes_26 Q  ((nI 1)) v f g))
section S_goes
variable {p : Program} {l : Launch} {e : Env} {s : State} {m : MethodId} {args : Array Value} {below : List Frame} {meth : Method} {c : Code} {A : Nat → Prop} {D : va_G} {cI cJ cZ : ClassId} {a : Nat → Nat}
set_option maxRecDepth 20000 in
theorem sb_goes_26 (C : mC p s m args meth c cX12_goes 4 (some .boolean) A D cI cJ cZ) {post : Int32 → mS → Prop}   (t0 : Int32) (v : Nat → Int32) (f : Nat → Nat → Int32) (g : Nat → Nat → Int64) (h : r_goes_26 (fun r v f g => post r (v, f, g))  t0 v f g) : mG p l e (mRm 0 0) s m args below meth c A D cI cJ cZ a 4 (MQ below (va_Qi post (mB D cI cJ cZ a) A) args s 0 0 A) 26 [(0, .ref (a 0))] [.int t0, .ref (a 0)] v f g := by
  unfold r_goes_26 at h
  refine mg_put C (k := 99) (by decide) rfl mL_last rfl (by decide +kernel) mT_last rfl rfl dX12_goes_26 ?_
  refine mg_nmV (fun v1 e_v1 => ?_)
  have h := h v1 e_v1
  refine mg_aload_n C (i := 0) rfl 0 rfl dX12_goes_29 ?_
  refine mg_getI C (k := 99) (by decide) rfl mL_last rfl dX12_goes_30 ?_
  refine mg_if_ne C 40 (by decide) dX12_goes_33 (fun c_ => ?_) (fun c_ => ?_)
  · have h := h.1 c_
    refine mg_iconst C (x := nI 0) rfl dX12_goes_40 ?_
    refine mg_cast (bI false) rfl ?_
    exact mg_zret C (bI_nar _) h dX12_goes_41
  · have h := h.2 c_
    refine mg_iconst C (x := nI 1) rfl dX12_goes_36 ?_
    refine mg_goto C 41 (by decide) dX12_goes_37 ?_
    refine mg_cast (bI true) rfl ?_
    exact mg_zret C (bI_nar _) h dX12_goes_41
end S_goes
set_option maxHeartbeats 1000000 in
set_option maxRecDepth 20000 in
theorem s_goes (l : Launch) (x1 : Int32) (x2 : Int32) (x3 : Int32) (v : Nat → Int32) (f : Nat → Nat → Int32) (g : Nat → Nat → Int64) {P : Int32 → (Nat → Int32) → (Nat → Nat → Int32) → (Nat → Nat → Int64) → Prop} (h : r_goes P x1 x2 x3 v f g) : mMi l yX12_goes cX12_goes 4 (some .boolean) 0 0 false [.int x1, .int x2, .int x3] v f g (fun r w => P r w.1 w.2.1 w.2.2) := by
  intro D cI cJ cZ a sz
  refine mg_body (by decide +kernel) rfl (Nat.le_of_ble_eq_true rfl) ?_
  intro p e s m args below meth c hsz C
  clear hsz
  generalize va_A (mW cI cJ cZ a v f g) sz = A at C ⊢
  refine mg_lv (lv' := [(0, .ref (a 0)), (1, .int x1), (2, .int x2), (3, .int x3)]) rfl ?_
  unfold r_goes at h
  refine mg_aload_n C (i := 0) rfl 0 rfl dX12_goes_0 ?_
  refine mg_iload_n C (i := 1) rfl 1 rfl dX12_goes_1 ?_
  refine mg_if_ne C 9 (by decide) dX12_goes_2 (fun c_ => ?_) (fun c_ => ?_)
  · have h := h.1 c_
    refine mg_iload_n C (i := 2) rfl 2 rfl dX12_goes_9 ?_
    refine mg_if_ne C 17 (by decide) dX12_goes_10 (fun c_ => ?_) (fun c_ => ?_)
    · have h := h.1 c_
      refine mg_iload_n C (i := 3) rfl 3 rfl dX12_goes_17 ?_
      refine mg_if_eq C 25 (by decide) dX12_goes_18 (fun c_ => ?_) (fun c_ => ?_)
      · have h := h.1 c_
        refine mg_iconst C (x := nI 3) rfl dX12_goes_25 ?_
        exact mg_sub [0] rfl (sb_goes_26 C  ((nI 3)) v f g h)
      · have h := h.2 c_
        refine mg_iconst C (x := nI 0) rfl dX12_goes_21 ?_
        refine mg_goto C 26 (by decide) dX12_goes_22 ?_
        exact mg_sub [0] rfl (sb_goes_26 C  ((nI 0)) v f g h)
    · have h := h.2 c_
      refine mg_iconst C (x := nI 2) rfl dX12_goes_13 ?_
      refine mg_goto C 26 (by decide) dX12_goes_14 ?_
      exact mg_sub [0] rfl (sb_goes_26 C  ((nI 2)) v f g h)
  · have h := h.2 c_
    refine mg_iconst C (x := nI 1) rfl dX12_goes_5 ?_
    refine mg_goto C 26 (by decide) dX12_goes_6 ?_
    exact mg_sub [0] rfl (sb_goes_26 C  ((nI 1)) v f g h)
def r_figure (Q : Int32 → (Nat → Int32) → (Nat → Nat → Int32) → (Nat → Nat → Int64) → Prop) (x0 : Int32) (v : Nat → Int32) (f : Nat → Nat → Int32) (g : Nat → Nat → Int64) : Prop :=
r_in (fun r_1 v_1 f_1 g_1 => 
((r_1 = 0 →
  r_in (fun r_2 v_2 f_2 g_2 => 
  ((r_2 = 0 →
    r_in (fun r_3 v_3 f_3 g_3 => 
    ((r_3 = 0 →
      Q ((nI 0)) v_3 f_3 g_3) ∧
     (¬ r_3 = 0 →
      Q ((((x0 - ((nI 65)))) + ((nI 11)))) v_3 f_3 g_3))) x0 ((nI 65)) ((nI 90)) v_2 f_2 g_2) ∧
   (¬ r_2 = 0 →
    Q ((((x0 - ((nI 97)))) + ((nI 11)))) v_2 f_2 g_2))) x0 ((nI 97)) ((nI 122)) v_1 f_1 g_1) ∧
 (¬ r_1 = 0 →
  Q ((((x0 - ((nI 48)))) + ((nI 1)))) v_1 f_1 g_1))) x0 ((nI 48)) ((nI 57)) v f g
set_option maxHeartbeats 1000000 in
set_option maxRecDepth 20000 in
theorem s_figure (l : Launch) (x0 : Int32) (v : Nat → Int32) (f : Nat → Nat → Int32) (g : Nat → Nat → Int64) {P : Int32 → (Nat → Int32) → (Nat → Nat → Int32) → (Nat → Nat → Int64) → Prop} (h : r_figure P x0 v f g) : mMi l yX12_figure cX12_figure 1 (some .int) 1 22 true [.int x0] v f g (fun r w => P r w.1 w.2.1 w.2.2) := by
  intro D cI cJ cZ a sz
  refine mg_body (by decide +kernel) rfl (Nat.le_of_ble_eq_true rfl) ?_
  intro p e s m args below meth c hsz C
  clear hsz
  generalize va_A (mW cI cJ cZ a v f g) sz = A at C ⊢
  refine mg_lv (lv' := [(0, .int x0)]) rfl ?_
  unfold r_figure at h
  refine mg_iload_n C (i := 0) rfl 0 rfl dX12_figure_0 ?_
  refine mg_bipush C (x := nI 48) rfl dX12_figure_1 ?_
  refine mg_bipush C (x := nI 57) rfl dX12_figure_3 ?_
  refine mg_callsiW C (s_in l x0 ((nI 48)) ((nI 57)) v f g h) mCal_in rfl ⟨by decide, by decide⟩ rfl (Nat.le_of_ble_eq_true rfl) dX12_figure_5 (fun r_1 v_1 f_1 g_1 h => ?_)
  refine mg_if_eq C 20 (by decide) dX12_figure_8 (fun c_ => ?_) (fun c_ => ?_)
  · have h := h.1 c_
    refine mg_iload_n C (i := 0) rfl 0 rfl dX12_figure_20 ?_
    refine mg_bipush C (x := nI 97) rfl dX12_figure_21 ?_
    refine mg_bipush C (x := nI 122) rfl dX12_figure_23 ?_
    refine mg_callsiW C (s_in l x0 ((nI 97)) ((nI 122)) v_1 f_1 g_1 h) mCal_in rfl ⟨by decide, by decide⟩ rfl (Nat.le_of_ble_eq_true rfl) dX12_figure_25 (fun r_2 v_2 f_2 g_2 h => ?_)
    refine mg_if_eq C 41 (by decide) dX12_figure_28 (fun c_ => ?_) (fun c_ => ?_)
    · have h := h.1 c_
      refine mg_iload_n C (i := 0) rfl 0 rfl dX12_figure_41 ?_
      refine mg_bipush C (x := nI 65) rfl dX12_figure_42 ?_
      refine mg_bipush C (x := nI 90) rfl dX12_figure_44 ?_
      refine mg_callsiW C (s_in l x0 ((nI 65)) ((nI 90)) v_2 f_2 g_2 h) mCal_in rfl ⟨by decide, by decide⟩ rfl (Nat.le_of_ble_eq_true rfl) dX12_figure_46 (fun r_3 v_3 f_3 g_3 h => ?_)
      refine mg_if_eq C 62 (by decide) dX12_figure_49 (fun c_ => ?_) (fun c_ => ?_)
      · have h := h.1 c_
        refine mg_iconst C (x := nI 0) rfl dX12_figure_62 ?_
        exact mg_iret C h dX12_figure_63
      · have h := h.2 c_
        refine mg_iload_n C (i := 0) rfl 0 rfl dX12_figure_52 ?_
        refine mg_bipush C (x := nI 65) rfl dX12_figure_53 ?_
        refine mg_isub C dX12_figure_55 ?_
        refine mg_bipush C (x := nI 11) rfl dX12_figure_56 ?_
        refine mg_iadd C dX12_figure_58 ?_
        refine mg_goto C 63 (by decide) dX12_figure_59 ?_
        exact mg_iret C h dX12_figure_63
    · have h := h.2 c_
      refine mg_iload_n C (i := 0) rfl 0 rfl dX12_figure_31 ?_
      refine mg_bipush C (x := nI 97) rfl dX12_figure_32 ?_
      refine mg_isub C dX12_figure_34 ?_
      refine mg_bipush C (x := nI 11) rfl dX12_figure_35 ?_
      refine mg_iadd C dX12_figure_37 ?_
      refine mg_goto C 63 (by decide) dX12_figure_38 ?_
      exact mg_iret C h dX12_figure_63
  · have h := h.2 c_
    refine mg_iload_n C (i := 0) rfl 0 rfl dX12_figure_11 ?_
    refine mg_bipush C (x := nI 48) rfl dX12_figure_12 ?_
    refine mg_isub C dX12_figure_14 ?_
    refine mg_iconst C (x := nI 1) rfl dX12_figure_15 ?_
    refine mg_iadd C dX12_figure_16 ?_
    refine mg_goto C 63 (by decide) dX12_figure_17 ?_
    exact mg_iret C h dX12_figure_63
def r_at (Q : Int32 → (Nat → Int32) → (Nat → Nat → Int32) → (Nat → Nat → Int64) → Prop) (x1 : Int64) (x3 : Int32) (v : Nat → Int32) (f : Nat → Nat → Int32) (g : Nat → Nat → Int64) : Prop :=
vp_in x3 12 ∧ (¬ g 1 (x3).toNatClampNeg = 0 ∧ (Q ((((x1 / (g 1 (x3).toNatClampNeg)) - (x1 / (g 1 (x3).toNatClampNeg)) / 37 * 37).toInt32)) v f g))
set_option maxHeartbeats 1000000 in
set_option maxRecDepth 20000 in
theorem s_at (l : Launch) (x1 : Int64) (x3 : Int32) (v : Nat → Int32) (f : Nat → Nat → Int32) (g : Nat → Nat → Int64) {P : Int32 → (Nat → Int32) → (Nat → Nat → Int32) → (Nat → Nat → Int64) → Prop} (h : r_at P x1 x3 v f g) : mMi l yX12_at cX12_at 4 (some .int) 0 0 false [.long x1, .int x3] v f g (fun r w => P r w.1 w.2.1 w.2.2) := by
  intro D cI cJ cZ a sz
  refine mg_body (by decide +kernel) rfl (Nat.le_of_ble_eq_true rfl) ?_
  intro p e s m args below meth c hsz C
  clear hsz
  generalize va_A (mW cI cJ cZ a v f g) sz = A at C ⊢
  refine mg_lv (lv' := [(0, .ref (a 0)), (1, .long x1), (3, .int x3)]) rfl ?_
  unfold r_at at h
  refine mg_lload_n C (i := 1) rfl 1 rfl dX12_at_0 ?_
  refine mg_aload_n C (i := 0) rfl 0 rfl dX12_at_1 ?_
  refine mg_arr C 1 (by decide) (by decide) rfl mL_powers rfl dX12_at_2 ?_
  refine mg_iload_n C (i := 3) rfl 2 rfl dX12_at_5 ?_
  obtain ⟨hc_6, h⟩ := h
  refine mg_laloadR C (n := 12) 1 (by decide) (by decide) rfl rfl hc_6 dX12_at_6 ?_
  obtain ⟨hc_7, h⟩ := h
  refine mg_ldiv C hc_7 dX12_at_7 ?_
  refine mg_ldc2 C (x := 37) mK_37 dX12_at_8 ?_
  refine mg_lrem C (by decide) dX12_at_11 ?_
  refine mg_l2i C dX12_at_12 ?_
  exact mg_iret C h dX12_at_13
def r_length_2 (Q : Int32 → (Nat → Int32) → (Nat → Nat → Int32) → (Nat → Nat → Int64) → Prop) (R2 : Int64 → Int32 → (Nat → Int32) → (Nat → Nat → Int32) → (Nat → Nat → Int64) → Prop) (x1 : Int64) (x3 : Int32) (v : Nat → Int32) (f : Nat → Nat → Int32) (g : Nat → Nat → Int64) : Prop :=
((((nI 12)) ≤ x3 →
  Q x3 v f g) ∧
 (¬ ((nI 12)) ≤ x3 →
  r_at (fun r_1 v_1 f_1 g_1 => 
  ((r_1 ≤ 0 →
    Q x3 v_1 f_1 g_1) ∧
   (¬ r_1 ≤ 0 →
    ∀ x3_2 : Int32, x3_2 = x3 + nI 1 → R2 x1 x3_2 v_1 f_1 g_1))) x1 x3 v f g))
def r_length_2L (Q : Int32 → (Nat → Int32) → (Nat → Nat → Int32) → (Nat → Nat → Int64) → Prop)  (x1 : Int64) (x3 : Int32) (v : Nat → Int32) (f : Nat → Nat → Int32) (g : Nat → Nat → Int64) : Prop :=
  lfp (X := Int64 × Int32 × (Nat → Int32) × (Nat → Nat → Int32) × (Nat → Nat → Int64)) (fun P y => r_length_2 Q  (fun b0 b1 v f g => P (b0, b1, v, f, g)) y.1 y.2.1 y.2.2.1 y.2.2.2.1 y.2.2.2.2) (x1, x3, v, f, g)
def r_length (Q : Int32 → (Nat → Int32) → (Nat → Nat → Int32) → (Nat → Nat → Int64) → Prop) (x1 : Int64) (v : Nat → Int32) (f : Nat → Nat → Int32) (g : Nat → Nat → Int64) : Prop :=
r_length_2L Q  x1 (((nI 0))) v f g
section S_length
variable {p : Program} {l : Launch} {e : Env} {s : State} {m : MethodId} {args : Array Value} {below : List Frame} {meth : Method} {c : Code} {A : Nat → Prop} {D : va_G} {cI cJ cZ : ClassId} {a : Nat → Nat}
set_option maxRecDepth 20000 in
theorem sb_length_2 (C : mC p s m args meth c cX12_length 4 (some .int) A D cI cJ cZ) {post : Int32 → mS → Prop} {R2 : Int64 → Int32 → (Nat → Int32) → (Nat → Nat → Int32) → (Nat → Nat → Int64) → Prop} (hR2 : ∀ (x1 : Int64) (x3 : Int32) (v : Nat → Int32) (f : Nat → Nat → Int32) (g : Nat → Nat → Int64), R2 x1 x3 v f g → mG p l e (mRm 1 23) s m args below meth c A D cI cJ cZ a 4 (MQ below (va_Qi post (mB D cI cJ cZ a) A) args s 0 0 A) 2 [(0, .ref (a 0)), (1, .long x1), (3, .int x3)] [] v f g) (x1 : Int64) (x3 : Int32) (v : Nat → Int32) (f : Nat → Nat → Int32) (g : Nat → Nat → Int64) (h : r_length_2 (fun r v f g => post r (v, f, g)) R2 x1 x3 v f g) : mG p l e (mRm 1 23) s m args below meth c A D cI cJ cZ a 4 (MQ below (va_Qi post (mB D cI cJ cZ a) A) args s 0 0 A) 2 [(0, .ref (a 0)), (1, .long x1), (3, .int x3)] [] v f g := by
  unfold r_length_2 at h
  refine mg_iload_n C (i := 3) rfl 2 rfl dX12_length_2 ?_
  refine mg_bipush C (x := nI 12) rfl dX12_length_3 ?_
  refine mg_icmp_ge C 23 (by decide) dX12_length_5 (fun c_ => ?_) (fun c_ => ?_)
  · have h := h.1 c_
    refine mg_iload_n C (i := 3) rfl 2 rfl dX12_length_23 ?_
    exact mg_iret C h dX12_length_24
  · have h := h.2 c_
    refine mg_aload_n C (i := 0) rfl 0 rfl dX12_length_8 ?_
    refine mg_lload_n C (i := 1) rfl 1 rfl dX12_length_9 ?_
    refine mg_iload_n C (i := 3) rfl 2 rfl dX12_length_10 ?_
    refine mg_calliW C (s_at l x1 x3 v f g h) mCal_at rfl ⟨by decide, by decide⟩ rfl (Nat.le_of_ble_eq_true rfl) dX12_length_11 (fun r_1 v_1 f_1 g_1 h => ?_)
    refine mg_if_le C 23 (by decide) dX12_length_14 (fun c_ => ?_) (fun c_ => ?_)
    · have h := h.1 c_
      refine mg_iload_n C (i := 3) rfl 2 rfl dX12_length_23 ?_
      exact mg_iret C h dX12_length_24
    · have h := h.2 c_
      obtain ⟨x3_2, e_x3_2⟩ : ∃ z : Int32, z = x3 + nI 1 := ⟨_, rfl⟩
      have h := h x3_2 e_x3_2
      refine mg_iinc C (lv' := [(3, .int x3_2), (0, .ref (a 0)), (1, .long x1)]) 2 rfl (by rw [e_x3_2]; rfl) (Nat.le_of_ble_eq_true rfl) rfl dX12_length_17 ?_
      refine mg_goto C 2 (by decide) dX12_length_20 ?_
      exact mg_sub [1, 2, 0] rfl (hR2 x1 x3_2 v_1 f_1 g_1 h)
set_option maxRecDepth 20000 in
theorem sl_length_2 (C : mC p s m args meth c cX12_length 4 (some .int) A D cI cJ cZ) {post : Int32 → mS → Prop}   (x1 : Int64) (x3 : Int32) (v : Nat → Int32) (f : Nat → Nat → Int32) (g : Nat → Nat → Int64) (h : r_length_2L (fun r v f g => post r (v, f, g))  x1 x3 v f g) : mG p l e (mRm 1 23) s m args below meth c A D cI cJ cZ a 4 (MQ below (va_Qi post (mB D cI cJ cZ a) A) args s 0 0 A) 2 [(0, .ref (a 0)), (1, .long x1), (3, .int x3)] [] v f g :=
  h (fun y => mG p l e (mRm 1 23) s m args below meth c A D cI cJ cZ a 4 (MQ below (va_Qi post (mB D cI cJ cZ a) A) args s 0 0 A) 2 [(0, .ref (a 0)), (1, .long (y.1)), (3, .int (y.2.1))] [] (y.2.2.1) (y.2.2.2.1) (y.2.2.2.2)) (fun y hy => sb_length_2 C  (fun b0 b1 v f g z => z) (y.1) (y.2.1) (y.2.2.1) (y.2.2.2.1) (y.2.2.2.2) hy)
end S_length
set_option maxHeartbeats 1000000 in
set_option maxRecDepth 20000 in
theorem s_length (l : Launch) (x1 : Int64) (v : Nat → Int32) (f : Nat → Nat → Int32) (g : Nat → Nat → Int64) {P : Int32 → (Nat → Int32) → (Nat → Nat → Int32) → (Nat → Nat → Int64) → Prop} (h : r_length P x1 v f g) : mMi l yX12_length cX12_length 4 (some .int) 1 23 false [.long x1] v f g (fun r w => P r w.1 w.2.1 w.2.2) := by
  intro D cI cJ cZ a sz
  refine mg_body (by decide +kernel) rfl (Nat.le_of_ble_eq_true rfl) ?_
  intro p e s m args below meth c hsz C
  clear hsz
  generalize va_A (mW cI cJ cZ a v f g) sz = A at C ⊢
  refine mg_lv (lv' := [(0, .ref (a 0)), (1, .long x1)]) rfl ?_
  unfold r_length at h
  refine mg_iconst C (x := nI 0) rfl dX12_length_0 ?_
  refine mg_istore_n C (i := 3) (lv' := [(3, .int ((nI 0))), (0, .ref (a 0)), (1, .long x1)]) rfl (Nat.le_of_ble_eq_true rfl) rfl dX12_length_1 ?_
  exact mg_sub [1, 2, 0] rfl (sl_length_2 C  x1 (((nI 0))) v f g h)
def r_without (Q : Int64 → (Nat → Int32) → (Nat → Nat → Int32) → (Nat → Nat → Int64) → Prop) (x1 : Int64) (x3 : Int32) (x4 : Int32) (v : Nat → Int32) (f : Nat → Nat → Int32) (g : Nat → Nat → Int64) : Prop :=
vp_in ((((x3 - x4)) - ((nI 1)))) 12 ∧ (∀ x5_1 : Int64, x5_1 = g 1 ((((x3 - x4)) - ((nI 1)))).toNatClampNeg → ¬ x5_1 = 0 ∧ (Q ((x1 / x5_1) * x5_1) v f g))
set_option maxHeartbeats 1000000 in
set_option maxRecDepth 20000 in
theorem s_without (l : Launch) (x1 : Int64) (x3 : Int32) (x4 : Int32) (v : Nat → Int32) (f : Nat → Nat → Int32) (g : Nat → Nat → Int64) {P : Int64 → (Nat → Int32) → (Nat → Nat → Int32) → (Nat → Nat → Int64) → Prop} (h : r_without P x1 x3 x4 v f g) : mMl l yX12_without cX12_without 7 (some .long) 0 0 false [.long x1, .int x3, .int x4] v f g (fun r w => P r w.1 w.2.1 w.2.2) := by
  intro D cI cJ cZ a sz
  refine mg_body (by decide +kernel) rfl (Nat.le_of_ble_eq_true rfl) ?_
  intro p e s m args below meth c hsz C
  clear hsz
  generalize va_A (mW cI cJ cZ a v f g) sz = A at C ⊢
  refine mg_lv (lv' := [(0, .ref (a 0)), (1, .long x1), (3, .int x3), (4, .int x4)]) rfl ?_
  unfold r_without at h
  refine mg_aload_n C (i := 0) rfl 0 rfl dX12_without_0 ?_
  refine mg_arr C 1 (by decide) (by decide) rfl mL_powers rfl dX12_without_1 ?_
  refine mg_iload_n C (i := 3) rfl 2 rfl dX12_without_4 ?_
  refine mg_iload C 3 rfl dX12_without_5 ?_
  refine mg_isub C dX12_without_7 ?_
  refine mg_iconst C (x := nI 1) rfl dX12_without_8 ?_
  refine mg_isub C dX12_without_9 ?_
  obtain ⟨hc_10, h⟩ := h
  refine mg_laloadR C (n := 12) 1 (by decide) (by decide) rfl rfl hc_10 dX12_without_10 ?_
  refine mg_nmL (fun x5_1 e_x5_1 => ?_)
  have h := h x5_1 e_x5_1
  refine mg_lstore C (lv' := [(5, .long x5_1), (0, .ref (a 0)), (1, .long x1), (3, .int x3), (4, .int x4)]) (Nat.le_of_ble_eq_true rfl) rfl dX12_without_11 ?_
  refine mg_lload_n C (i := 1) rfl 2 rfl dX12_without_13 ?_
  refine mg_lload C 0 rfl dX12_without_14 ?_
  obtain ⟨hc_16, h⟩ := h
  refine mg_ldiv C hc_16 dX12_without_16 ?_
  refine mg_lload C 0 rfl dX12_without_17 ?_
  refine mg_lmul C dX12_without_19 ?_
  exact mg_lret C h dX12_without_20
def r_ends (Q : Int32 → (Nat → Int32) → (Nat → Nat → Int32) → (Nat → Nat → Int64) → Prop) (x1 : Int64) (x3 : Int32) (x4 : Int32) (x5 : Int32) (v : Nat → Int32) (f : Nat → Nat → Int32) (g : Nat → Nat → Int64) : Prop :=
((x3 ≤ x5 →
  Q ((bI false)) v f g) ∧
 (¬ x3 ≤ x5 →
  r_at (fun r_1 v_1 f_1 g_1 => 
  r_figure (fun r_2 v_2 f_2 g_2 => 
  ((¬ r_1 = r_2 →
    Q ((bI false)) v_2 f_2 g_2) ∧
   (r_1 = r_2 →
    Q ((bI true)) v_2 f_2 g_2))) x4 v_1 f_1 g_1) x1 ((((x3 - ((nI 1)))) - x5)) v f g))
set_option maxHeartbeats 1000000 in
set_option maxRecDepth 20000 in
theorem s_ends (l : Launch) (x1 : Int64) (x3 : Int32) (x4 : Int32) (x5 : Int32) (v : Nat → Int32) (f : Nat → Nat → Int32) (g : Nat → Nat → Int64) {P : Int32 → (Nat → Int32) → (Nat → Nat → Int32) → (Nat → Nat → Int64) → Prop} (h : r_ends P x1 x3 x4 x5 v f g) : mMi l yX12_ends cX12_ends 6 (some .boolean) 2 42 false [.long x1, .int x3, .int x4, .int x5] v f g (fun r w => P r w.1 w.2.1 w.2.2) := by
  intro D cI cJ cZ a sz
  refine mg_body (by decide +kernel) rfl (Nat.le_of_ble_eq_true rfl) ?_
  intro p e s m args below meth c hsz C
  clear hsz
  generalize va_A (mW cI cJ cZ a v f g) sz = A at C ⊢
  refine mg_lv (lv' := [(0, .ref (a 0)), (1, .long x1), (3, .int x3), (4, .int x4), (5, .int x5)]) rfl ?_
  unfold r_ends at h
  refine mg_iload_n C (i := 3) rfl 2 rfl dX12_ends_0 ?_
  refine mg_iload C 4 rfl dX12_ends_1 ?_
  refine mg_icmp_le C 29 (by decide) dX12_ends_3 (fun c_ => ?_) (fun c_ => ?_)
  · have h := h.1 c_
    refine mg_iconst C (x := nI 0) rfl dX12_ends_29 ?_
    refine mg_cast (bI false) rfl ?_
    exact mg_zret C (bI_nar _) h dX12_ends_30
  · have h := h.2 c_
    refine mg_aload_n C (i := 0) rfl 0 rfl dX12_ends_6 ?_
    refine mg_lload_n C (i := 1) rfl 1 rfl dX12_ends_7 ?_
    refine mg_iload_n C (i := 3) rfl 2 rfl dX12_ends_8 ?_
    refine mg_iconst C (x := nI 1) rfl dX12_ends_9 ?_
    refine mg_isub C dX12_ends_10 ?_
    refine mg_iload C 4 rfl dX12_ends_11 ?_
    refine mg_isub C dX12_ends_13 ?_
    refine mg_calliW C (s_at l x1 ((((x3 - ((nI 1)))) - x5)) v f g h) mCal_at rfl ⟨by decide, by decide⟩ rfl (Nat.le_of_ble_eq_true rfl) dX12_ends_14 (fun r_1 v_1 f_1 g_1 h => ?_)
    refine mg_iload C 3 rfl dX12_ends_17 ?_
    refine mg_callsiW C (s_figure l x4 v_1 f_1 g_1 h) mCal_figure rfl ⟨by decide, by decide⟩ rfl (Nat.le_of_ble_eq_true rfl) dX12_ends_19 (fun r_2 v_2 f_2 g_2 h => ?_)
    refine mg_icmp_ne C 29 (by decide) dX12_ends_22 (fun c_ => ?_) (fun c_ => ?_)
    · have h := h.1 c_
      refine mg_iconst C (x := nI 0) rfl dX12_ends_29 ?_
      refine mg_cast (bI false) rfl ?_
      exact mg_zret C (bI_nar _) h dX12_ends_30
    · have h := h.2 c_
      refine mg_iconst C (x := nI 1) rfl dX12_ends_25 ?_
      refine mg_goto C 30 (by decide) dX12_ends_26 ?_
      refine mg_cast (bI true) rfl ?_
      exact mg_zret C (bI_nar _) h dX12_ends_30
def r_stem_132 (Q : Int64 → (Nat → Int32) → (Nat → Nat → Int32) → (Nat → Nat → Int64) → Prop)  (x1 : Int64) (v : Nat → Int32) (f : Nat → Nat → Int32) (g : Nat → Nat → Int64) : Prop :=
Q x1 v f g
def r_stem_93 (Q : Int64 → (Nat → Int32) → (Nat → Nat → Int32) → (Nat → Nat → Int64) → Prop)  (x1 : Int64) (x3 : Int32) (v : Nat → Int32) (f : Nat → Nat → Int32) (g : Nat → Nat → Int64) : Prop :=
((x3 < ((nI 4)) →
  r_stem_132 Q  x1 v f g) ∧
 (¬ x3 < ((nI 4)) →
  r_ends (fun r_2 v_2 f_2 g_2 => 
  ((r_2 = 0 →
    r_stem_132 Q  x1 v_2 f_2 g_2) ∧
   (¬ r_2 = 0 →
    r_ends (fun r_3 v_3 f_3 g_3 => 
    ((¬ r_3 = 0 →
      r_stem_132 Q  x1 v_3 f_3 g_3) ∧
     (r_3 = 0 →
      r_without (fun r_4 v_4 f_4 g_4 => 
      Q r_4 v_4 f_4 g_4) x1 x3 ((nI 1)) v_3 f_3 g_3))) x1 x3 ((nI 115)) ((nI 1)) v_2 f_2 g_2))) x1 x3 ((nI 115)) ((nI 0)) v f g))
def r_stem_56 (Q : Int64 → (Nat → Int32) → (Nat → Nat → Int32) → (Nat → Nat → Int64) → Prop)  (x1 : Int64) (x3 : Int32) (v : Nat → Int32) (f : Nat → Nat → Int32) (g : Nat → Nat → Int64) : Prop :=
((x3 < ((nI 5)) →
  r_stem_93 Q  x1 x3 v f g) ∧
 (¬ x3 < ((nI 5)) →
  r_ends (fun r_5 v_5 f_5 g_5 => 
  ((r_5 = 0 →
    r_stem_93 Q  x1 x3 v_5 f_5 g_5) ∧
   (¬ r_5 = 0 →
    r_ends (fun r_6 v_6 f_6 g_6 => 
    ((r_6 = 0 →
      r_stem_93 Q  x1 x3 v_6 f_6 g_6) ∧
     (¬ r_6 = 0 →
      r_without (fun r_7 v_7 f_7 g_7 => 
      Q r_7 v_7 f_7 g_7) x1 x3 ((nI 2)) v_6 f_6 g_6))) x1 x3 ((nI 101)) ((nI 1)) v_5 f_5 g_5))) x1 x3 ((nI 100)) ((nI 0)) v f g))
def r_stem (Q : Int64 → (Nat → Int32) → (Nat → Nat → Int32) → (Nat → Nat → Int64) → Prop) (x1 : Int64) (v : Nat → Int32) (f : Nat → Nat → Int32) (g : Nat → Nat → Int64) : Prop :=
r_length (fun r_1 v_1 f_1 g_1 => 
((r_1 < ((nI 6)) →
  r_stem_56 Q  x1 r_1 v_1 f_1 g_1) ∧
 (¬ r_1 < ((nI 6)) →
  r_ends (fun r_8 v_8 f_8 g_8 => 
  ((r_8 = 0 →
    r_stem_56 Q  x1 r_1 v_8 f_8 g_8) ∧
   (¬ r_8 = 0 →
    r_ends (fun r_9 v_9 f_9 g_9 => 
    ((r_9 = 0 →
      r_stem_56 Q  x1 r_1 v_9 f_9 g_9) ∧
     (¬ r_9 = 0 →
      r_ends (fun r_10 v_10 f_10 g_10 => 
      ((r_10 = 0 →
        r_stem_56 Q  x1 r_1 v_10 f_10 g_10) ∧
       (¬ r_10 = 0 →
        r_without (fun r_11 v_11 f_11 g_11 => 
        Q r_11 v_11 f_11 g_11) x1 r_1 ((nI 3)) v_10 f_10 g_10))) x1 r_1 ((nI 105)) ((nI 2)) v_9 f_9 g_9))) x1 r_1 ((nI 110)) ((nI 1)) v_8 f_8 g_8))) x1 r_1 ((nI 103)) ((nI 0)) v_1 f_1 g_1))) x1 v f g
section S_stem
variable {p : Program} {l : Launch} {e : Env} {s : State} {m : MethodId} {args : Array Value} {below : List Frame} {meth : Method} {c : Code} {A : Nat → Prop} {D : va_G} {cI cJ cZ : ClassId} {a : Nat → Nat}
set_option maxRecDepth 20000 in
theorem sb_stem_132 (C : mC p s m args meth c cX12_stem 4 (some .long) A D cI cJ cZ) {post : Int64 → mS → Prop}   (x1 : Int64) (v : Nat → Int32) (f : Nat → Nat → Int32) (g : Nat → Nat → Int64) (h : r_stem_132 (fun r v f g => post r (v, f, g))  x1 v f g) : mG p l e (mRm 3 67) s m args below meth c A D cI cJ cZ a 4 (MQ below (va_Ql post (mB D cI cJ cZ a) A) args s 0 0 A) 132 [(1, .long x1)] [] v f g := by
  unfold r_stem_132 at h
  refine mg_lload_n C (i := 1) rfl 0 rfl dX12_stem_132 ?_
  exact mg_lret C h dX12_stem_133
set_option maxRecDepth 20000 in
theorem sb_stem_93 (C : mC p s m args meth c cX12_stem 4 (some .long) A D cI cJ cZ) {post : Int64 → mS → Prop}   (x1 : Int64) (x3 : Int32) (v : Nat → Int32) (f : Nat → Nat → Int32) (g : Nat → Nat → Int64) (h : r_stem_93 (fun r v f g => post r (v, f, g))  x1 x3 v f g) : mG p l e (mRm 3 67) s m args below meth c A D cI cJ cZ a 4 (MQ below (va_Ql post (mB D cI cJ cZ a) A) args s 0 0 A) 93 [(0, .ref (a 0)), (1, .long x1), (3, .int x3)] [] v f g := by
  unfold r_stem_93 at h
  refine mg_iload_n C (i := 3) rfl 2 rfl dX12_stem_93 ?_
  refine mg_iconst C (x := nI 4) rfl dX12_stem_94 ?_
  refine mg_icmp_lt C 132 (by decide) dX12_stem_95 (fun c_ => ?_) (fun c_ => ?_)
  · have h := h.1 c_
    exact mg_sub [1] rfl (sb_stem_132 C  x1 v f g h)
  · have h := h.2 c_
    refine mg_aload_n C (i := 0) rfl 0 rfl dX12_stem_98 ?_
    refine mg_lload_n C (i := 1) rfl 1 rfl dX12_stem_99 ?_
    refine mg_iload_n C (i := 3) rfl 2 rfl dX12_stem_100 ?_
    refine mg_bipush C (x := nI 115) rfl dX12_stem_101 ?_
    refine mg_iconst C (x := nI 0) rfl dX12_stem_103 ?_
    refine mg_calliW C (s_ends l x1 x3 ((nI 115)) ((nI 0)) v f g h) mCal_ends rfl ⟨by decide, by decide⟩ rfl (Nat.le_of_ble_eq_true rfl) dX12_stem_104 (fun r_2 v_2 f_2 g_2 h => ?_)
    refine mg_if_eq C 132 (by decide) dX12_stem_107 (fun c_ => ?_) (fun c_ => ?_)
    · have h := h.1 c_
      exact mg_sub [1] rfl (sb_stem_132 C  x1 v_2 f_2 g_2 h)
    · have h := h.2 c_
      refine mg_aload_n C (i := 0) rfl 0 rfl dX12_stem_110 ?_
      refine mg_lload_n C (i := 1) rfl 1 rfl dX12_stem_111 ?_
      refine mg_iload_n C (i := 3) rfl 2 rfl dX12_stem_112 ?_
      refine mg_bipush C (x := nI 115) rfl dX12_stem_113 ?_
      refine mg_iconst C (x := nI 1) rfl dX12_stem_115 ?_
      refine mg_calliW C (s_ends l x1 x3 ((nI 115)) ((nI 1)) v_2 f_2 g_2 h) mCal_ends rfl ⟨by decide, by decide⟩ rfl (Nat.le_of_ble_eq_true rfl) dX12_stem_116 (fun r_3 v_3 f_3 g_3 h => ?_)
      refine mg_if_ne C 132 (by decide) dX12_stem_119 (fun c_ => ?_) (fun c_ => ?_)
      · have h := h.1 c_
        exact mg_sub [1] rfl (sb_stem_132 C  x1 v_3 f_3 g_3 h)
      · have h := h.2 c_
        refine mg_aload_n C (i := 0) rfl 0 rfl dX12_stem_122 ?_
        refine mg_lload_n C (i := 1) rfl 1 rfl dX12_stem_123 ?_
        refine mg_iload_n C (i := 3) rfl 2 rfl dX12_stem_124 ?_
        refine mg_iconst C (x := nI 1) rfl dX12_stem_125 ?_
        refine mg_calllW C (s_without l x1 x3 ((nI 1)) v_3 f_3 g_3 h) mCal_without rfl ⟨by decide, by decide⟩ rfl (Nat.le_of_ble_eq_true rfl) dX12_stem_126 (fun r_4 v_4 f_4 g_4 h => ?_)
        refine mg_goto C 133 (by decide) dX12_stem_129 ?_
        exact mg_lret C h dX12_stem_133
set_option maxRecDepth 20000 in
theorem sb_stem_56 (C : mC p s m args meth c cX12_stem 4 (some .long) A D cI cJ cZ) {post : Int64 → mS → Prop}   (x1 : Int64) (x3 : Int32) (v : Nat → Int32) (f : Nat → Nat → Int32) (g : Nat → Nat → Int64) (h : r_stem_56 (fun r v f g => post r (v, f, g))  x1 x3 v f g) : mG p l e (mRm 3 67) s m args below meth c A D cI cJ cZ a 4 (MQ below (va_Ql post (mB D cI cJ cZ a) A) args s 0 0 A) 56 [(0, .ref (a 0)), (1, .long x1), (3, .int x3)] [] v f g := by
  unfold r_stem_56 at h
  refine mg_iload_n C (i := 3) rfl 2 rfl dX12_stem_56 ?_
  refine mg_iconst C (x := nI 5) rfl dX12_stem_57 ?_
  refine mg_icmp_lt C 93 (by decide) dX12_stem_58 (fun c_ => ?_) (fun c_ => ?_)
  · have h := h.1 c_
    exact mg_sub [0, 1, 2] rfl (sb_stem_93 C  x1 x3 v f g h)
  · have h := h.2 c_
    refine mg_aload_n C (i := 0) rfl 0 rfl dX12_stem_61 ?_
    refine mg_lload_n C (i := 1) rfl 1 rfl dX12_stem_62 ?_
    refine mg_iload_n C (i := 3) rfl 2 rfl dX12_stem_63 ?_
    refine mg_bipush C (x := nI 100) rfl dX12_stem_64 ?_
    refine mg_iconst C (x := nI 0) rfl dX12_stem_66 ?_
    refine mg_calliW C (s_ends l x1 x3 ((nI 100)) ((nI 0)) v f g h) mCal_ends rfl ⟨by decide, by decide⟩ rfl (Nat.le_of_ble_eq_true rfl) dX12_stem_67 (fun r_5 v_5 f_5 g_5 h => ?_)
    refine mg_if_eq C 93 (by decide) dX12_stem_70 (fun c_ => ?_) (fun c_ => ?_)
    · have h := h.1 c_
      exact mg_sub [0, 1, 2] rfl (sb_stem_93 C  x1 x3 v_5 f_5 g_5 h)
    · have h := h.2 c_
      refine mg_aload_n C (i := 0) rfl 0 rfl dX12_stem_73 ?_
      refine mg_lload_n C (i := 1) rfl 1 rfl dX12_stem_74 ?_
      refine mg_iload_n C (i := 3) rfl 2 rfl dX12_stem_75 ?_
      refine mg_bipush C (x := nI 101) rfl dX12_stem_76 ?_
      refine mg_iconst C (x := nI 1) rfl dX12_stem_78 ?_
      refine mg_calliW C (s_ends l x1 x3 ((nI 101)) ((nI 1)) v_5 f_5 g_5 h) mCal_ends rfl ⟨by decide, by decide⟩ rfl (Nat.le_of_ble_eq_true rfl) dX12_stem_79 (fun r_6 v_6 f_6 g_6 h => ?_)
      refine mg_if_eq C 93 (by decide) dX12_stem_82 (fun c_ => ?_) (fun c_ => ?_)
      · have h := h.1 c_
        exact mg_sub [0, 1, 2] rfl (sb_stem_93 C  x1 x3 v_6 f_6 g_6 h)
      · have h := h.2 c_
        refine mg_aload_n C (i := 0) rfl 0 rfl dX12_stem_85 ?_
        refine mg_lload_n C (i := 1) rfl 1 rfl dX12_stem_86 ?_
        refine mg_iload_n C (i := 3) rfl 2 rfl dX12_stem_87 ?_
        refine mg_iconst C (x := nI 2) rfl dX12_stem_88 ?_
        refine mg_calllW C (s_without l x1 x3 ((nI 2)) v_6 f_6 g_6 h) mCal_without rfl ⟨by decide, by decide⟩ rfl (Nat.le_of_ble_eq_true rfl) dX12_stem_89 (fun r_7 v_7 f_7 g_7 h => ?_)
        exact mg_lret C h dX12_stem_92
end S_stem
set_option maxHeartbeats 1000000 in
set_option maxRecDepth 20000 in
theorem s_stem (l : Launch) (x1 : Int64) (v : Nat → Int32) (f : Nat → Nat → Int32) (g : Nat → Nat → Int64) {P : Int64 → (Nat → Int32) → (Nat → Nat → Int32) → (Nat → Nat → Int64) → Prop} (h : r_stem P x1 v f g) : mMl l yX12_stem cX12_stem 4 (some .long) 3 67 false [.long x1] v f g (fun r w => P r w.1 w.2.1 w.2.2) := by
  intro D cI cJ cZ a sz
  refine mg_body (by decide +kernel) rfl (Nat.le_of_ble_eq_true rfl) ?_
  intro p e s m args below meth c hsz C
  clear hsz
  generalize va_A (mW cI cJ cZ a v f g) sz = A at C ⊢
  refine mg_lv (lv' := [(0, .ref (a 0)), (1, .long x1)]) rfl ?_
  unfold r_stem at h
  refine mg_aload_n C (i := 0) rfl 0 rfl dX12_stem_0 ?_
  refine mg_lload_n C (i := 1) rfl 1 rfl dX12_stem_1 ?_
  refine mg_calliW C (s_length l x1 v f g h) mCal_length rfl ⟨by decide, by decide⟩ rfl (Nat.le_of_ble_eq_true rfl) dX12_stem_2 (fun r_1 v_1 f_1 g_1 h => ?_)
  refine mg_istore_n C (i := 3) (lv' := [(3, .int r_1), (0, .ref (a 0)), (1, .long x1)]) rfl (Nat.le_of_ble_eq_true rfl) rfl dX12_stem_5 ?_
  refine mg_iload_n C (i := 3) rfl 0 rfl dX12_stem_6 ?_
  refine mg_bipush C (x := nI 6) rfl dX12_stem_7 ?_
  refine mg_icmp_lt C 56 (by decide) dX12_stem_9 (fun c_ => ?_) (fun c_ => ?_)
  · have h := h.1 c_
    exact mg_sub [1, 2, 0] rfl (sb_stem_56 C  x1 r_1 v_1 f_1 g_1 h)
  · have h := h.2 c_
    refine mg_aload_n C (i := 0) rfl 1 rfl dX12_stem_12 ?_
    refine mg_lload_n C (i := 1) rfl 2 rfl dX12_stem_13 ?_
    refine mg_iload_n C (i := 3) rfl 0 rfl dX12_stem_14 ?_
    refine mg_bipush C (x := nI 103) rfl dX12_stem_15 ?_
    refine mg_iconst C (x := nI 0) rfl dX12_stem_17 ?_
    refine mg_calliW C (s_ends l x1 r_1 ((nI 103)) ((nI 0)) v_1 f_1 g_1 h) mCal_ends rfl ⟨by decide, by decide⟩ rfl (Nat.le_of_ble_eq_true rfl) dX12_stem_18 (fun r_8 v_8 f_8 g_8 h => ?_)
    refine mg_if_eq C 56 (by decide) dX12_stem_21 (fun c_ => ?_) (fun c_ => ?_)
    · have h := h.1 c_
      exact mg_sub [1, 2, 0] rfl (sb_stem_56 C  x1 r_1 v_8 f_8 g_8 h)
    · have h := h.2 c_
      refine mg_aload_n C (i := 0) rfl 1 rfl dX12_stem_24 ?_
      refine mg_lload_n C (i := 1) rfl 2 rfl dX12_stem_25 ?_
      refine mg_iload_n C (i := 3) rfl 0 rfl dX12_stem_26 ?_
      refine mg_bipush C (x := nI 110) rfl dX12_stem_27 ?_
      refine mg_iconst C (x := nI 1) rfl dX12_stem_29 ?_
      refine mg_calliW C (s_ends l x1 r_1 ((nI 110)) ((nI 1)) v_8 f_8 g_8 h) mCal_ends rfl ⟨by decide, by decide⟩ rfl (Nat.le_of_ble_eq_true rfl) dX12_stem_30 (fun r_9 v_9 f_9 g_9 h => ?_)
      refine mg_if_eq C 56 (by decide) dX12_stem_33 (fun c_ => ?_) (fun c_ => ?_)
      · have h := h.1 c_
        exact mg_sub [1, 2, 0] rfl (sb_stem_56 C  x1 r_1 v_9 f_9 g_9 h)
      · have h := h.2 c_
        refine mg_aload_n C (i := 0) rfl 1 rfl dX12_stem_36 ?_
        refine mg_lload_n C (i := 1) rfl 2 rfl dX12_stem_37 ?_
        refine mg_iload_n C (i := 3) rfl 0 rfl dX12_stem_38 ?_
        refine mg_bipush C (x := nI 105) rfl dX12_stem_39 ?_
        refine mg_iconst C (x := nI 2) rfl dX12_stem_41 ?_
        refine mg_calliW C (s_ends l x1 r_1 ((nI 105)) ((nI 2)) v_9 f_9 g_9 h) mCal_ends rfl ⟨by decide, by decide⟩ rfl (Nat.le_of_ble_eq_true rfl) dX12_stem_42 (fun r_10 v_10 f_10 g_10 h => ?_)
        refine mg_if_eq C 56 (by decide) dX12_stem_45 (fun c_ => ?_) (fun c_ => ?_)
        · have h := h.1 c_
          exact mg_sub [1, 2, 0] rfl (sb_stem_56 C  x1 r_1 v_10 f_10 g_10 h)
        · have h := h.2 c_
          refine mg_aload_n C (i := 0) rfl 1 rfl dX12_stem_48 ?_
          refine mg_lload_n C (i := 1) rfl 2 rfl dX12_stem_49 ?_
          refine mg_iload_n C (i := 3) rfl 0 rfl dX12_stem_50 ?_
          refine mg_iconst C (x := nI 3) rfl dX12_stem_51 ?_
          refine mg_calllW C (s_without l x1 r_1 ((nI 3)) v_10 f_10 g_10 h) mCal_without rfl ⟨by decide, by decide⟩ rfl (Nat.le_of_ble_eq_true rfl) dX12_stem_52 (fun r_11 v_11 f_11 g_11 h => ?_)
          exact mg_lret C h dX12_stem_55
def r_reads_99 (Q : (Nat → Int32) → (Nat → Nat → Int32) → (Nat → Nat → Int64) → Prop) (R9 : Int32 → Int32 → (Nat → Int32) → (Nat → Nat → Int32) → (Nat → Nat → Int64) → Prop) (x2 : Int32) (t0 : Int32) (v : Nat → Int32) (f : Nat → Nat → Int32) (g : Nat → Nat → Int64) : Prop :=
∀ x2_3 : Int32, x2_3 = x2 + nI 1 → R9 t0 x2_3 v f g
def r_reads_88 (Q : (Nat → Int32) → (Nat → Nat → Int32) → (Nat → Nat → Int64) → Prop) (R9 : Int32 → Int32 → (Nat → Int32) → (Nat → Nat → Int32) → (Nat → Nat → Int64) → Prop) (x1 : Int32) (x2 : Int32) (x3 : Int32) (v : Nat → Int32) (f : Nat → Nat → Int32) (g : Nat → Nat → Int64) : Prop :=
((x3 ≤ 0 →
  r_reads_99 Q R9 x2 ((nI 0)) v f g) ∧
 (¬ x3 ≤ 0 →
  r_reads_99 Q R9 x2 ((x1 + ((nI 1)))) v f g))
def r_reads_86 (Q : (Nat → Int32) → (Nat → Nat → Int32) → (Nat → Nat → Int64) → Prop) (R9 : Int32 → Int32 → (Nat → Int32) → (Nat → Nat → Int32) → (Nat → Nat → Int64) → Prop) (x1 : Int32) (x2 : Int32) (x3 : Int32) (t0 : Int64) (t1 : Int64) (t2 : Int32) (v : Nat → Int32) (f : Nat → Nat → Int32) (g : Nat → Nat → Int64) : Prop :=
vp_in t2 20 ∧ (∀ g4 : Nat → Nat → Int64, g4 = mU g 3 (t2).toNatClampNeg (t1 + t0) → r_reads_88 Q R9 x1 x2 x3 v f g4)
def r_reads_55 (Q : (Nat → Int32) → (Nat → Nat → Int32) → (Nat → Nat → Int64) → Prop) (R9 : Int32 → Int32 → (Nat → Int32) → (Nat → Nat → Int32) → (Nat → Nat → Int64) → Prop) (x1 : Int32) (x2 : Int32) (x3 : Int32) (v : Nat → Int32) (f : Nat → Nat → Int32) (g : Nat → Nat → Int64) : Prop :=
vp_in ((((v 4)) - ((nI 1)))) 20 ∧ (((((nI 12)) ≤ x1 →
  r_reads_86 Q R9 x1 x2 x3 0 (g 3 ((((v 4)) - ((nI 1)))).toNatClampNeg) ((((v 4)) - ((nI 1)))) v f g) ∧
 (¬ ((nI 12)) ≤ x1 →
  vp_in x1 12 ∧ (r_reads_86 Q R9 x1 x2 x3 (((x3).toInt64) * (g 1 (x1).toNatClampNeg)) (g 3 ((((v 4)) - ((nI 1)))).toNatClampNeg) ((((v 4)) - ((nI 1)))) v f g))))
def r_reads_9 (Q : (Nat → Int32) → (Nat → Nat → Int32) → (Nat → Nat → Int64) → Prop) (R9 : Int32 → Int32 → (Nat → Int32) → (Nat → Nat → Int32) → (Nat → Nat → Int64) → Prop) (x1 : Int32) (x2 : Int32) (v : Nat → Int32) (f : Nat → Nat → Int32) (g : Nat → Nat → Int64) : Prop :=
((((v 2)) ≤ x2 →
  Q v f g) ∧
 (¬ ((v 2)) ≤ x2 →
  vp_in x2 40 ∧ (r_figure (fun r_2 v_2 f_2 g_2 => 
  ((r_2 ≤ 0 →
    r_reads_88 Q R9 x1 x2 r_2 v_2 f_2 g_2) ∧
   (¬ r_2 ≤ 0 →
    ((¬ x1 = 0 →
      r_reads_55 Q R9 x1 x2 r_2 v_2 f_2 g_2) ∧
     (x1 = 0 →
      vp_in ((v_2 4)) 20 ∧ (∀ g5 : Nat → Nat → Int64, g5 = mU g_2 3 ((v_2 4)).toNatClampNeg 0 → ∀ v6 : Nat → Int32, v6 = upd v_2 4 ((((v_2 4)) + ((nI 1)))) → r_reads_55 Q R9 x1 x2 r_2 v6 f_2 g5)))))) ((f 2 (x2).toNatClampNeg)) v f g)))
def r_reads_9L (Q : (Nat → Int32) → (Nat → Nat → Int32) → (Nat → Nat → Int64) → Prop)  (x1 : Int32) (x2 : Int32) (v : Nat → Int32) (f : Nat → Nat → Int32) (g : Nat → Nat → Int64) : Prop :=
  lfp (X := Int32 × Int32 × (Nat → Int32) × (Nat → Nat → Int32) × (Nat → Nat → Int64)) (fun P y => r_reads_9 Q  (fun b0 b1 v f g => P (b0, b1, v, f, g)) y.1 y.2.1 y.2.2.1 y.2.2.2.1 y.2.2.2.2) (x1, x2, v, f, g)
def r_reads (Q : (Nat → Int32) → (Nat → Nat → Int32) → (Nat → Nat → Int64) → Prop)  (v : Nat → Int32) (f : Nat → Nat → Int32) (g : Nat → Nat → Int64) : Prop :=
∀ v1 : Nat → Int32, v1 = upd v 4 ((nI 0)) → r_reads_9L Q  (((nI 0))) (((nI 0))) v1 f g
section S_reads
variable {p : Program} {l : Launch} {e : Env} {s : State} {m : MethodId} {args : Array Value} {below : List Frame} {meth : Method} {c : Code} {A : Nat → Prop} {D : va_G} {cI cJ cZ : ClassId} {a : Nat → Nat}
set_option maxRecDepth 20000 in
theorem sb_reads_99 (C : mC p s m args meth c cX12_reads 4 none A D cI cJ cZ) {post : mS → Prop} {R9 : Int32 → Int32 → (Nat → Int32) → (Nat → Nat → Int32) → (Nat → Nat → Int64) → Prop} (hR9 : ∀ (x1 : Int32) (x2 : Int32) (v : Nat → Int32) (f : Nat → Nat → Int32) (g : Nat → Nat → Int64), R9 x1 x2 v f g → mG p l e (mRm 2 42) s m args below meth c A D cI cJ cZ a 4 (MQ below (va_Qv post (mB D cI cJ cZ a) A) args s 0 0 A) 9 [(0, .ref (a 0)), (1, .int x1), (2, .int x2)] [] v f g) (x2 : Int32) (t0 : Int32) (v : Nat → Int32) (f : Nat → Nat → Int32) (g : Nat → Nat → Int64) (h : r_reads_99 (fun v f g => post (v, f, g)) R9 x2 t0 v f g) : mG p l e (mRm 2 42) s m args below meth c A D cI cJ cZ a 4 (MQ below (va_Qv post (mB D cI cJ cZ a) A) args s 0 0 A) 99 [(0, .ref (a 0)), (2, .int x2)] [.int t0] v f g := by
  unfold r_reads_99 at h
  refine mg_istore_n C (i := 1) (lv' := [(1, .int t0), (0, .ref (a 0)), (2, .int x2)]) rfl (Nat.le_of_ble_eq_true rfl) rfl dX12_reads_99 ?_
  obtain ⟨x2_3, e_x2_3⟩ : ∃ z : Int32, z = x2 + nI 1 := ⟨_, rfl⟩
  have h := h x2_3 e_x2_3
  refine mg_iinc C (lv' := [(2, .int x2_3), (1, .int t0), (0, .ref (a 0))]) 2 rfl (by rw [e_x2_3]; rfl) (Nat.le_of_ble_eq_true rfl) rfl dX12_reads_100 ?_
  refine mg_goto C 9 (by decide) dX12_reads_103 ?_
  exact mg_sub [2, 1, 0] rfl (hR9 t0 x2_3 v f g h)
set_option maxRecDepth 20000 in
theorem sb_reads_88 (C : mC p s m args meth c cX12_reads 4 none A D cI cJ cZ) {post : mS → Prop} {R9 : Int32 → Int32 → (Nat → Int32) → (Nat → Nat → Int32) → (Nat → Nat → Int64) → Prop} (hR9 : ∀ (x1 : Int32) (x2 : Int32) (v : Nat → Int32) (f : Nat → Nat → Int32) (g : Nat → Nat → Int64), R9 x1 x2 v f g → mG p l e (mRm 2 42) s m args below meth c A D cI cJ cZ a 4 (MQ below (va_Qv post (mB D cI cJ cZ a) A) args s 0 0 A) 9 [(0, .ref (a 0)), (1, .int x1), (2, .int x2)] [] v f g) (x1 : Int32) (x2 : Int32) (x3 : Int32) (v : Nat → Int32) (f : Nat → Nat → Int32) (g : Nat → Nat → Int64) (h : r_reads_88 (fun v f g => post (v, f, g)) R9 x1 x2 x3 v f g) : mG p l e (mRm 2 42) s m args below meth c A D cI cJ cZ a 4 (MQ below (va_Qv post (mB D cI cJ cZ a) A) args s 0 0 A) 88 [(0, .ref (a 0)), (1, .int x1), (2, .int x2), (3, .int x3)] [] v f g := by
  unfold r_reads_88 at h
  refine mg_iload_n C (i := 3) rfl 3 rfl dX12_reads_88 ?_
  refine mg_if_le C 98 (by decide) dX12_reads_89 (fun c_ => ?_) (fun c_ => ?_)
  · have h := h.1 c_
    refine mg_iconst C (x := nI 0) rfl dX12_reads_98 ?_
    exact mg_sub [0, 2] rfl (sb_reads_99 C hR9 x2 ((nI 0)) v f g h)
  · have h := h.2 c_
    refine mg_iload_n C (i := 1) rfl 1 rfl dX12_reads_92 ?_
    refine mg_iconst C (x := nI 1) rfl dX12_reads_93 ?_
    refine mg_iadd C dX12_reads_94 ?_
    refine mg_goto C 99 (by decide) dX12_reads_95 ?_
    exact mg_sub [0, 2] rfl (sb_reads_99 C hR9 x2 ((x1 + ((nI 1)))) v f g h)
set_option maxRecDepth 20000 in
theorem sb_reads_86 (C : mC p s m args meth c cX12_reads 4 none A D cI cJ cZ) {post : mS → Prop} {R9 : Int32 → Int32 → (Nat → Int32) → (Nat → Nat → Int32) → (Nat → Nat → Int64) → Prop} (hR9 : ∀ (x1 : Int32) (x2 : Int32) (v : Nat → Int32) (f : Nat → Nat → Int32) (g : Nat → Nat → Int64), R9 x1 x2 v f g → mG p l e (mRm 2 42) s m args below meth c A D cI cJ cZ a 4 (MQ below (va_Qv post (mB D cI cJ cZ a) A) args s 0 0 A) 9 [(0, .ref (a 0)), (1, .int x1), (2, .int x2)] [] v f g) (x1 : Int32) (x2 : Int32) (x3 : Int32) (t0 : Int64) (t1 : Int64) (t2 : Int32) (v : Nat → Int32) (f : Nat → Nat → Int32) (g : Nat → Nat → Int64) (h : r_reads_86 (fun v f g => post (v, f, g)) R9 x1 x2 x3 t0 t1 t2 v f g) : mG p l e (mRm 2 42) s m args below meth c A D cI cJ cZ a 4 (MQ below (va_Qv post (mB D cI cJ cZ a) A) args s 0 0 A) 86 [(0, .ref (a 0)), (1, .int x1), (2, .int x2), (3, .int x3)] [.long t0, .long t1, .int t2, .ref (a 3)] v f g := by
  unfold r_reads_86 at h
  refine mg_ladd C dX12_reads_86 ?_
  obtain ⟨hc_87, h⟩ := h
  refine mg_lastoreR C (n := 20) 3 (by decide) (by decide) rfl rfl hc_87 dX12_reads_87 ?_
  refine mg_nmG (fun g4 e_g4 => ?_)
  have h := h g4 e_g4
  exact mg_sub [0, 1, 2, 3] rfl (sb_reads_88 C hR9 x1 x2 x3 v f g4 h)
set_option maxRecDepth 20000 in
theorem sb_reads_55 (C : mC p s m args meth c cX12_reads 4 none A D cI cJ cZ) {post : mS → Prop} {R9 : Int32 → Int32 → (Nat → Int32) → (Nat → Nat → Int32) → (Nat → Nat → Int64) → Prop} (hR9 : ∀ (x1 : Int32) (x2 : Int32) (v : Nat → Int32) (f : Nat → Nat → Int32) (g : Nat → Nat → Int64), R9 x1 x2 v f g → mG p l e (mRm 2 42) s m args below meth c A D cI cJ cZ a 4 (MQ below (va_Qv post (mB D cI cJ cZ a) A) args s 0 0 A) 9 [(0, .ref (a 0)), (1, .int x1), (2, .int x2)] [] v f g) (x1 : Int32) (x2 : Int32) (x3 : Int32) (v : Nat → Int32) (f : Nat → Nat → Int32) (g : Nat → Nat → Int64) (h : r_reads_55 (fun v f g => post (v, f, g)) R9 x1 x2 x3 v f g) : mG p l e (mRm 2 42) s m args below meth c A D cI cJ cZ a 4 (MQ below (va_Qv post (mB D cI cJ cZ a) A) args s 0 0 A) 55 [(0, .ref (a 0)), (1, .int x1), (2, .int x2), (3, .int x3)] [] v f g := by
  unfold r_reads_55 at h
  refine mg_aload_n C (i := 0) rfl 0 rfl dX12_reads_55 ?_
  refine mg_arr C 3 (by decide) (by decide) rfl mL_words rfl dX12_reads_56 ?_
  refine mg_aload_n C (i := 0) rfl 0 rfl dX12_reads_59 ?_
  refine mg_getI C (k := 4) (by decide) rfl mL_worded rfl dX12_reads_60 ?_
  refine mg_iconst C (x := nI 1) rfl dX12_reads_63 ?_
  refine mg_isub C dX12_reads_64 ?_
  refine mg_dup2 C rfl rfl dX12_reads_65 ?_
  obtain ⟨hc_66, h⟩ := h
  refine mg_laloadR C (n := 20) 3 (by decide) (by decide) rfl rfl hc_66 dX12_reads_66 ?_
  refine mg_iload_n C (i := 1) rfl 1 rfl dX12_reads_67 ?_
  refine mg_bipush C (x := nI 12) rfl dX12_reads_68 ?_
  refine mg_icmp_ge C 85 (by decide) dX12_reads_70 (fun c_ => ?_) (fun c_ => ?_)
  · have h := h.1 c_
    refine mg_lconst C (x := 0) rfl dX12_reads_85 ?_
    exact mg_sub [0, 1, 2, 3] rfl (sb_reads_86 C hR9 x1 x2 x3 0 (g 3 ((((v 4)) - ((nI 1)))).toNatClampNeg) ((((v 4)) - ((nI 1)))) v f g h)
  · have h := h.2 c_
    refine mg_iload_n C (i := 3) rfl 3 rfl dX12_reads_73 ?_
    refine mg_i2l C dX12_reads_74 ?_
    refine mg_aload_n C (i := 0) rfl 0 rfl dX12_reads_75 ?_
    refine mg_arr C 1 (by decide) (by decide) rfl mL_powers rfl dX12_reads_76 ?_
    refine mg_iload_n C (i := 1) rfl 1 rfl dX12_reads_79 ?_
    obtain ⟨hc_80, h⟩ := h
    refine mg_laloadR C (n := 12) 1 (by decide) (by decide) rfl rfl hc_80 dX12_reads_80 ?_
    refine mg_lmul C dX12_reads_81 ?_
    refine mg_goto C 86 (by decide) dX12_reads_82 ?_
    exact mg_sub [0, 1, 2, 3] rfl (sb_reads_86 C hR9 x1 x2 x3 (((x3).toInt64) * (g 1 (x1).toNatClampNeg)) (g 3 ((((v 4)) - ((nI 1)))).toNatClampNeg) ((((v 4)) - ((nI 1)))) v f g h)
set_option maxRecDepth 20000 in
theorem sb_reads_9 (C : mC p s m args meth c cX12_reads 4 none A D cI cJ cZ) {post : mS → Prop} {R9 : Int32 → Int32 → (Nat → Int32) → (Nat → Nat → Int32) → (Nat → Nat → Int64) → Prop} (hR9 : ∀ (x1 : Int32) (x2 : Int32) (v : Nat → Int32) (f : Nat → Nat → Int32) (g : Nat → Nat → Int64), R9 x1 x2 v f g → mG p l e (mRm 2 42) s m args below meth c A D cI cJ cZ a 4 (MQ below (va_Qv post (mB D cI cJ cZ a) A) args s 0 0 A) 9 [(0, .ref (a 0)), (1, .int x1), (2, .int x2)] [] v f g) (x1 : Int32) (x2 : Int32) (v : Nat → Int32) (f : Nat → Nat → Int32) (g : Nat → Nat → Int64) (h : r_reads_9 (fun v f g => post (v, f, g)) R9 x1 x2 v f g) : mG p l e (mRm 2 42) s m args below meth c A D cI cJ cZ a 4 (MQ below (va_Qv post (mB D cI cJ cZ a) A) args s 0 0 A) 9 [(0, .ref (a 0)), (1, .int x1), (2, .int x2)] [] v f g := by
  unfold r_reads_9 at h
  refine mg_iload_n C (i := 2) rfl 2 rfl dX12_reads_9 ?_
  refine mg_aload_n C (i := 0) rfl 0 rfl dX12_reads_10 ?_
  refine mg_getI C (k := 2) (by decide) rfl mL_padded rfl dX12_reads_11 ?_
  refine mg_icmp_ge C 106 (by decide) dX12_reads_14 (fun c_ => ?_) (fun c_ => ?_)
  · have h := h.1 c_
    exact mg_vret C h dX12_reads_106
  · have h := h.2 c_
    refine mg_aload_n C (i := 0) rfl 0 rfl dX12_reads_17 ?_
    refine mg_arr C 2 (by decide) (by decide) rfl mL_pad rfl dX12_reads_18 ?_
    refine mg_iload_n C (i := 2) rfl 2 rfl dX12_reads_21 ?_
    obtain ⟨hc_22, h⟩ := h
    refine mg_ialoadR C (n := 40) 2 (by decide) (by decide) rfl rfl hc_22 dX12_reads_22 ?_
    refine mg_callsiW C (s_figure l ((f 2 (x2).toNatClampNeg)) v f g h) mCal_figure rfl ⟨by decide, by decide⟩ rfl (Nat.le_of_ble_eq_true rfl) dX12_reads_23 (fun r_2 v_2 f_2 g_2 h => ?_)
    refine mg_istore_n C (i := 3) (lv' := [(3, .int r_2), (0, .ref (a 0)), (1, .int x1), (2, .int x2)]) rfl (Nat.le_of_ble_eq_true rfl) rfl dX12_reads_26 ?_
    refine mg_iload_n C (i := 3) rfl 0 rfl dX12_reads_27 ?_
    refine mg_if_le C 88 (by decide) dX12_reads_28 (fun c_ => ?_) (fun c_ => ?_)
    · have h := h.1 c_
      exact mg_sub [1, 2, 3, 0] rfl (sb_reads_88 C hR9 x1 x2 r_2 v_2 f_2 g_2 h)
    · have h := h.2 c_
      refine mg_iload_n C (i := 1) rfl 2 rfl dX12_reads_31 ?_
      refine mg_if_ne C 55 (by decide) dX12_reads_32 (fun c_ => ?_) (fun c_ => ?_)
      · have h := h.1 c_
        exact mg_sub [1, 2, 3, 0] rfl (sb_reads_55 C hR9 x1 x2 r_2 v_2 f_2 g_2 h)
      · have h := h.2 c_
        refine mg_aload_n C (i := 0) rfl 1 rfl dX12_reads_35 ?_
        refine mg_arr C 3 (by decide) (by decide) rfl mL_words rfl dX12_reads_36 ?_
        refine mg_aload_n C (i := 0) rfl 1 rfl dX12_reads_39 ?_
        refine mg_getI C (k := 4) (by decide) rfl mL_worded rfl dX12_reads_40 ?_
        refine mg_lconst C (x := 0) rfl dX12_reads_43 ?_
        obtain ⟨hc_44, h⟩ := h
        refine mg_lastoreR C (n := 20) 3 (by decide) (by decide) rfl rfl hc_44 dX12_reads_44 ?_
        refine mg_nmG (fun g5 e_g5 => ?_)
        have h := h g5 e_g5
        refine mg_aload_n C (i := 0) rfl 1 rfl dX12_reads_45 ?_
        refine mg_dup C rfl dX12_reads_46 ?_
        refine mg_getI C (k := 4) (by decide) rfl mL_worded rfl dX12_reads_47 ?_
        refine mg_iconst C (x := nI 1) rfl dX12_reads_50 ?_
        refine mg_iadd C dX12_reads_51 ?_
        refine mg_put C (k := 4) (by decide) rfl mL_worded rfl (by decide +kernel) mT_worded rfl rfl dX12_reads_52 ?_
        refine mg_nmV (fun v6 e_v6 => ?_)
        have h := h v6 e_v6
        exact mg_sub [1, 2, 3, 0] rfl (sb_reads_55 C hR9 x1 x2 r_2 v6 f_2 g5 h)
set_option maxRecDepth 20000 in
theorem sl_reads_9 (C : mC p s m args meth c cX12_reads 4 none A D cI cJ cZ) {post : mS → Prop}   (x1 : Int32) (x2 : Int32) (v : Nat → Int32) (f : Nat → Nat → Int32) (g : Nat → Nat → Int64) (h : r_reads_9L (fun v f g => post (v, f, g))  x1 x2 v f g) : mG p l e (mRm 2 42) s m args below meth c A D cI cJ cZ a 4 (MQ below (va_Qv post (mB D cI cJ cZ a) A) args s 0 0 A) 9 [(0, .ref (a 0)), (1, .int x1), (2, .int x2)] [] v f g :=
  h (fun y => mG p l e (mRm 2 42) s m args below meth c A D cI cJ cZ a 4 (MQ below (va_Qv post (mB D cI cJ cZ a) A) args s 0 0 A) 9 [(0, .ref (a 0)), (1, .int (y.1)), (2, .int (y.2.1))] [] (y.2.2.1) (y.2.2.2.1) (y.2.2.2.2)) (fun y hy => sb_reads_9 C  (fun b0 b1 v f g z => z) (y.1) (y.2.1) (y.2.2.1) (y.2.2.2.1) (y.2.2.2.2) hy)
end S_reads
set_option maxHeartbeats 1000000 in
set_option maxRecDepth 20000 in
theorem s_reads (l : Launch)  (v : Nat → Int32) (f : Nat → Nat → Int32) (g : Nat → Nat → Int64) {P : (Nat → Int32) → (Nat → Nat → Int32) → (Nat → Nat → Int64) → Prop} (h : r_reads P  v f g) : mMv l yX12_reads cX12_reads 4 none 2 42 false [] v f g (fun w => P w.1 w.2.1 w.2.2) := by
  intro D cI cJ cZ a sz
  refine mg_body (by decide +kernel) rfl (Nat.le_of_ble_eq_true rfl) ?_
  intro p e s m args below meth c hsz C
  clear hsz
  generalize va_A (mW cI cJ cZ a v f g) sz = A at C ⊢
  refine mg_lv (lv' := [(0, .ref (a 0))]) rfl ?_
  unfold r_reads at h
  refine mg_aload_n C (i := 0) rfl 0 rfl dX12_reads_0 ?_
  refine mg_iconst C (x := nI 0) rfl dX12_reads_1 ?_
  refine mg_put C (k := 4) (by decide) rfl mL_worded rfl (by decide +kernel) mT_worded rfl rfl dX12_reads_2 ?_
  refine mg_nmV (fun v1 e_v1 => ?_)
  have h := h v1 e_v1
  refine mg_iconst C (x := nI 0) rfl dX12_reads_5 ?_
  refine mg_istore_n C (i := 1) (lv' := [(1, .int ((nI 0))), (0, .ref (a 0))]) rfl (Nat.le_of_ble_eq_true rfl) rfl dX12_reads_6 ?_
  refine mg_iconst C (x := nI 0) rfl dX12_reads_7 ?_
  refine mg_istore_n C (i := 2) (lv' := [(2, .int ((nI 0))), (1, .int ((nI 0))), (0, .ref (a 0))]) rfl (Nat.le_of_ble_eq_true rfl) rfl dX12_reads_8 ?_
  exact mg_sub [2, 1, 0] rfl (sl_reads_9 C  (((nI 0))) (((nI 0))) v1 f g h)
def r_isStop_35 (Q : Int32 → (Nat → Int32) → (Nat → Nat → Int32) → (Nat → Nat → Int64) → Prop) (R5 : Int64 → Int32 → Int32 → (Nat → Int32) → (Nat → Nat → Int32) → (Nat → Nat → Int64) → Prop) (x1 : Int64) (x4 : Int32) (t0 : Int32) (v : Nat → Int32) (f : Nat → Nat → Int32) (g : Nat → Nat → Int64) : Prop :=
∀ x4_1 : Int32, x4_1 = x4 + nI 1 → R5 x1 t0 x4_1 v f g
def r_isStop_5 (Q : Int32 → (Nat → Int32) → (Nat → Nat → Int32) → (Nat → Nat → Int64) → Prop) (R5 : Int64 → Int32 → Int32 → (Nat → Int32) → (Nat → Nat → Int32) → (Nat → Nat → Int64) → Prop) (x1 : Int64) (x3 : Int32) (x4 : Int32) (v : Nat → Int32) (f : Nat → Nat → Int32) (g : Nat → Nat → Int64) : Prop :=
((((v 6)) ≤ x4 →
  isZ x3 ∧ (Q x3 v f g)) ∧
 (¬ ((v 6)) ≤ x4 →
  ((¬ x3 = 0 →
    r_isStop_35 Q R5 x1 x4 ((nI 1)) v f g) ∧
   (x3 = 0 →
    vp_in x4 10 ∧ (((¬ (g 4 (x4).toNatClampNeg) = x1 →
      r_isStop_35 Q R5 x1 x4 ((nI 0)) v f g) ∧
     ((g 4 (x4).toNatClampNeg) = x1 →
      r_isStop_35 Q R5 x1 x4 ((nI 1)) v f g)))))))
def r_isStop_5L (Q : Int32 → (Nat → Int32) → (Nat → Nat → Int32) → (Nat → Nat → Int64) → Prop)  (x1 : Int64) (x3 : Int32) (x4 : Int32) (v : Nat → Int32) (f : Nat → Nat → Int32) (g : Nat → Nat → Int64) : Prop :=
  lfp (X := Int64 × Int32 × Int32 × (Nat → Int32) × (Nat → Nat → Int32) × (Nat → Nat → Int64)) (fun P y => r_isStop_5 Q  (fun b0 b1 b2 v f g => P (b0, b1, b2, v, f, g)) y.1 y.2.1 y.2.2.1 y.2.2.2.1 y.2.2.2.2.1 y.2.2.2.2.2) (x1, x3, x4, v, f, g)
def r_isStop (Q : Int32 → (Nat → Int32) → (Nat → Nat → Int32) → (Nat → Nat → Int64) → Prop) (x1 : Int64) (v : Nat → Int32) (f : Nat → Nat → Int32) (g : Nat → Nat → Int64) : Prop :=
r_isStop_5L Q  x1 (((nI 0))) (((nI 0))) v f g
section S_isStop
variable {p : Program} {l : Launch} {e : Env} {s : State} {m : MethodId} {args : Array Value} {below : List Frame} {meth : Method} {c : Code} {A : Nat → Prop} {D : va_G} {cI cJ cZ : ClassId} {a : Nat → Nat}
set_option maxRecDepth 20000 in
theorem sb_isStop_35 (C : mC p s m args meth c cX12_isStop 5 (some .boolean) A D cI cJ cZ) {post : Int32 → mS → Prop} {R5 : Int64 → Int32 → Int32 → (Nat → Int32) → (Nat → Nat → Int32) → (Nat → Nat → Int64) → Prop} (hR5 : ∀ (x1 : Int64) (x3 : Int32) (x4 : Int32) (v : Nat → Int32) (f : Nat → Nat → Int32) (g : Nat → Nat → Int64), R5 x1 x3 x4 v f g → mG p l e (mRm 0 0) s m args below meth c A D cI cJ cZ a 5 (MQ below (va_Qi post (mB D cI cJ cZ a) A) args s 0 0 A) 5 [(0, .ref (a 0)), (1, .long x1), (3, .int x3), (4, .int x4)] [] v f g) (x1 : Int64) (x4 : Int32) (t0 : Int32) (v : Nat → Int32) (f : Nat → Nat → Int32) (g : Nat → Nat → Int64) (h : r_isStop_35 (fun r v f g => post r (v, f, g)) R5 x1 x4 t0 v f g) : mG p l e (mRm 0 0) s m args below meth c A D cI cJ cZ a 5 (MQ below (va_Qi post (mB D cI cJ cZ a) A) args s 0 0 A) 35 [(0, .ref (a 0)), (1, .long x1), (4, .int x4)] [.int t0] v f g := by
  unfold r_isStop_35 at h
  refine mg_istore_n C (i := 3) (lv' := [(3, .int t0), (0, .ref (a 0)), (1, .long x1), (4, .int x4)]) rfl (Nat.le_of_ble_eq_true rfl) rfl dX12_isStop_35 ?_
  obtain ⟨x4_1, e_x4_1⟩ : ∃ z : Int32, z = x4 + nI 1 := ⟨_, rfl⟩
  have h := h x4_1 e_x4_1
  refine mg_iinc C (lv' := [(4, .int x4_1), (3, .int t0), (0, .ref (a 0)), (1, .long x1)]) 3 rfl (by rw [e_x4_1]; rfl) (Nat.le_of_ble_eq_true rfl) rfl dX12_isStop_36 ?_
  refine mg_goto C 5 (by decide) dX12_isStop_39 ?_
  exact mg_sub [2, 3, 1, 0] rfl (hR5 x1 t0 x4_1 v f g h)
set_option maxRecDepth 20000 in
theorem sb_isStop_5 (C : mC p s m args meth c cX12_isStop 5 (some .boolean) A D cI cJ cZ) {post : Int32 → mS → Prop} {R5 : Int64 → Int32 → Int32 → (Nat → Int32) → (Nat → Nat → Int32) → (Nat → Nat → Int64) → Prop} (hR5 : ∀ (x1 : Int64) (x3 : Int32) (x4 : Int32) (v : Nat → Int32) (f : Nat → Nat → Int32) (g : Nat → Nat → Int64), R5 x1 x3 x4 v f g → mG p l e (mRm 0 0) s m args below meth c A D cI cJ cZ a 5 (MQ below (va_Qi post (mB D cI cJ cZ a) A) args s 0 0 A) 5 [(0, .ref (a 0)), (1, .long x1), (3, .int x3), (4, .int x4)] [] v f g) (x1 : Int64) (x3 : Int32) (x4 : Int32) (v : Nat → Int32) (f : Nat → Nat → Int32) (g : Nat → Nat → Int64) (h : r_isStop_5 (fun r v f g => post r (v, f, g)) R5 x1 x3 x4 v f g) : mG p l e (mRm 0 0) s m args below meth c A D cI cJ cZ a 5 (MQ below (va_Qi post (mB D cI cJ cZ a) A) args s 0 0 A) 5 [(0, .ref (a 0)), (1, .long x1), (3, .int x3), (4, .int x4)] [] v f g := by
  unfold r_isStop_5 at h
  refine mg_iload C 3 rfl dX12_isStop_5 ?_
  refine mg_aload_n C (i := 0) rfl 0 rfl dX12_isStop_7 ?_
  refine mg_getI C (k := 6) (by decide) rfl mL_stopped rfl dX12_isStop_8 ?_
  refine mg_icmp_ge C 42 (by decide) dX12_isStop_11 (fun c_ => ?_) (fun c_ => ?_)
  · have h := h.1 c_
    refine mg_iload_n C (i := 3) rfl 2 rfl dX12_isStop_42 ?_
    obtain ⟨hc_43, h⟩ := h
    exact mg_zret C (isZ_nar hc_43) h dX12_isStop_43
  · have h := h.2 c_
    refine mg_iload_n C (i := 3) rfl 2 rfl dX12_isStop_14 ?_
    refine mg_if_ne C 30 (by decide) dX12_isStop_15 (fun c_ => ?_) (fun c_ => ?_)
    · have h := h.1 c_
      refine mg_iconst C (x := nI 1) rfl dX12_isStop_30 ?_
      refine mg_goto C 35 (by decide) dX12_isStop_31 ?_
      exact mg_sub [0, 1, 3] rfl (sb_isStop_35 C hR5 x1 x4 ((nI 1)) v f g h)
    · have h := h.2 c_
      refine mg_aload_n C (i := 0) rfl 0 rfl dX12_isStop_18 ?_
      refine mg_arr C 4 (by decide) (by decide) rfl mL_stops rfl dX12_isStop_19 ?_
      refine mg_iload C 3 rfl dX12_isStop_22 ?_
      obtain ⟨hc_24, h⟩ := h
      refine mg_laloadR C (n := 10) 4 (by decide) (by decide) rfl rfl hc_24 dX12_isStop_24 ?_
      refine mg_lload_n C (i := 1) rfl 1 rfl dX12_isStop_25 ?_
      refine mg_lcmp C dX12_isStop_26 ?_
      refine mg_if_neL C 34 (by decide) dX12_isStop_27 (fun c_ => ?_) (fun c_ => ?_)
      · have h := h.1 c_
        refine mg_iconst C (x := nI 0) rfl dX12_isStop_34 ?_
        exact mg_sub [0, 1, 3] rfl (sb_isStop_35 C hR5 x1 x4 ((nI 0)) v f g h)
      · have h := h.2 c_
        refine mg_iconst C (x := nI 1) rfl dX12_isStop_30 ?_
        refine mg_goto C 35 (by decide) dX12_isStop_31 ?_
        exact mg_sub [0, 1, 3] rfl (sb_isStop_35 C hR5 x1 x4 ((nI 1)) v f g h)
set_option maxRecDepth 20000 in
theorem sl_isStop_5 (C : mC p s m args meth c cX12_isStop 5 (some .boolean) A D cI cJ cZ) {post : Int32 → mS → Prop}   (x1 : Int64) (x3 : Int32) (x4 : Int32) (v : Nat → Int32) (f : Nat → Nat → Int32) (g : Nat → Nat → Int64) (h : r_isStop_5L (fun r v f g => post r (v, f, g))  x1 x3 x4 v f g) : mG p l e (mRm 0 0) s m args below meth c A D cI cJ cZ a 5 (MQ below (va_Qi post (mB D cI cJ cZ a) A) args s 0 0 A) 5 [(0, .ref (a 0)), (1, .long x1), (3, .int x3), (4, .int x4)] [] v f g :=
  h (fun y => mG p l e (mRm 0 0) s m args below meth c A D cI cJ cZ a 5 (MQ below (va_Qi post (mB D cI cJ cZ a) A) args s 0 0 A) 5 [(0, .ref (a 0)), (1, .long (y.1)), (3, .int (y.2.1)), (4, .int (y.2.2.1))] [] (y.2.2.2.1) (y.2.2.2.2.1) (y.2.2.2.2.2)) (fun y hy => sb_isStop_5 C  (fun b0 b1 b2 v f g z => z) (y.1) (y.2.1) (y.2.2.1) (y.2.2.2.1) (y.2.2.2.2.1) (y.2.2.2.2.2) hy)
end S_isStop
set_option maxHeartbeats 1000000 in
set_option maxRecDepth 20000 in
theorem s_isStop (l : Launch) (x1 : Int64) (v : Nat → Int32) (f : Nat → Nat → Int32) (g : Nat → Nat → Int64) {P : Int32 → (Nat → Int32) → (Nat → Nat → Int32) → (Nat → Nat → Int64) → Prop} (h : r_isStop P x1 v f g) : mMi l yX12_isStop cX12_isStop 5 (some .boolean) 0 0 false [.long x1] v f g (fun r w => P r w.1 w.2.1 w.2.2) := by
  intro D cI cJ cZ a sz
  refine mg_body (by decide +kernel) rfl (Nat.le_of_ble_eq_true rfl) ?_
  intro p e s m args below meth c hsz C
  clear hsz
  generalize va_A (mW cI cJ cZ a v f g) sz = A at C ⊢
  refine mg_lv (lv' := [(0, .ref (a 0)), (1, .long x1)]) rfl ?_
  unfold r_isStop at h
  refine mg_iconst C (x := nI 0) rfl dX12_isStop_0 ?_
  refine mg_istore_n C (i := 3) (lv' := [(3, .int ((nI 0))), (0, .ref (a 0)), (1, .long x1)]) rfl (Nat.le_of_ble_eq_true rfl) rfl dX12_isStop_1 ?_
  refine mg_iconst C (x := nI 0) rfl dX12_isStop_2 ?_
  refine mg_istore C (lv' := [(4, .int ((nI 0))), (3, .int ((nI 0))), (0, .ref (a 0)), (1, .long x1)]) (Nat.le_of_ble_eq_true rfl) rfl dX12_isStop_3 ?_
  exact mg_sub [2, 3, 1, 0] rfl (sl_isStop_5 C  x1 (((nI 0))) (((nI 0))) v f g h)
def r_gives_77 (Q : Int32 → (Nat → Int32) → (Nat → Nat → Int32) → (Nat → Nat → Int64) → Prop) (R32 : Int32 → Int64 → Int32 → Int32 → (Nat → Int32) → (Nat → Nat → Int32) → (Nat → Nat → Int64) → Prop) (x1 : Int32) (x2 : Int64) (x5 : Int32) (t0 : Int32) (v : Nat → Int32) (f : Nat → Nat → Int32) (g : Nat → Nat → Int64) : Prop :=
∀ x5_1 : Int32, x5_1 = x5 + nI 1 → R32 x1 x2 t0 x5_1 v f g
def r_gives_76 (Q : Int32 → (Nat → Int32) → (Nat → Nat → Int32) → (Nat → Nat → Int64) → Prop) (R32 : Int32 → Int64 → Int32 → Int32 → (Nat → Int32) → (Nat → Nat → Int32) → (Nat → Nat → Int64) → Prop) (x1 : Int32) (x2 : Int64) (x5 : Int32) (v : Nat → Int32) (f : Nat → Nat → Int32) (g : Nat → Nat → Int64) : Prop :=
r_gives_77 Q R32 x1 x2 x5 ((nI 0)) v f g
def r_gives_32 (Q : Int32 → (Nat → Int32) → (Nat → Nat → Int32) → (Nat → Nat → Int64) → Prop) (R32 : Int32 → Int64 → Int32 → Int32 → (Nat → Int32) → (Nat → Nat → Int32) → (Nat → Nat → Int64) → Prop) (x1 : Int32) (x2 : Int64) (x4 : Int32) (x5 : Int32) (v : Nat → Int32) (f : Nat → Nat → Int32) (g : Nat → Nat → Int64) : Prop :=
((x1 ≤ x5 →
  isZ x4 ∧ (Q x4 v f g)) ∧
 (¬ x1 ≤ x5 →
  ((x4 = 0 →
    r_gives_76 Q R32 x1 x2 x5 v f g) ∧
   (¬ x4 = 0 →
    vp_in x5 10 ∧ (((¬ (g 5 (x5).toNatClampNeg) = x2 →
      r_gives_77 Q R32 x1 x2 x5 ((nI 1)) v f g) ∧
     ((g 5 (x5).toNatClampNeg) = x2 →
      vp_in x5 10 ∧ (vp_in x1 10 ∧ ((((g 6 (x5).toNatClampNeg) = (g 6 (x1).toNatClampNeg) →
        r_gives_76 Q R32 x1 x2 x5 v f g) ∧
       (¬ (g 6 (x5).toNatClampNeg) = (g 6 (x1).toNatClampNeg) →
        r_gives_77 Q R32 x1 x2 x5 ((nI 1)) v f g)))))))))))
def r_gives_32L (Q : Int32 → (Nat → Int32) → (Nat → Nat → Int32) → (Nat → Nat → Int64) → Prop)  (x1 : Int32) (x2 : Int64) (x4 : Int32) (x5 : Int32) (v : Nat → Int32) (f : Nat → Nat → Int32) (g : Nat → Nat → Int64) : Prop :=
  lfp (X := Int32 × Int64 × Int32 × Int32 × (Nat → Int32) × (Nat → Nat → Int32) × (Nat → Nat → Int64)) (fun P y => r_gives_32 Q  (fun b0 b1 b2 b3 v f g => P (b0, b1, b2, b3, v, f, g)) y.1 y.2.1 y.2.2.1 y.2.2.2.1 y.2.2.2.2.1 y.2.2.2.2.2.1 y.2.2.2.2.2.2) (x1, x2, x4, x5, v, f, g)
def r_gives_27 (Q : Int32 → (Nat → Int32) → (Nat → Nat → Int32) → (Nat → Nat → Int64) → Prop)  (x1 : Int32) (x2 : Int64) (t0 : Int32) (v : Nat → Int32) (f : Nat → Nat → Int32) (g : Nat → Nat → Int64) : Prop :=
r_gives_32L Q  x1 x2 t0 (((nI 0))) v f g
def r_gives_26 (Q : Int32 → (Nat → Int32) → (Nat → Nat → Int32) → (Nat → Nat → Int64) → Prop)  (x1 : Int32) (x2 : Int64) (v : Nat → Int32) (f : Nat → Nat → Int32) (g : Nat → Nat → Int64) : Prop :=
r_gives_27 Q  x1 x2 ((nI 0)) v f g
def r_gives (Q : Int32 → (Nat → Int32) → (Nat → Nat → Int32) → (Nat → Nat → Int64) → Prop) (x1 : Int32) (x2 : Int64) (v : Nat → Int32) (f : Nat → Nat → Int32) (g : Nat → Nat → Int64) : Prop :=
vp_in x1 10 ∧ (((¬ (g 5 (x1).toNatClampNeg) = x2 →
  r_gives_26 Q  x1 x2 v f g) ∧
 ((g 5 (x1).toNatClampNeg) = x2 →
  vp_in x1 10 ∧ ((((g 6 (x1).toNatClampNeg) = x2 →
    r_gives_26 Q  x1 x2 v f g) ∧
   (¬ (g 6 (x1).toNatClampNeg) = x2 →
    r_gives_27 Q  x1 x2 ((nI 1)) v f g))))))
section S_gives
variable {p : Program} {l : Launch} {e : Env} {s : State} {m : MethodId} {args : Array Value} {below : List Frame} {meth : Method} {c : Code} {A : Nat → Prop} {D : va_G} {cI cJ cZ : ClassId} {a : Nat → Nat}
set_option maxRecDepth 20000 in
theorem sb_gives_77 (C : mC p s m args meth c cX12_gives 6 (some .boolean) A D cI cJ cZ) {post : Int32 → mS → Prop} {R32 : Int32 → Int64 → Int32 → Int32 → (Nat → Int32) → (Nat → Nat → Int32) → (Nat → Nat → Int64) → Prop} (hR32 : ∀ (x1 : Int32) (x2 : Int64) (x4 : Int32) (x5 : Int32) (v : Nat → Int32) (f : Nat → Nat → Int32) (g : Nat → Nat → Int64), R32 x1 x2 x4 x5 v f g → mG p l e (mRm 0 0) s m args below meth c A D cI cJ cZ a 6 (MQ below (va_Qi post (mB D cI cJ cZ a) A) args s 0 0 A) 32 [(0, .ref (a 0)), (1, .int x1), (2, .long x2), (4, .int x4), (5, .int x5)] [] v f g) (x1 : Int32) (x2 : Int64) (x5 : Int32) (t0 : Int32) (v : Nat → Int32) (f : Nat → Nat → Int32) (g : Nat → Nat → Int64) (h : r_gives_77 (fun r v f g => post r (v, f, g)) R32 x1 x2 x5 t0 v f g) : mG p l e (mRm 0 0) s m args below meth c A D cI cJ cZ a 6 (MQ below (va_Qi post (mB D cI cJ cZ a) A) args s 0 0 A) 77 [(0, .ref (a 0)), (1, .int x1), (2, .long x2), (5, .int x5)] [.int t0] v f g := by
  unfold r_gives_77 at h
  refine mg_istore C (lv' := [(4, .int t0), (0, .ref (a 0)), (1, .int x1), (2, .long x2), (5, .int x5)]) (Nat.le_of_ble_eq_true rfl) rfl dX12_gives_77 ?_
  obtain ⟨x5_1, e_x5_1⟩ : ∃ z : Int32, z = x5 + nI 1 := ⟨_, rfl⟩
  have h := h x5_1 e_x5_1
  refine mg_iinc C (lv' := [(5, .int x5_1), (4, .int t0), (0, .ref (a 0)), (1, .int x1), (2, .long x2)]) 4 rfl (by rw [e_x5_1]; rfl) (Nat.le_of_ble_eq_true rfl) rfl dX12_gives_79 ?_
  refine mg_goto C 32 (by decide) dX12_gives_82 ?_
  exact mg_sub [2, 3, 4, 1, 0] rfl (hR32 x1 x2 t0 x5_1 v f g h)
set_option maxRecDepth 20000 in
theorem sb_gives_76 (C : mC p s m args meth c cX12_gives 6 (some .boolean) A D cI cJ cZ) {post : Int32 → mS → Prop} {R32 : Int32 → Int64 → Int32 → Int32 → (Nat → Int32) → (Nat → Nat → Int32) → (Nat → Nat → Int64) → Prop} (hR32 : ∀ (x1 : Int32) (x2 : Int64) (x4 : Int32) (x5 : Int32) (v : Nat → Int32) (f : Nat → Nat → Int32) (g : Nat → Nat → Int64), R32 x1 x2 x4 x5 v f g → mG p l e (mRm 0 0) s m args below meth c A D cI cJ cZ a 6 (MQ below (va_Qi post (mB D cI cJ cZ a) A) args s 0 0 A) 32 [(0, .ref (a 0)), (1, .int x1), (2, .long x2), (4, .int x4), (5, .int x5)] [] v f g) (x1 : Int32) (x2 : Int64) (x5 : Int32) (v : Nat → Int32) (f : Nat → Nat → Int32) (g : Nat → Nat → Int64) (h : r_gives_76 (fun r v f g => post r (v, f, g)) R32 x1 x2 x5 v f g) : mG p l e (mRm 0 0) s m args below meth c A D cI cJ cZ a 6 (MQ below (va_Qi post (mB D cI cJ cZ a) A) args s 0 0 A) 76 [(0, .ref (a 0)), (1, .int x1), (2, .long x2), (5, .int x5)] [] v f g := by
  unfold r_gives_76 at h
  refine mg_iconst C (x := nI 0) rfl dX12_gives_76 ?_
  exact mg_sub [0, 1, 2, 3] rfl (sb_gives_77 C hR32 x1 x2 x5 ((nI 0)) v f g h)
set_option maxRecDepth 20000 in
theorem sb_gives_32 (C : mC p s m args meth c cX12_gives 6 (some .boolean) A D cI cJ cZ) {post : Int32 → mS → Prop} {R32 : Int32 → Int64 → Int32 → Int32 → (Nat → Int32) → (Nat → Nat → Int32) → (Nat → Nat → Int64) → Prop} (hR32 : ∀ (x1 : Int32) (x2 : Int64) (x4 : Int32) (x5 : Int32) (v : Nat → Int32) (f : Nat → Nat → Int32) (g : Nat → Nat → Int64), R32 x1 x2 x4 x5 v f g → mG p l e (mRm 0 0) s m args below meth c A D cI cJ cZ a 6 (MQ below (va_Qi post (mB D cI cJ cZ a) A) args s 0 0 A) 32 [(0, .ref (a 0)), (1, .int x1), (2, .long x2), (4, .int x4), (5, .int x5)] [] v f g) (x1 : Int32) (x2 : Int64) (x4 : Int32) (x5 : Int32) (v : Nat → Int32) (f : Nat → Nat → Int32) (g : Nat → Nat → Int64) (h : r_gives_32 (fun r v f g => post r (v, f, g)) R32 x1 x2 x4 x5 v f g) : mG p l e (mRm 0 0) s m args below meth c A D cI cJ cZ a 6 (MQ below (va_Qi post (mB D cI cJ cZ a) A) args s 0 0 A) 32 [(0, .ref (a 0)), (1, .int x1), (2, .long x2), (4, .int x4), (5, .int x5)] [] v f g := by
  unfold r_gives_32 at h
  refine mg_iload C 4 rfl dX12_gives_32 ?_
  refine mg_iload_n C (i := 1) rfl 1 rfl dX12_gives_34 ?_
  refine mg_icmp_ge C 85 (by decide) dX12_gives_35 (fun c_ => ?_) (fun c_ => ?_)
  · have h := h.1 c_
    refine mg_iload C 3 rfl dX12_gives_85 ?_
    obtain ⟨hc_87, h⟩ := h
    exact mg_zret C (isZ_nar hc_87) h dX12_gives_87
  · have h := h.2 c_
    refine mg_iload C 3 rfl dX12_gives_38 ?_
    refine mg_if_eq C 76 (by decide) dX12_gives_40 (fun c_ => ?_) (fun c_ => ?_)
    · have h := h.1 c_
      exact mg_sub [0, 1, 2, 4] rfl (sb_gives_76 C hR32 x1 x2 x5 v f g h)
    · have h := h.2 c_
      refine mg_aload_n C (i := 0) rfl 0 rfl dX12_gives_43 ?_
      refine mg_arr C 5 (by decide) (by decide) rfl mL_firsts rfl dX12_gives_44 ?_
      refine mg_iload C 4 rfl dX12_gives_47 ?_
      obtain ⟨hc_49, h⟩ := h
      refine mg_laloadR C (n := 10) 5 (by decide) (by decide) rfl rfl hc_49 dX12_gives_49 ?_
      refine mg_lload_n C (i := 2) rfl 2 rfl dX12_gives_50 ?_
      refine mg_lcmp C dX12_gives_51 ?_
      refine mg_if_neL C 72 (by decide) dX12_gives_52 (fun c_ => ?_) (fun c_ => ?_)
      · have h := h.1 c_
        refine mg_iconst C (x := nI 1) rfl dX12_gives_72 ?_
        refine mg_goto C 77 (by decide) dX12_gives_73 ?_
        exact mg_sub [0, 1, 2, 4] rfl (sb_gives_77 C hR32 x1 x2 x5 ((nI 1)) v f g h)
      · have h := h.2 c_
        refine mg_aload_n C (i := 0) rfl 0 rfl dX12_gives_55 ?_
        refine mg_arr C 6 (by decide) (by decide) rfl mL_seconds rfl dX12_gives_56 ?_
        refine mg_iload C 4 rfl dX12_gives_59 ?_
        obtain ⟨hc_61, h⟩ := h
        refine mg_laloadR C (n := 10) 6 (by decide) (by decide) rfl rfl hc_61 dX12_gives_61 ?_
        refine mg_aload_n C (i := 0) rfl 0 rfl dX12_gives_62 ?_
        refine mg_arr C 6 (by decide) (by decide) rfl mL_seconds rfl dX12_gives_63 ?_
        refine mg_iload_n C (i := 1) rfl 1 rfl dX12_gives_66 ?_
        obtain ⟨hc_67, h⟩ := h
        refine mg_laloadR C (n := 10) 6 (by decide) (by decide) rfl rfl hc_67 dX12_gives_67 ?_
        refine mg_lcmp C dX12_gives_68 ?_
        refine mg_if_eqL C 76 (by decide) dX12_gives_69 (fun c_ => ?_) (fun c_ => ?_)
        · have h := h.1 c_
          exact mg_sub [0, 1, 2, 4] rfl (sb_gives_76 C hR32 x1 x2 x5 v f g h)
        · have h := h.2 c_
          refine mg_iconst C (x := nI 1) rfl dX12_gives_72 ?_
          refine mg_goto C 77 (by decide) dX12_gives_73 ?_
          exact mg_sub [0, 1, 2, 4] rfl (sb_gives_77 C hR32 x1 x2 x5 ((nI 1)) v f g h)
set_option maxRecDepth 20000 in
theorem sl_gives_32 (C : mC p s m args meth c cX12_gives 6 (some .boolean) A D cI cJ cZ) {post : Int32 → mS → Prop}   (x1 : Int32) (x2 : Int64) (x4 : Int32) (x5 : Int32) (v : Nat → Int32) (f : Nat → Nat → Int32) (g : Nat → Nat → Int64) (h : r_gives_32L (fun r v f g => post r (v, f, g))  x1 x2 x4 x5 v f g) : mG p l e (mRm 0 0) s m args below meth c A D cI cJ cZ a 6 (MQ below (va_Qi post (mB D cI cJ cZ a) A) args s 0 0 A) 32 [(0, .ref (a 0)), (1, .int x1), (2, .long x2), (4, .int x4), (5, .int x5)] [] v f g :=
  h (fun y => mG p l e (mRm 0 0) s m args below meth c A D cI cJ cZ a 6 (MQ below (va_Qi post (mB D cI cJ cZ a) A) args s 0 0 A) 32 [(0, .ref (a 0)), (1, .int (y.1)), (2, .long (y.2.1)), (4, .int (y.2.2.1)), (5, .int (y.2.2.2.1))] [] (y.2.2.2.2.1) (y.2.2.2.2.2.1) (y.2.2.2.2.2.2)) (fun y hy => sb_gives_32 C  (fun b0 b1 b2 b3 v f g z => z) (y.1) (y.2.1) (y.2.2.1) (y.2.2.2.1) (y.2.2.2.2.1) (y.2.2.2.2.2.1) (y.2.2.2.2.2.2) hy)
set_option maxRecDepth 20000 in
theorem sb_gives_27 (C : mC p s m args meth c cX12_gives 6 (some .boolean) A D cI cJ cZ) {post : Int32 → mS → Prop}   (x1 : Int32) (x2 : Int64) (t0 : Int32) (v : Nat → Int32) (f : Nat → Nat → Int32) (g : Nat → Nat → Int64) (h : r_gives_27 (fun r v f g => post r (v, f, g))  x1 x2 t0 v f g) : mG p l e (mRm 0 0) s m args below meth c A D cI cJ cZ a 6 (MQ below (va_Qi post (mB D cI cJ cZ a) A) args s 0 0 A) 27 [(0, .ref (a 0)), (1, .int x1), (2, .long x2)] [.int t0] v f g := by
  unfold r_gives_27 at h
  refine mg_istore C (lv' := [(4, .int t0), (0, .ref (a 0)), (1, .int x1), (2, .long x2)]) (Nat.le_of_ble_eq_true rfl) rfl dX12_gives_27 ?_
  refine mg_iconst C (x := nI 0) rfl dX12_gives_29 ?_
  refine mg_istore C (lv' := [(5, .int ((nI 0))), (4, .int t0), (0, .ref (a 0)), (1, .int x1), (2, .long x2)]) (Nat.le_of_ble_eq_true rfl) rfl dX12_gives_30 ?_
  exact mg_sub [2, 3, 4, 1, 0] rfl (sl_gives_32 C  x1 x2 t0 (((nI 0))) v f g h)
set_option maxRecDepth 20000 in
theorem sb_gives_26 (C : mC p s m args meth c cX12_gives 6 (some .boolean) A D cI cJ cZ) {post : Int32 → mS → Prop}   (x1 : Int32) (x2 : Int64) (v : Nat → Int32) (f : Nat → Nat → Int32) (g : Nat → Nat → Int64) (h : r_gives_26 (fun r v f g => post r (v, f, g))  x1 x2 v f g) : mG p l e (mRm 0 0) s m args below meth c A D cI cJ cZ a 6 (MQ below (va_Qi post (mB D cI cJ cZ a) A) args s 0 0 A) 26 [(0, .ref (a 0)), (1, .int x1), (2, .long x2)] [] v f g := by
  unfold r_gives_26 at h
  refine mg_iconst C (x := nI 0) rfl dX12_gives_26 ?_
  exact mg_sub [0, 1, 2] rfl (sb_gives_27 C  x1 x2 ((nI 0)) v f g h)
end S_gives
set_option maxHeartbeats 1000000 in
set_option maxRecDepth 20000 in
theorem s_gives (l : Launch) (x1 : Int32) (x2 : Int64) (v : Nat → Int32) (f : Nat → Nat → Int32) (g : Nat → Nat → Int64) {P : Int32 → (Nat → Int32) → (Nat → Nat → Int32) → (Nat → Nat → Int64) → Prop} (h : r_gives P x1 x2 v f g) : mMi l yX12_gives cX12_gives 6 (some .boolean) 0 0 false [.int x1, .long x2] v f g (fun r w => P r w.1 w.2.1 w.2.2) := by
  intro D cI cJ cZ a sz
  refine mg_body (by decide +kernel) rfl (Nat.le_of_ble_eq_true rfl) ?_
  intro p e s m args below meth c hsz C
  clear hsz
  generalize va_A (mW cI cJ cZ a v f g) sz = A at C ⊢
  refine mg_lv (lv' := [(0, .ref (a 0)), (1, .int x1), (2, .long x2)]) rfl ?_
  unfold r_gives at h
  refine mg_aload_n C (i := 0) rfl 0 rfl dX12_gives_0 ?_
  refine mg_arr C 5 (by decide) (by decide) rfl mL_firsts rfl dX12_gives_1 ?_
  refine mg_iload_n C (i := 1) rfl 1 rfl dX12_gives_4 ?_
  obtain ⟨hc_5, h⟩ := h
  refine mg_laloadR C (n := 10) 5 (by decide) (by decide) rfl rfl hc_5 dX12_gives_5 ?_
  refine mg_lload_n C (i := 2) rfl 2 rfl dX12_gives_6 ?_
  refine mg_lcmp C dX12_gives_7 ?_
  refine mg_if_neL C 26 (by decide) dX12_gives_8 (fun c_ => ?_) (fun c_ => ?_)
  · have h := h.1 c_
    exact mg_sub [0, 1, 2] rfl (sb_gives_26 C  x1 x2 v f g h)
  · have h := h.2 c_
    refine mg_aload_n C (i := 0) rfl 0 rfl dX12_gives_11 ?_
    refine mg_arr C 6 (by decide) (by decide) rfl mL_seconds rfl dX12_gives_12 ?_
    refine mg_iload_n C (i := 1) rfl 1 rfl dX12_gives_15 ?_
    obtain ⟨hc_16, h⟩ := h
    refine mg_laloadR C (n := 10) 6 (by decide) (by decide) rfl rfl hc_16 dX12_gives_16 ?_
    refine mg_lload_n C (i := 2) rfl 2 rfl dX12_gives_17 ?_
    refine mg_lcmp C dX12_gives_18 ?_
    refine mg_if_eqL C 26 (by decide) dX12_gives_19 (fun c_ => ?_) (fun c_ => ?_)
    · have h := h.1 c_
      exact mg_sub [0, 1, 2] rfl (sb_gives_26 C  x1 x2 v f g h)
    · have h := h.2 c_
      refine mg_iconst C (x := nI 1) rfl dX12_gives_22 ?_
      refine mg_goto C 27 (by decide) dX12_gives_23 ?_
      exact mg_sub [0, 1, 2] rfl (sb_gives_27 C  x1 x2 ((nI 1)) v f g h)
def r_type_23 (Q : Int32 → (Nat → Int32) → (Nat → Nat → Int32) → (Nat → Nat → Int64) → Prop)  (x1 : Int32) (t0 : Int32) (t1 : Int32) (v : Nat → Int32) (f : Nat → Nat → Int32) (g : Nat → Nat → Int64) : Prop :=
r_goes (fun r_2 v_2 f_2 g_2 => 
((¬ r_2 = 0 →
  vp_in ((v_2 2)) 40 ∧ (∀ f3 : Nat → Nat → Int32, f3 = mU f_2 2 ((v_2 2)).toNatClampNeg x1 → ∀ v4 : Nat → Int32, v4 = upd v_2 2 ((((v_2 2)) + ((nI 1)))) → Q ((v4 2)) v4 f3 g_2)) ∧
 (r_2 = 0 →
  Q ((nI 0)) v_2 f_2 g_2))) t1 t0 ((nI 1)) v f g
def r_type (Q : Int32 → (Nat → Int32) → (Nat → Nat → Int32) → (Nat → Nat → Int64) → Prop) (x1 : Int32) (v : Nat → Int32) (f : Nat → Nat → Int32) (g : Nat → Nat → Int64) : Prop :=
r_in (fun r_1 v_1 f_1 g_1 => 
((((nI 40)) ≤ ((v_1 2)) →
  r_type_23 Q  x1 ((nI 0)) r_1 v_1 f_1 g_1) ∧
 (¬ ((nI 40)) ≤ ((v_1 2)) →
  r_type_23 Q  x1 ((nI 1)) r_1 v_1 f_1 g_1))) x1 ((nI 32)) ((nI 126)) v f g
section S_type
variable {p : Program} {l : Launch} {e : Env} {s : State} {m : MethodId} {args : Array Value} {below : List Frame} {meth : Method} {c : Code} {A : Nat → Prop} {D : va_G} {cI cJ cZ : ClassId} {a : Nat → Nat}
set_option maxRecDepth 20000 in
theorem sb_type_23 (C : mC p s m args meth c cX12_type 2 (some .int) A D cI cJ cZ) {post : Int32 → mS → Prop}   (x1 : Int32) (t0 : Int32) (t1 : Int32) (v : Nat → Int32) (f : Nat → Nat → Int32) (g : Nat → Nat → Int64) (h : r_type_23 (fun r v f g => post r (v, f, g))  x1 t0 t1 v f g) : mG p l e (mRm 1 23) s m args below meth c A D cI cJ cZ a 2 (MQ below (va_Qi post (mB D cI cJ cZ a) A) args s 0 0 A) 23 [(0, .ref (a 0)), (1, .int x1)] [.int t0, .int t1, .ref (a 0)] v f g := by
  unfold r_type_23 at h
  refine mg_iconst C (x := nI 1) rfl dX12_type_23 ?_
  refine mg_calliW C (s_goes l t1 t0 ((nI 1)) v f g h) mCal_goes rfl ⟨by decide, by decide⟩ rfl (Nat.le_of_ble_eq_true rfl) dX12_type_24 (fun r_2 v_2 f_2 g_2 h => ?_)
  refine mg_if_ne C 32 (by decide) dX12_type_27 (fun c_ => ?_) (fun c_ => ?_)
  · have h := h.1 c_
    refine mg_aload_n C (i := 0) rfl 0 rfl dX12_type_32 ?_
    refine mg_arr C 2 (by decide) (by decide) rfl mL_pad rfl dX12_type_33 ?_
    refine mg_aload_n C (i := 0) rfl 0 rfl dX12_type_36 ?_
    refine mg_getI C (k := 2) (by decide) rfl mL_padded rfl dX12_type_37 ?_
    refine mg_iload_n C (i := 1) rfl 1 rfl dX12_type_40 ?_
    obtain ⟨hc_41, h⟩ := h
    refine mg_iastoreR C (n := 40) 2 (by decide) (by decide) rfl rfl hc_41 dX12_type_41 ?_
    refine mg_nmF (fun f3 e_f3 => ?_)
    have h := h f3 e_f3
    refine mg_aload_n C (i := 0) rfl 0 rfl dX12_type_42 ?_
    refine mg_dup C rfl dX12_type_43 ?_
    refine mg_getI C (k := 2) (by decide) rfl mL_padded rfl dX12_type_44 ?_
    refine mg_iconst C (x := nI 1) rfl dX12_type_47 ?_
    refine mg_iadd C dX12_type_48 ?_
    refine mg_put C (k := 2) (by decide) rfl mL_padded rfl (by decide +kernel) mT_padded rfl rfl dX12_type_49 ?_
    refine mg_nmV (fun v4 e_v4 => ?_)
    have h := h v4 e_v4
    refine mg_aload_n C (i := 0) rfl 0 rfl dX12_type_52 ?_
    refine mg_getI C (k := 2) (by decide) rfl mL_padded rfl dX12_type_53 ?_
    exact mg_iret C h dX12_type_56
  · have h := h.2 c_
    refine mg_iconst C (x := nI 0) rfl dX12_type_30 ?_
    exact mg_iret C h dX12_type_31
end S_type
set_option maxHeartbeats 1000000 in
set_option maxRecDepth 20000 in
theorem s_type (l : Launch) (x1 : Int32) (v : Nat → Int32) (f : Nat → Nat → Int32) (g : Nat → Nat → Int64) {P : Int32 → (Nat → Int32) → (Nat → Nat → Int32) → (Nat → Nat → Int64) → Prop} (h : r_type P x1 v f g) : mMi l yX12_type cX12_type 2 (some .int) 1 23 false [.int x1] v f g (fun r w => P r w.1 w.2.1 w.2.2) := by
  intro D cI cJ cZ a sz
  refine mg_body (by decide +kernel) rfl (Nat.le_of_ble_eq_true rfl) ?_
  intro p e s m args below meth c hsz C
  clear hsz
  generalize va_A (mW cI cJ cZ a v f g) sz = A at C ⊢
  refine mg_lv (lv' := [(0, .ref (a 0)), (1, .int x1)]) rfl ?_
  unfold r_type at h
  refine mg_aload_n C (i := 0) rfl 0 rfl dX12_type_0 ?_
  refine mg_iload_n C (i := 1) rfl 1 rfl dX12_type_1 ?_
  refine mg_bipush C (x := nI 32) rfl dX12_type_2 ?_
  refine mg_bipush C (x := nI 126) rfl dX12_type_4 ?_
  refine mg_callsiW C (s_in l x1 ((nI 32)) ((nI 126)) v f g h) mCal_in rfl ⟨by decide, by decide⟩ rfl (Nat.le_of_ble_eq_true rfl) dX12_type_6 (fun r_1 v_1 f_1 g_1 h => ?_)
  refine mg_aload_n C (i := 0) rfl 0 rfl dX12_type_9 ?_
  refine mg_getI C (k := 2) (by decide) rfl mL_padded rfl dX12_type_10 ?_
  refine mg_bipush C (x := nI 40) rfl dX12_type_13 ?_
  refine mg_icmp_ge C 22 (by decide) dX12_type_15 (fun c_ => ?_) (fun c_ => ?_)
  · have h := h.1 c_
    refine mg_iconst C (x := nI 0) rfl dX12_type_22 ?_
    exact mg_sub [0, 1] rfl (sb_type_23 C  x1 ((nI 0)) r_1 v_1 f_1 g_1 h)
  · have h := h.2 c_
    refine mg_iconst C (x := nI 1) rfl dX12_type_18 ?_
    refine mg_goto C 23 (by decide) dX12_type_19 ?_
    exact mg_sub [0, 1] rfl (sb_type_23 C  x1 ((nI 1)) r_1 v_1 f_1 g_1 h)
def r_wipe (Q : Int32 → (Nat → Int32) → (Nat → Nat → Int32) → (Nat → Nat → Int64) → Prop)  (v : Nat → Int32) (f : Nat → Nat → Int32) (g : Nat → Nat → Int64) : Prop :=
∀ v1 : Nat → Int32, v1 = upd v 99 ((nI 0)) → ∀ x1_2 : Int32, x1_2 = (v1 2) → ∀ v3 : Nat → Int32, v3 = upd v1 2 ((nI 0)) → Q x1_2 v3 f g
set_option maxHeartbeats 1000000 in
set_option maxRecDepth 20000 in
theorem s_wipe (l : Launch)  (v : Nat → Int32) (f : Nat → Nat → Int32) (g : Nat → Nat → Int64) {P : Int32 → (Nat → Int32) → (Nat → Nat → Int32) → (Nat → Nat → Int64) → Prop} (h : r_wipe P  v f g) : mMi l yX12_wipe cX12_wipe 2 (some .int) 0 0 false [] v f g (fun r w => P r w.1 w.2.1 w.2.2) := by
  intro D cI cJ cZ a sz
  refine mg_body (by decide +kernel) rfl (Nat.le_of_ble_eq_true rfl) ?_
  intro p e s m args below meth c hsz C
  clear hsz
  generalize va_A (mW cI cJ cZ a v f g) sz = A at C ⊢
  refine mg_lv (lv' := [(0, .ref (a 0))]) rfl ?_
  unfold r_wipe at h
  refine mg_aload_n C (i := 0) rfl 0 rfl dX12_wipe_0 ?_
  refine mg_iconst C (x := nI 0) rfl dX12_wipe_1 ?_
  refine mg_put C (k := 99) (by decide) rfl mL_last rfl (by decide +kernel) mT_last rfl rfl dX12_wipe_2 ?_
  refine mg_nmV (fun v1 e_v1 => ?_)
  have h := h v1 e_v1
  refine mg_aload_n C (i := 0) rfl 0 rfl dX12_wipe_5 ?_
  refine mg_getI C (k := 2) (by decide) rfl mL_padded rfl dX12_wipe_6 ?_
  refine mg_nmI (fun x1_2 e_x1_2 => ?_)
  have h := h x1_2 e_x1_2
  refine mg_istore_n C (i := 1) (lv' := [(1, .int x1_2), (0, .ref (a 0))]) rfl (Nat.le_of_ble_eq_true rfl) rfl dX12_wipe_9 ?_
  refine mg_aload_n C (i := 0) rfl 1 rfl dX12_wipe_10 ?_
  refine mg_iconst C (x := nI 0) rfl dX12_wipe_11 ?_
  refine mg_put C (k := 2) (by decide) rfl mL_padded rfl (by decide +kernel) mT_padded rfl rfl dX12_wipe_12 ?_
  refine mg_nmV (fun v3 e_v3 => ?_)
  have h := h v3 e_v3
  refine mg_iload_n C (i := 1) rfl 0 rfl dX12_wipe_15 ?_
  exact mg_iret C h dX12_wipe_16
def r_stop_83 (Q : Int32 → (Nat → Int32) → (Nat → Nat → Int32) → (Nat → Nat → Int64) → Prop)   (v : Nat → Int32) (f : Nat → Nat → Int32) (g : Nat → Nat → Int64) : Prop :=
∀ v5 : Nat → Int32, v5 = upd v 2 ((nI 0)) → Q ((v5 6)) v5 f g
def r_stop_34 (Q : Int32 → (Nat → Int32) → (Nat → Nat → Int32) → (Nat → Nat → Int64) → Prop)  (t0 : Int32) (v : Nat → Int32) (f : Nat → Nat → Int32) (g : Nat → Nat → Int64) : Prop :=
r_goes (fun r_2 v_2 f_2 g_2 => 
((¬ r_2 = 0 →
  vp_in ((nI 0)) 20 ∧ (r_stem (fun r_3 v_3 f_3 g_3 => 
  r_isStop (fun r_4 v_4 f_4 g_4 => 
  ((¬ r_4 = 0 →
    r_stop_83 Q  v_4 f_4 g_4) ∧
   (r_4 = 0 →
    vp_in ((v_4 6)) 10 ∧ (∀ g6 : Nat → Nat → Int64, g6 = mU g_4 4 ((v_4 6)).toNatClampNeg r_3 → ∀ v7 : Nat → Int32, v7 = upd v_4 6 ((((v_4 6)) + ((nI 1)))) → r_stop_83 Q  v7 f_4 g6)))) r_3 v_3 f_3 g_3) (g_2 3 ((nI 0)).toNatClampNeg) v_2 f_2 g_2)) ∧
 (r_2 = 0 →
  Q ((nI 0)) v_2 f_2 g_2))) t0 ((nI 1)) ((nI 1)) v f g
def r_stop_33 (Q : Int32 → (Nat → Int32) → (Nat → Nat → Int32) → (Nat → Nat → Int64) → Prop)   (v : Nat → Int32) (f : Nat → Nat → Int32) (g : Nat → Nat → Int64) : Prop :=
r_stop_34 Q  ((nI 0)) v f g
def r_stop (Q : Int32 → (Nat → Int32) → (Nat → Nat → Int32) → (Nat → Nat → Int64) → Prop)  (v : Nat → Int32) (f : Nat → Nat → Int32) (g : Nat → Nat → Int64) : Prop :=
r_reads (fun v_1 f_1 g_1 => 
((¬ ((v_1 4)) = ((nI 1)) →
  r_stop_33 Q  v_1 f_1 g_1) ∧
 (((v_1 4)) = ((nI 1)) →
  ((((nI 10)) ≤ ((v_1 6)) →
    r_stop_33 Q  v_1 f_1 g_1) ∧
   (¬ ((nI 10)) ≤ ((v_1 6)) →
    ((¬ ((v_1 10)) = 0 →
      r_stop_33 Q  v_1 f_1 g_1) ∧
     (((v_1 10)) = 0 →
      r_stop_34 Q  ((nI 1)) v_1 f_1 g_1)))))))  v f g
section S_stop
variable {p : Program} {l : Launch} {e : Env} {s : State} {m : MethodId} {args : Array Value} {below : List Frame} {meth : Method} {c : Code} {A : Nat → Prop} {D : va_G} {cI cJ cZ : ClassId} {a : Nat → Nat}
set_option maxRecDepth 20000 in
theorem sb_stop_83 (C : mC p s m args meth c cX12_stop 3 (some .int) A D cI cJ cZ) {post : Int32 → mS → Prop}    (v : Nat → Int32) (f : Nat → Nat → Int32) (g : Nat → Nat → Int64) (h : r_stop_83 (fun r v f g => post r (v, f, g))   v f g) : mG p l e (mRm 4 90) s m args below meth c A D cI cJ cZ a 3 (MQ below (va_Qi post (mB D cI cJ cZ a) A) args s 0 0 A) 83 [(0, .ref (a 0))] [] v f g := by
  unfold r_stop_83 at h
  refine mg_aload_n C (i := 0) rfl 0 rfl dX12_stop_83 ?_
  refine mg_iconst C (x := nI 0) rfl dX12_stop_84 ?_
  refine mg_put C (k := 2) (by decide) rfl mL_padded rfl (by decide +kernel) mT_padded rfl rfl dX12_stop_85 ?_
  refine mg_nmV (fun v5 e_v5 => ?_)
  have h := h v5 e_v5
  refine mg_aload_n C (i := 0) rfl 0 rfl dX12_stop_88 ?_
  refine mg_getI C (k := 6) (by decide) rfl mL_stopped rfl dX12_stop_89 ?_
  exact mg_iret C h dX12_stop_92
set_option maxRecDepth 20000 in
theorem sb_stop_34 (C : mC p s m args meth c cX12_stop 3 (some .int) A D cI cJ cZ) {post : Int32 → mS → Prop}   (t0 : Int32) (v : Nat → Int32) (f : Nat → Nat → Int32) (g : Nat → Nat → Int64) (h : r_stop_34 (fun r v f g => post r (v, f, g))  t0 v f g) : mG p l e (mRm 4 90) s m args below meth c A D cI cJ cZ a 3 (MQ below (va_Qi post (mB D cI cJ cZ a) A) args s 0 0 A) 34 [(0, .ref (a 0))] [.int t0, .ref (a 0)] v f g := by
  unfold r_stop_34 at h
  refine mg_iconst C (x := nI 1) rfl dX12_stop_34 ?_
  refine mg_iconst C (x := nI 1) rfl dX12_stop_35 ?_
  refine mg_calliW C (s_goes l t0 ((nI 1)) ((nI 1)) v f g h) mCal_goes rfl ⟨by decide, by decide⟩ rfl (Nat.le_of_ble_eq_true rfl) dX12_stop_36 (fun r_2 v_2 f_2 g_2 h => ?_)
  refine mg_if_ne C 44 (by decide) dX12_stop_39 (fun c_ => ?_) (fun c_ => ?_)
  · have h := h.1 c_
    refine mg_aload_n C (i := 0) rfl 0 rfl dX12_stop_44 ?_
    refine mg_aload_n C (i := 0) rfl 0 rfl dX12_stop_45 ?_
    refine mg_arr C 3 (by decide) (by decide) rfl mL_words rfl dX12_stop_46 ?_
    refine mg_iconst C (x := nI 0) rfl dX12_stop_49 ?_
    obtain ⟨hc_50, h⟩ := h
    refine mg_laloadR C (n := 20) 3 (by decide) (by decide) rfl rfl hc_50 dX12_stop_50 ?_
    refine mg_calllW C (s_stem l (g_2 3 ((nI 0)).toNatClampNeg) v_2 f_2 g_2 h) mCal_stem rfl ⟨by decide, by decide⟩ rfl (Nat.le_of_ble_eq_true rfl) dX12_stop_51 (fun r_3 v_3 f_3 g_3 h => ?_)
    refine mg_lstore_n C (i := 1) (lv' := [(1, .long r_3), (0, .ref (a 0))]) rfl (Nat.le_of_ble_eq_true rfl) rfl dX12_stop_54 ?_
    refine mg_aload_n C (i := 0) rfl 1 rfl dX12_stop_55 ?_
    refine mg_lload_n C (i := 1) rfl 0 rfl dX12_stop_56 ?_
    refine mg_calliW C (s_isStop l r_3 v_3 f_3 g_3 h) mCal_isStop rfl ⟨by decide, by decide⟩ rfl (Nat.le_of_ble_eq_true rfl) dX12_stop_57 (fun r_4 v_4 f_4 g_4 h => ?_)
    refine mg_if_ne C 83 (by decide) dX12_stop_60 (fun c_ => ?_) (fun c_ => ?_)
    · have h := h.1 c_
      exact mg_sub [1] rfl (sb_stop_83 C  v_4 f_4 g_4 h)
    · have h := h.2 c_
      refine mg_aload_n C (i := 0) rfl 1 rfl dX12_stop_63 ?_
      refine mg_arr C 4 (by decide) (by decide) rfl mL_stops rfl dX12_stop_64 ?_
      refine mg_aload_n C (i := 0) rfl 1 rfl dX12_stop_67 ?_
      refine mg_getI C (k := 6) (by decide) rfl mL_stopped rfl dX12_stop_68 ?_
      refine mg_lload_n C (i := 1) rfl 0 rfl dX12_stop_71 ?_
      obtain ⟨hc_72, h⟩ := h
      refine mg_lastoreR C (n := 10) 4 (by decide) (by decide) rfl rfl hc_72 dX12_stop_72 ?_
      refine mg_nmG (fun g6 e_g6 => ?_)
      have h := h g6 e_g6
      refine mg_aload_n C (i := 0) rfl 1 rfl dX12_stop_73 ?_
      refine mg_dup C rfl dX12_stop_74 ?_
      refine mg_getI C (k := 6) (by decide) rfl mL_stopped rfl dX12_stop_75 ?_
      refine mg_iconst C (x := nI 1) rfl dX12_stop_78 ?_
      refine mg_iadd C dX12_stop_79 ?_
      refine mg_put C (k := 6) (by decide) rfl mL_stopped rfl (by decide +kernel) mT_stopped rfl rfl dX12_stop_80 ?_
      refine mg_nmV (fun v7 e_v7 => ?_)
      have h := h v7 e_v7
      exact mg_sub [1] rfl (sb_stop_83 C  v7 f_4 g6 h)
  · have h := h.2 c_
    refine mg_iconst C (x := nI 0) rfl dX12_stop_42 ?_
    exact mg_iret C h dX12_stop_43
set_option maxRecDepth 20000 in
theorem sb_stop_33 (C : mC p s m args meth c cX12_stop 3 (some .int) A D cI cJ cZ) {post : Int32 → mS → Prop}    (v : Nat → Int32) (f : Nat → Nat → Int32) (g : Nat → Nat → Int64) (h : r_stop_33 (fun r v f g => post r (v, f, g))   v f g) : mG p l e (mRm 4 90) s m args below meth c A D cI cJ cZ a 3 (MQ below (va_Qi post (mB D cI cJ cZ a) A) args s 0 0 A) 33 [(0, .ref (a 0))] [.ref (a 0)] v f g := by
  unfold r_stop_33 at h
  refine mg_iconst C (x := nI 0) rfl dX12_stop_33 ?_
  exact mg_sub [0] rfl (sb_stop_34 C  ((nI 0)) v f g h)
end S_stop
set_option maxHeartbeats 1000000 in
set_option maxRecDepth 20000 in
theorem s_stop (l : Launch)  (v : Nat → Int32) (f : Nat → Nat → Int32) (g : Nat → Nat → Int64) {P : Int32 → (Nat → Int32) → (Nat → Nat → Int32) → (Nat → Nat → Int64) → Prop} (h : r_stop P  v f g) : mMi l yX12_stop cX12_stop 3 (some .int) 4 90 false [] v f g (fun r w => P r w.1 w.2.1 w.2.2) := by
  intro D cI cJ cZ a sz
  refine mg_body (by decide +kernel) rfl (Nat.le_of_ble_eq_true rfl) ?_
  intro p e s m args below meth c hsz C
  clear hsz
  generalize va_A (mW cI cJ cZ a v f g) sz = A at C ⊢
  refine mg_lv (lv' := [(0, .ref (a 0))]) rfl ?_
  unfold r_stop at h
  refine mg_aload_n C (i := 0) rfl 0 rfl dX12_stop_0 ?_
  refine mg_callvW C (s_reads l  v f g h) mCal_reads rfl ⟨by decide, by decide⟩ rfl (Nat.le_of_ble_eq_true rfl) dX12_stop_1 (fun v_1 f_1 g_1 h => ?_)
  refine mg_aload_n C (i := 0) rfl 0 rfl dX12_stop_4 ?_
  refine mg_aload_n C (i := 0) rfl 0 rfl dX12_stop_5 ?_
  refine mg_getI C (k := 4) (by decide) rfl mL_worded rfl dX12_stop_6 ?_
  refine mg_iconst C (x := nI 1) rfl dX12_stop_9 ?_
  refine mg_icmp_ne C 33 (by decide) dX12_stop_10 (fun c_ => ?_) (fun c_ => ?_)
  · have h := h.1 c_
    exact mg_sub [0] rfl (sb_stop_33 C  v_1 f_1 g_1 h)
  · have h := h.2 c_
    refine mg_aload_n C (i := 0) rfl 0 rfl dX12_stop_13 ?_
    refine mg_getI C (k := 6) (by decide) rfl mL_stopped rfl dX12_stop_14 ?_
    refine mg_bipush C (x := nI 10) rfl dX12_stop_17 ?_
    refine mg_icmp_ge C 33 (by decide) dX12_stop_19 (fun c_ => ?_) (fun c_ => ?_)
    · have h := h.1 c_
      exact mg_sub [0] rfl (sb_stop_33 C  v_1 f_1 g_1 h)
    · have h := h.2 c_
      refine mg_aload_n C (i := 0) rfl 0 rfl dX12_stop_22 ?_
      refine mg_getI C (k := 10) (by decide) rfl mL_added rfl dX12_stop_23 ?_
      refine mg_if_ne C 33 (by decide) dX12_stop_26 (fun c_ => ?_) (fun c_ => ?_)
      · have h := h.1 c_
        exact mg_sub [0] rfl (sb_stop_33 C  v_1 f_1 g_1 h)
      · have h := h.2 c_
        refine mg_iconst C (x := nI 1) rfl dX12_stop_29 ?_
        refine mg_goto C 34 (by decide) dX12_stop_30 ?_
        exact mg_sub [0] rfl (sb_stop_34 C  ((nI 1)) v_1 f_1 g_1 h)
def r_synonym_34 (Q : Int32 → (Nat → Int32) → (Nat → Nat → Int32) → (Nat → Nat → Int64) → Prop)  (t0 : Int32) (v : Nat → Int32) (f : Nat → Nat → Int32) (g : Nat → Nat → Int64) : Prop :=
r_goes (fun r_2 v_2 f_2 g_2 => 
((¬ r_2 = 0 →
  vp_in ((nI 0)) 20 ∧ (r_stem (fun r_3 v_3 f_3 g_3 => 
  vp_in ((v_2 9)) 10 ∧ (∀ g4 : Nat → Nat → Int64, g4 = mU g_3 5 ((v_2 9)).toNatClampNeg r_3 → vp_in ((nI 1)) 20 ∧ (r_stem (fun r_5 v_5 f_5 g_5 => 
  vp_in ((v_3 9)) 10 ∧ (∀ g6 : Nat → Nat → Int64, g6 = mU g_5 6 ((v_3 9)).toNatClampNeg r_5 → ∀ v7 : Nat → Int32, v7 = upd v_5 9 ((((v_5 9)) + ((nI 1)))) → ∀ v8 : Nat → Int32, v8 = upd v7 2 ((nI 0)) → Q ((v8 9)) v8 f_5 g6)) (g4 3 ((nI 1)).toNatClampNeg) v_3 f_3 g4))) (g_2 3 ((nI 0)).toNatClampNeg) v_2 f_2 g_2)) ∧
 (r_2 = 0 →
  Q ((nI 0)) v_2 f_2 g_2))) t0 ((nI 1)) ((nI 1)) v f g
def r_synonym_33 (Q : Int32 → (Nat → Int32) → (Nat → Nat → Int32) → (Nat → Nat → Int64) → Prop)   (v : Nat → Int32) (f : Nat → Nat → Int32) (g : Nat → Nat → Int64) : Prop :=
r_synonym_34 Q  ((nI 0)) v f g
def r_synonym (Q : Int32 → (Nat → Int32) → (Nat → Nat → Int32) → (Nat → Nat → Int64) → Prop)  (v : Nat → Int32) (f : Nat → Nat → Int32) (g : Nat → Nat → Int64) : Prop :=
r_reads (fun v_1 f_1 g_1 => 
((¬ ((v_1 4)) = ((nI 2)) →
  r_synonym_33 Q  v_1 f_1 g_1) ∧
 (((v_1 4)) = ((nI 2)) →
  ((((nI 10)) ≤ ((v_1 9)) →
    r_synonym_33 Q  v_1 f_1 g_1) ∧
   (¬ ((nI 10)) ≤ ((v_1 9)) →
    ((¬ ((v_1 10)) = 0 →
      r_synonym_33 Q  v_1 f_1 g_1) ∧
     (((v_1 10)) = 0 →
      r_synonym_34 Q  ((nI 1)) v_1 f_1 g_1)))))))  v f g
section S_synonym
variable {p : Program} {l : Launch} {e : Env} {s : State} {m : MethodId} {args : Array Value} {below : List Frame} {meth : Method} {c : Code} {A : Nat → Prop} {D : va_G} {cI cJ cZ : ClassId} {a : Nat → Nat}
set_option maxRecDepth 20000 in
theorem sb_synonym_34 (C : mC p s m args meth c cX12_synonym 1 (some .int) A D cI cJ cZ) {post : Int32 → mS → Prop}   (t0 : Int32) (v : Nat → Int32) (f : Nat → Nat → Int32) (g : Nat → Nat → Int64) (h : r_synonym_34 (fun r v f g => post r (v, f, g))  t0 v f g) : mG p l e (mRm 4 90) s m args below meth c A D cI cJ cZ a 1 (MQ below (va_Qi post (mB D cI cJ cZ a) A) args s 0 0 A) 34 [(0, .ref (a 0))] [.int t0, .ref (a 0)] v f g := by
  unfold r_synonym_34 at h
  refine mg_iconst C (x := nI 1) rfl dX12_synonym_34 ?_
  refine mg_iconst C (x := nI 1) rfl dX12_synonym_35 ?_
  refine mg_calliW C (s_goes l t0 ((nI 1)) ((nI 1)) v f g h) mCal_goes rfl ⟨by decide, by decide⟩ rfl (Nat.le_of_ble_eq_true rfl) dX12_synonym_36 (fun r_2 v_2 f_2 g_2 h => ?_)
  refine mg_if_ne C 44 (by decide) dX12_synonym_39 (fun c_ => ?_) (fun c_ => ?_)
  · have h := h.1 c_
    refine mg_aload_n C (i := 0) rfl 0 rfl dX12_synonym_44 ?_
    refine mg_arr C 5 (by decide) (by decide) rfl mL_firsts rfl dX12_synonym_45 ?_
    refine mg_aload_n C (i := 0) rfl 0 rfl dX12_synonym_48 ?_
    refine mg_getI C (k := 9) (by decide) rfl mL_synonyms rfl dX12_synonym_49 ?_
    refine mg_aload_n C (i := 0) rfl 0 rfl dX12_synonym_52 ?_
    refine mg_aload_n C (i := 0) rfl 0 rfl dX12_synonym_53 ?_
    refine mg_arr C 3 (by decide) (by decide) rfl mL_words rfl dX12_synonym_54 ?_
    refine mg_iconst C (x := nI 0) rfl dX12_synonym_57 ?_
    obtain ⟨hc_58, h⟩ := h
    refine mg_laloadR C (n := 20) 3 (by decide) (by decide) rfl rfl hc_58 dX12_synonym_58 ?_
    refine mg_calllW C (s_stem l (g_2 3 ((nI 0)).toNatClampNeg) v_2 f_2 g_2 h) mCal_stem rfl ⟨by decide, by decide⟩ rfl (Nat.le_of_ble_eq_true rfl) dX12_synonym_59 (fun r_3 v_3 f_3 g_3 h => ?_)
    obtain ⟨hc_62, h⟩ := h
    refine mg_lastoreR C (n := 10) 5 (by decide) (by decide) rfl rfl hc_62 dX12_synonym_62 ?_
    refine mg_nmG (fun g4 e_g4 => ?_)
    have h := h g4 e_g4
    refine mg_aload_n C (i := 0) rfl 0 rfl dX12_synonym_63 ?_
    refine mg_arr C 6 (by decide) (by decide) rfl mL_seconds rfl dX12_synonym_64 ?_
    refine mg_aload_n C (i := 0) rfl 0 rfl dX12_synonym_67 ?_
    refine mg_getI C (k := 9) (by decide) rfl mL_synonyms rfl dX12_synonym_68 ?_
    refine mg_aload_n C (i := 0) rfl 0 rfl dX12_synonym_71 ?_
    refine mg_aload_n C (i := 0) rfl 0 rfl dX12_synonym_72 ?_
    refine mg_arr C 3 (by decide) (by decide) rfl mL_words rfl dX12_synonym_73 ?_
    refine mg_iconst C (x := nI 1) rfl dX12_synonym_76 ?_
    obtain ⟨hc_77, h⟩ := h
    refine mg_laloadR C (n := 20) 3 (by decide) (by decide) rfl rfl hc_77 dX12_synonym_77 ?_
    refine mg_calllW C (s_stem l (g4 3 ((nI 1)).toNatClampNeg) v_3 f_3 g4 h) mCal_stem rfl ⟨by decide, by decide⟩ rfl (Nat.le_of_ble_eq_true rfl) dX12_synonym_78 (fun r_5 v_5 f_5 g_5 h => ?_)
    obtain ⟨hc_81, h⟩ := h
    refine mg_lastoreR C (n := 10) 6 (by decide) (by decide) rfl rfl hc_81 dX12_synonym_81 ?_
    refine mg_nmG (fun g6 e_g6 => ?_)
    have h := h g6 e_g6
    refine mg_aload_n C (i := 0) rfl 0 rfl dX12_synonym_82 ?_
    refine mg_dup C rfl dX12_synonym_83 ?_
    refine mg_getI C (k := 9) (by decide) rfl mL_synonyms rfl dX12_synonym_84 ?_
    refine mg_iconst C (x := nI 1) rfl dX12_synonym_87 ?_
    refine mg_iadd C dX12_synonym_88 ?_
    refine mg_put C (k := 9) (by decide) rfl mL_synonyms rfl (by decide +kernel) mT_synonyms rfl rfl dX12_synonym_89 ?_
    refine mg_nmV (fun v7 e_v7 => ?_)
    have h := h v7 e_v7
    refine mg_aload_n C (i := 0) rfl 0 rfl dX12_synonym_92 ?_
    refine mg_iconst C (x := nI 0) rfl dX12_synonym_93 ?_
    refine mg_put C (k := 2) (by decide) rfl mL_padded rfl (by decide +kernel) mT_padded rfl rfl dX12_synonym_94 ?_
    refine mg_nmV (fun v8 e_v8 => ?_)
    have h := h v8 e_v8
    refine mg_aload_n C (i := 0) rfl 0 rfl dX12_synonym_97 ?_
    refine mg_getI C (k := 9) (by decide) rfl mL_synonyms rfl dX12_synonym_98 ?_
    exact mg_iret C h dX12_synonym_101
  · have h := h.2 c_
    refine mg_iconst C (x := nI 0) rfl dX12_synonym_42 ?_
    exact mg_iret C h dX12_synonym_43
set_option maxRecDepth 20000 in
theorem sb_synonym_33 (C : mC p s m args meth c cX12_synonym 1 (some .int) A D cI cJ cZ) {post : Int32 → mS → Prop}    (v : Nat → Int32) (f : Nat → Nat → Int32) (g : Nat → Nat → Int64) (h : r_synonym_33 (fun r v f g => post r (v, f, g))   v f g) : mG p l e (mRm 4 90) s m args below meth c A D cI cJ cZ a 1 (MQ below (va_Qi post (mB D cI cJ cZ a) A) args s 0 0 A) 33 [(0, .ref (a 0))] [.ref (a 0)] v f g := by
  unfold r_synonym_33 at h
  refine mg_iconst C (x := nI 0) rfl dX12_synonym_33 ?_
  exact mg_sub [0] rfl (sb_synonym_34 C  ((nI 0)) v f g h)
end S_synonym
set_option maxHeartbeats 1000000 in
set_option maxRecDepth 20000 in
theorem s_synonym (l : Launch)  (v : Nat → Int32) (f : Nat → Nat → Int32) (g : Nat → Nat → Int64) {P : Int32 → (Nat → Int32) → (Nat → Nat → Int32) → (Nat → Nat → Int64) → Prop} (h : r_synonym P  v f g) : mMi l yX12_synonym cX12_synonym 1 (some .int) 4 90 false [] v f g (fun r w => P r w.1 w.2.1 w.2.2) := by
  intro D cI cJ cZ a sz
  refine mg_body (by decide +kernel) rfl (Nat.le_of_ble_eq_true rfl) ?_
  intro p e s m args below meth c hsz C
  clear hsz
  generalize va_A (mW cI cJ cZ a v f g) sz = A at C ⊢
  refine mg_lv (lv' := [(0, .ref (a 0))]) rfl ?_
  unfold r_synonym at h
  refine mg_aload_n C (i := 0) rfl 0 rfl dX12_synonym_0 ?_
  refine mg_callvW C (s_reads l  v f g h) mCal_reads rfl ⟨by decide, by decide⟩ rfl (Nat.le_of_ble_eq_true rfl) dX12_synonym_1 (fun v_1 f_1 g_1 h => ?_)
  refine mg_aload_n C (i := 0) rfl 0 rfl dX12_synonym_4 ?_
  refine mg_aload_n C (i := 0) rfl 0 rfl dX12_synonym_5 ?_
  refine mg_getI C (k := 4) (by decide) rfl mL_worded rfl dX12_synonym_6 ?_
  refine mg_iconst C (x := nI 2) rfl dX12_synonym_9 ?_
  refine mg_icmp_ne C 33 (by decide) dX12_synonym_10 (fun c_ => ?_) (fun c_ => ?_)
  · have h := h.1 c_
    exact mg_sub [0] rfl (sb_synonym_33 C  v_1 f_1 g_1 h)
  · have h := h.2 c_
    refine mg_aload_n C (i := 0) rfl 0 rfl dX12_synonym_13 ?_
    refine mg_getI C (k := 9) (by decide) rfl mL_synonyms rfl dX12_synonym_14 ?_
    refine mg_bipush C (x := nI 10) rfl dX12_synonym_17 ?_
    refine mg_icmp_ge C 33 (by decide) dX12_synonym_19 (fun c_ => ?_) (fun c_ => ?_)
    · have h := h.1 c_
      exact mg_sub [0] rfl (sb_synonym_33 C  v_1 f_1 g_1 h)
    · have h := h.2 c_
      refine mg_aload_n C (i := 0) rfl 0 rfl dX12_synonym_22 ?_
      refine mg_getI C (k := 10) (by decide) rfl mL_added rfl dX12_synonym_23 ?_
      refine mg_if_ne C 33 (by decide) dX12_synonym_26 (fun c_ => ?_) (fun c_ => ?_)
      · have h := h.1 c_
        exact mg_sub [0] rfl (sb_synonym_33 C  v_1 f_1 g_1 h)
      · have h := h.2 c_
        refine mg_iconst C (x := nI 1) rfl dX12_synonym_29 ?_
        refine mg_goto C 34 (by decide) dX12_synonym_30 ?_
        exact mg_sub [0] rfl (sb_synonym_34 C  ((nI 1)) v_1 f_1 g_1 h)
def r_text_131 (Q : Int32 → (Nat → Int32) → (Nat → Nat → Int32) → (Nat → Nat → Int64) → Prop) (R35 : Int32 → Int32 → Int32 → (Nat → Int32) → (Nat → Nat → Int32) → (Nat → Nat → Int64) → Prop) (x1 : Int32) (x2 : Int32) (x3 : Int32) (v : Nat → Int32) (f : Nat → Nat → Int32) (g : Nat → Nat → Int64) : Prop :=
∀ x3_10 : Int32, x3_10 = x3 + nI 1 → R35 x1 x2 x3_10 v f g
def r_text_123 (Q : Int32 → (Nat → Int32) → (Nat → Nat → Int32) → (Nat → Nat → Int64) → Prop) (R35 : Int32 → Int32 → Int32 → (Nat → Int32) → (Nat → Nat → Int32) → (Nat → Nat → Int64) → Prop) (R88 : Int32 → Int32 → Int32 → Int64 → Int32 → (Nat → Int32) → (Nat → Nat → Int32) → (Nat → Nat → Int64) → Prop) (x1 : Int32) (x3 : Int32) (x4 : Int64) (x6 : Int32) (t0 : Int32) (t1 : Int32) (v : Nat → Int32) (f : Nat → Nat → Int32) (g : Nat → Nat → Int64) : Prop :=
∀ x2_13 : Int32, x2_13 = (t1 + t0) → ∀ x6_14 : Int32, x6_14 = x6 + nI 1 → R88 x1 x2_13 x3 x4 x6_14 v f g
def r_text_88 (Q : Int32 → (Nat → Int32) → (Nat → Nat → Int32) → (Nat → Nat → Int64) → Prop) (R35 : Int32 → Int32 → Int32 → (Nat → Int32) → (Nat → Nat → Int32) → (Nat → Nat → Int64) → Prop) (R88 : Int32 → Int32 → Int32 → Int64 → Int32 → (Nat → Int32) → (Nat → Nat → Int32) → (Nat → Nat → Int64) → Prop) (x1 : Int32) (x2 : Int32) (x3 : Int32) (x4 : Int64) (x6 : Int32) (v : Nat → Int32) (f : Nat → Nat → Int32) (g : Nat → Nat → Int64) : Prop :=
((((v 9)) ≤ x6 →
  r_text_131 Q R35 x1 x2 x3 v f g) ∧
 (¬ ((v 9)) ≤ x6 →
  r_isStop (fun r_11 v_11 f_11 g_11 => 
  ((¬ r_11 = 0 →
    r_text_131 Q R35 x1 x2 x3 v_11 f_11 g_11) ∧
   (r_11 = 0 →
    r_gives (fun r_12 v_12 f_12 g_12 => 
    ((r_12 = 0 →
      r_text_123 Q R35 R88 x1 x3 x4 x6 ((nI 0)) x2 v_12 f_12 g_12) ∧
     (¬ r_12 = 0 →
      r_text_123 Q R35 R88 x1 x3 x4 x6 ((nI 1)) x2 v_12 f_12 g_12))) x6 x4 v_11 f_11 g_11))) x4 v f g))
def r_text_88L (Q : Int32 → (Nat → Int32) → (Nat → Nat → Int32) → (Nat → Nat → Int64) → Prop) (R35 : Int32 → Int32 → Int32 → (Nat → Int32) → (Nat → Nat → Int32) → (Nat → Nat → Int64) → Prop) (x1 : Int32) (x2 : Int32) (x3 : Int32) (x4 : Int64) (x6 : Int32) (v : Nat → Int32) (f : Nat → Nat → Int32) (g : Nat → Nat → Int64) : Prop :=
  lfp (X := Int32 × Int32 × Int32 × Int64 × Int32 × (Nat → Int32) × (Nat → Nat → Int32) × (Nat → Nat → Int64)) (fun P y => r_text_88 Q R35 (fun b0 b1 b2 b3 b4 v f g => P (b0, b1, b2, b3, b4, v, f, g)) y.1 y.2.1 y.2.2.1 y.2.2.2.1 y.2.2.2.2.1 y.2.2.2.2.2.1 y.2.2.2.2.2.2.1 y.2.2.2.2.2.2.2) (x1, x2, x3, x4, x6, v, f, g)
def r_text_83 (Q : Int32 → (Nat → Int32) → (Nat → Nat → Int32) → (Nat → Nat → Int64) → Prop) (R35 : Int32 → Int32 → Int32 → (Nat → Int32) → (Nat → Nat → Int32) → (Nat → Nat → Int64) → Prop) (x1 : Int32) (x3 : Int32) (x4 : Int64) (t0 : Int32) (t1 : Int32) (v : Nat → Int32) (f : Nat → Nat → Int32) (g : Nat → Nat → Int64) : Prop :=
∀ x2_9 : Int32, x2_9 = (t1 + t0) → r_text_88L Q R35 x1 x2_9 x3 x4 (((nI 0))) v f g
def r_text_35 (Q : Int32 → (Nat → Int32) → (Nat → Nat → Int32) → (Nat → Nat → Int64) → Prop) (R35 : Int32 → Int32 → Int32 → (Nat → Int32) → (Nat → Nat → Int32) → (Nat → Nat → Int64) → Prop) (x1 : Int32) (x2 : Int32) (x3 : Int32) (v : Nat → Int32) (f : Nat → Nat → Int32) (g : Nat → Nat → Int64) : Prop :=
((((v 4)) ≤ x3 →
  ∀ v5 : Nat → Int32, v5 = upd v 2 ((nI 0)) → Q x2 v5 f g) ∧
 (¬ ((v 4)) ≤ x3 →
  vp_in x3 20 ∧ (r_stem (fun r_6 v_6 f_6 g_6 => 
  vp_in ((((((nI 20)) * x1)) + x3)) 40 ∧ (∀ g7 : Nat → Nat → Int64, g7 = mU g_6 7 ((((((nI 20)) * x1)) + x3)).toNatClampNeg r_6 → r_isStop (fun r_8 v_8 f_8 g_8 => 
  ((r_8 = 0 →
    r_text_83 Q R35 x1 x3 r_6 ((nI 1)) x2 v_8 f_8 g_8) ∧
   (¬ r_8 = 0 →
    r_text_83 Q R35 x1 x3 r_6 ((nI 0)) x2 v_8 f_8 g_8))) r_6 v_6 f_6 g7)) (g 3 (x3).toNatClampNeg) v f g)))
def r_text_35L (Q : Int32 → (Nat → Int32) → (Nat → Nat → Int32) → (Nat → Nat → Int64) → Prop)  (x1 : Int32) (x2 : Int32) (x3 : Int32) (v : Nat → Int32) (f : Nat → Nat → Int32) (g : Nat → Nat → Int64) : Prop :=
  lfp (X := Int32 × Int32 × Int32 × (Nat → Int32) × (Nat → Nat → Int32) × (Nat → Nat → Int64)) (fun P y => r_text_35 Q  (fun b0 b1 b2 v f g => P (b0, b1, b2, v, f, g)) y.1 y.2.1 y.2.2.1 y.2.2.2.1 y.2.2.2.2.1 y.2.2.2.2.2) (x1, x2, x3, v, f, g)
def r_text (Q : Int32 → (Nat → Int32) → (Nat → Nat → Int32) → (Nat → Nat → Int64) → Prop) (x1 : Int32) (v : Nat → Int32) (f : Nat → Nat → Int32) (g : Nat → Nat → Int64) : Prop :=
r_in (fun r_1 v_1 f_1 g_1 => 
r_goes (fun r_2 v_2 f_2 g_2 => 
((¬ r_2 = 0 →
  r_reads (fun v_3 f_3 g_3 => 
  vp_in x1 2 ∧ (∀ f4 : Nat → Nat → Int32, f4 = mU f_3 8 (x1).toNatClampNeg ((v_3 4)) → r_text_35L Q  x1 (((nI 0))) (((nI 0))) v_3 f4 g_3))  v_2 f_2 g_2) ∧
 (r_2 = 0 →
  Q ((nI 0)) v_2 f_2 g_2))) r_1 ((nI 1)) ((nI 1)) v_1 f_1 g_1) x1 ((nI 0)) ((nI 1)) v f g
section S_text
variable {p : Program} {l : Launch} {e : Env} {s : State} {m : MethodId} {args : Array Value} {below : List Frame} {meth : Method} {c : Code} {A : Nat → Prop} {D : va_G} {cI cJ cZ : ClassId} {a : Nat → Nat}
set_option maxRecDepth 20000 in
theorem sb_text_131 (C : mC p s m args meth c cX12_text 7 (some .int) A D cI cJ cZ) {post : Int32 → mS → Prop} {R35 : Int32 → Int32 → Int32 → (Nat → Int32) → (Nat → Nat → Int32) → (Nat → Nat → Int64) → Prop} (hR35 : ∀ (x1 : Int32) (x2 : Int32) (x3 : Int32) (v : Nat → Int32) (f : Nat → Nat → Int32) (g : Nat → Nat → Int64), R35 x1 x2 x3 v f g → mG p l e (mRm 4 90) s m args below meth c A D cI cJ cZ a 7 (MQ below (va_Qi post (mB D cI cJ cZ a) A) args s 0 0 A) 35 [(0, .ref (a 0)), (1, .int x1), (2, .int x2), (3, .int x3)] [] v f g) (x1 : Int32) (x2 : Int32) (x3 : Int32) (v : Nat → Int32) (f : Nat → Nat → Int32) (g : Nat → Nat → Int64) (h : r_text_131 (fun r v f g => post r (v, f, g)) R35 x1 x2 x3 v f g) : mG p l e (mRm 4 90) s m args below meth c A D cI cJ cZ a 7 (MQ below (va_Qi post (mB D cI cJ cZ a) A) args s 0 0 A) 131 [(0, .ref (a 0)), (1, .int x1), (2, .int x2), (3, .int x3)] [] v f g := by
  unfold r_text_131 at h
  obtain ⟨x3_10, e_x3_10⟩ : ∃ z : Int32, z = x3 + nI 1 := ⟨_, rfl⟩
  have h := h x3_10 e_x3_10
  refine mg_iinc C (lv' := [(3, .int x3_10), (0, .ref (a 0)), (1, .int x1), (2, .int x2)]) 3 rfl (by rw [e_x3_10]; rfl) (Nat.le_of_ble_eq_true rfl) rfl dX12_text_131 ?_
  refine mg_goto C 35 (by decide) dX12_text_134 ?_
  exact mg_sub [1, 2, 3, 0] rfl (hR35 x1 x2 x3_10 v f g h)
set_option maxRecDepth 20000 in
theorem sb_text_123 (C : mC p s m args meth c cX12_text 7 (some .int) A D cI cJ cZ) {post : Int32 → mS → Prop} {R35 : Int32 → Int32 → Int32 → (Nat → Int32) → (Nat → Nat → Int32) → (Nat → Nat → Int64) → Prop} {R88 : Int32 → Int32 → Int32 → Int64 → Int32 → (Nat → Int32) → (Nat → Nat → Int32) → (Nat → Nat → Int64) → Prop} (hR35 : ∀ (x1 : Int32) (x2 : Int32) (x3 : Int32) (v : Nat → Int32) (f : Nat → Nat → Int32) (g : Nat → Nat → Int64), R35 x1 x2 x3 v f g → mG p l e (mRm 4 90) s m args below meth c A D cI cJ cZ a 7 (MQ below (va_Qi post (mB D cI cJ cZ a) A) args s 0 0 A) 35 [(0, .ref (a 0)), (1, .int x1), (2, .int x2), (3, .int x3)] [] v f g) (hR88 : ∀ (x1 : Int32) (x2 : Int32) (x3 : Int32) (x4 : Int64) (x6 : Int32) (v : Nat → Int32) (f : Nat → Nat → Int32) (g : Nat → Nat → Int64), R88 x1 x2 x3 x4 x6 v f g → mG p l e (mRm 4 90) s m args below meth c A D cI cJ cZ a 7 (MQ below (va_Qi post (mB D cI cJ cZ a) A) args s 0 0 A) 88 [(0, .ref (a 0)), (1, .int x1), (2, .int x2), (3, .int x3), (4, .long x4), (6, .int x6)] [] v f g) (x1 : Int32) (x3 : Int32) (x4 : Int64) (x6 : Int32) (t0 : Int32) (t1 : Int32) (v : Nat → Int32) (f : Nat → Nat → Int32) (g : Nat → Nat → Int64) (h : r_text_123 (fun r v f g => post r (v, f, g)) R35 R88 x1 x3 x4 x6 t0 t1 v f g) : mG p l e (mRm 4 90) s m args below meth c A D cI cJ cZ a 7 (MQ below (va_Qi post (mB D cI cJ cZ a) A) args s 0 0 A) 123 [(0, .ref (a 0)), (1, .int x1), (3, .int x3), (4, .long x4), (6, .int x6)] [.int t0, .int t1] v f g := by
  unfold r_text_123 at h
  refine mg_iadd C dX12_text_123 ?_
  refine mg_nmI (fun x2_13 e_x2_13 => ?_)
  have h := h x2_13 e_x2_13
  refine mg_istore_n C (i := 2) (lv' := [(2, .int x2_13), (0, .ref (a 0)), (1, .int x1), (3, .int x3), (4, .long x4), (6, .int x6)]) rfl (Nat.le_of_ble_eq_true rfl) rfl dX12_text_124 ?_
  obtain ⟨x6_14, e_x6_14⟩ : ∃ z : Int32, z = x6 + nI 1 := ⟨_, rfl⟩
  have h := h x6_14 e_x6_14
  refine mg_iinc C (lv' := [(6, .int x6_14), (2, .int x2_13), (0, .ref (a 0)), (1, .int x1), (3, .int x3), (4, .long x4)]) 5 rfl (by rw [e_x6_14]; rfl) (Nat.le_of_ble_eq_true rfl) rfl dX12_text_125 ?_
  refine mg_goto C 88 (by decide) dX12_text_128 ?_
  exact mg_sub [2, 3, 1, 4, 5, 0] rfl (hR88 x1 x2_13 x3 x4 x6_14 v f g h)
set_option maxRecDepth 20000 in
theorem sb_text_88 (C : mC p s m args meth c cX12_text 7 (some .int) A D cI cJ cZ) {post : Int32 → mS → Prop} {R35 : Int32 → Int32 → Int32 → (Nat → Int32) → (Nat → Nat → Int32) → (Nat → Nat → Int64) → Prop} {R88 : Int32 → Int32 → Int32 → Int64 → Int32 → (Nat → Int32) → (Nat → Nat → Int32) → (Nat → Nat → Int64) → Prop} (hR35 : ∀ (x1 : Int32) (x2 : Int32) (x3 : Int32) (v : Nat → Int32) (f : Nat → Nat → Int32) (g : Nat → Nat → Int64), R35 x1 x2 x3 v f g → mG p l e (mRm 4 90) s m args below meth c A D cI cJ cZ a 7 (MQ below (va_Qi post (mB D cI cJ cZ a) A) args s 0 0 A) 35 [(0, .ref (a 0)), (1, .int x1), (2, .int x2), (3, .int x3)] [] v f g) (hR88 : ∀ (x1 : Int32) (x2 : Int32) (x3 : Int32) (x4 : Int64) (x6 : Int32) (v : Nat → Int32) (f : Nat → Nat → Int32) (g : Nat → Nat → Int64), R88 x1 x2 x3 x4 x6 v f g → mG p l e (mRm 4 90) s m args below meth c A D cI cJ cZ a 7 (MQ below (va_Qi post (mB D cI cJ cZ a) A) args s 0 0 A) 88 [(0, .ref (a 0)), (1, .int x1), (2, .int x2), (3, .int x3), (4, .long x4), (6, .int x6)] [] v f g) (x1 : Int32) (x2 : Int32) (x3 : Int32) (x4 : Int64) (x6 : Int32) (v : Nat → Int32) (f : Nat → Nat → Int32) (g : Nat → Nat → Int64) (h : r_text_88 (fun r v f g => post r (v, f, g)) R35 R88 x1 x2 x3 x4 x6 v f g) : mG p l e (mRm 4 90) s m args below meth c A D cI cJ cZ a 7 (MQ below (va_Qi post (mB D cI cJ cZ a) A) args s 0 0 A) 88 [(0, .ref (a 0)), (1, .int x1), (2, .int x2), (3, .int x3), (4, .long x4), (6, .int x6)] [] v f g := by
  unfold r_text_88 at h
  refine mg_iload C 5 rfl dX12_text_88 ?_
  refine mg_aload_n C (i := 0) rfl 0 rfl dX12_text_90 ?_
  refine mg_getI C (k := 9) (by decide) rfl mL_synonyms rfl dX12_text_91 ?_
  refine mg_icmp_ge C 131 (by decide) dX12_text_94 (fun c_ => ?_) (fun c_ => ?_)
  · have h := h.1 c_
    exact mg_sub [0, 1, 2, 3] rfl (sb_text_131 C hR35 x1 x2 x3 v f g h)
  · have h := h.2 c_
    refine mg_aload_n C (i := 0) rfl 0 rfl dX12_text_97 ?_
    refine mg_lload C 4 rfl dX12_text_98 ?_
    refine mg_calliW C (s_isStop l x4 v f g h) mCal_isStop rfl ⟨by decide, by decide⟩ rfl (Nat.le_of_ble_eq_true rfl) dX12_text_100 (fun r_11 v_11 f_11 g_11 h => ?_)
    refine mg_if_ne C 131 (by decide) dX12_text_103 (fun c_ => ?_) (fun c_ => ?_)
    · have h := h.1 c_
      exact mg_sub [0, 1, 2, 3] rfl (sb_text_131 C hR35 x1 x2 x3 v_11 f_11 g_11 h)
    · have h := h.2 c_
      refine mg_iload_n C (i := 2) rfl 2 rfl dX12_text_106 ?_
      refine mg_aload_n C (i := 0) rfl 0 rfl dX12_text_107 ?_
      refine mg_iload C 5 rfl dX12_text_108 ?_
      refine mg_lload C 4 rfl dX12_text_110 ?_
      refine mg_calliW C (s_gives l x6 x4 v_11 f_11 g_11 h) mCal_gives rfl ⟨by decide, by decide⟩ rfl (Nat.le_of_ble_eq_true rfl) dX12_text_112 (fun r_12 v_12 f_12 g_12 h => ?_)
      refine mg_if_eq C 122 (by decide) dX12_text_115 (fun c_ => ?_) (fun c_ => ?_)
      · have h := h.1 c_
        refine mg_iconst C (x := nI 0) rfl dX12_text_122 ?_
        exact mg_sub [0, 1, 3, 4, 5] rfl (sb_text_123 C hR35 hR88 x1 x3 x4 x6 ((nI 0)) x2 v_12 f_12 g_12 h)
      · have h := h.2 c_
        refine mg_iconst C (x := nI 1) rfl dX12_text_118 ?_
        refine mg_goto C 123 (by decide) dX12_text_119 ?_
        exact mg_sub [0, 1, 3, 4, 5] rfl (sb_text_123 C hR35 hR88 x1 x3 x4 x6 ((nI 1)) x2 v_12 f_12 g_12 h)
set_option maxRecDepth 20000 in
theorem sl_text_88 (C : mC p s m args meth c cX12_text 7 (some .int) A D cI cJ cZ) {post : Int32 → mS → Prop} {R35 : Int32 → Int32 → Int32 → (Nat → Int32) → (Nat → Nat → Int32) → (Nat → Nat → Int64) → Prop} (hR35 : ∀ (x1 : Int32) (x2 : Int32) (x3 : Int32) (v : Nat → Int32) (f : Nat → Nat → Int32) (g : Nat → Nat → Int64), R35 x1 x2 x3 v f g → mG p l e (mRm 4 90) s m args below meth c A D cI cJ cZ a 7 (MQ below (va_Qi post (mB D cI cJ cZ a) A) args s 0 0 A) 35 [(0, .ref (a 0)), (1, .int x1), (2, .int x2), (3, .int x3)] [] v f g) (x1 : Int32) (x2 : Int32) (x3 : Int32) (x4 : Int64) (x6 : Int32) (v : Nat → Int32) (f : Nat → Nat → Int32) (g : Nat → Nat → Int64) (h : r_text_88L (fun r v f g => post r (v, f, g)) R35 x1 x2 x3 x4 x6 v f g) : mG p l e (mRm 4 90) s m args below meth c A D cI cJ cZ a 7 (MQ below (va_Qi post (mB D cI cJ cZ a) A) args s 0 0 A) 88 [(0, .ref (a 0)), (1, .int x1), (2, .int x2), (3, .int x3), (4, .long x4), (6, .int x6)] [] v f g :=
  h (fun y => mG p l e (mRm 4 90) s m args below meth c A D cI cJ cZ a 7 (MQ below (va_Qi post (mB D cI cJ cZ a) A) args s 0 0 A) 88 [(0, .ref (a 0)), (1, .int (y.1)), (2, .int (y.2.1)), (3, .int (y.2.2.1)), (4, .long (y.2.2.2.1)), (6, .int (y.2.2.2.2.1))] [] (y.2.2.2.2.2.1) (y.2.2.2.2.2.2.1) (y.2.2.2.2.2.2.2)) (fun y hy => sb_text_88 C hR35 (fun b0 b1 b2 b3 b4 v f g z => z) (y.1) (y.2.1) (y.2.2.1) (y.2.2.2.1) (y.2.2.2.2.1) (y.2.2.2.2.2.1) (y.2.2.2.2.2.2.1) (y.2.2.2.2.2.2.2) hy)
set_option maxRecDepth 20000 in
theorem sb_text_83 (C : mC p s m args meth c cX12_text 7 (some .int) A D cI cJ cZ) {post : Int32 → mS → Prop} {R35 : Int32 → Int32 → Int32 → (Nat → Int32) → (Nat → Nat → Int32) → (Nat → Nat → Int64) → Prop} (hR35 : ∀ (x1 : Int32) (x2 : Int32) (x3 : Int32) (v : Nat → Int32) (f : Nat → Nat → Int32) (g : Nat → Nat → Int64), R35 x1 x2 x3 v f g → mG p l e (mRm 4 90) s m args below meth c A D cI cJ cZ a 7 (MQ below (va_Qi post (mB D cI cJ cZ a) A) args s 0 0 A) 35 [(0, .ref (a 0)), (1, .int x1), (2, .int x2), (3, .int x3)] [] v f g) (x1 : Int32) (x3 : Int32) (x4 : Int64) (t0 : Int32) (t1 : Int32) (v : Nat → Int32) (f : Nat → Nat → Int32) (g : Nat → Nat → Int64) (h : r_text_83 (fun r v f g => post r (v, f, g)) R35 x1 x3 x4 t0 t1 v f g) : mG p l e (mRm 4 90) s m args below meth c A D cI cJ cZ a 7 (MQ below (va_Qi post (mB D cI cJ cZ a) A) args s 0 0 A) 83 [(0, .ref (a 0)), (1, .int x1), (3, .int x3), (4, .long x4)] [.int t0, .int t1] v f g := by
  unfold r_text_83 at h
  refine mg_iadd C dX12_text_83 ?_
  refine mg_nmI (fun x2_9 e_x2_9 => ?_)
  have h := h x2_9 e_x2_9
  refine mg_istore_n C (i := 2) (lv' := [(2, .int x2_9), (0, .ref (a 0)), (1, .int x1), (3, .int x3), (4, .long x4)]) rfl (Nat.le_of_ble_eq_true rfl) rfl dX12_text_84 ?_
  refine mg_iconst C (x := nI 0) rfl dX12_text_85 ?_
  refine mg_istore C (lv' := [(6, .int ((nI 0))), (2, .int x2_9), (0, .ref (a 0)), (1, .int x1), (3, .int x3), (4, .long x4)]) (Nat.le_of_ble_eq_true rfl) rfl dX12_text_86 ?_
  exact mg_sub [2, 3, 1, 4, 5, 0] rfl (sl_text_88 C hR35 x1 x2_9 x3 x4 (((nI 0))) v f g h)
set_option maxRecDepth 20000 in
theorem sb_text_35 (C : mC p s m args meth c cX12_text 7 (some .int) A D cI cJ cZ) {post : Int32 → mS → Prop} {R35 : Int32 → Int32 → Int32 → (Nat → Int32) → (Nat → Nat → Int32) → (Nat → Nat → Int64) → Prop} (hR35 : ∀ (x1 : Int32) (x2 : Int32) (x3 : Int32) (v : Nat → Int32) (f : Nat → Nat → Int32) (g : Nat → Nat → Int64), R35 x1 x2 x3 v f g → mG p l e (mRm 4 90) s m args below meth c A D cI cJ cZ a 7 (MQ below (va_Qi post (mB D cI cJ cZ a) A) args s 0 0 A) 35 [(0, .ref (a 0)), (1, .int x1), (2, .int x2), (3, .int x3)] [] v f g) (x1 : Int32) (x2 : Int32) (x3 : Int32) (v : Nat → Int32) (f : Nat → Nat → Int32) (g : Nat → Nat → Int64) (h : r_text_35 (fun r v f g => post r (v, f, g)) R35 x1 x2 x3 v f g) : mG p l e (mRm 4 90) s m args below meth c A D cI cJ cZ a 7 (MQ below (va_Qi post (mB D cI cJ cZ a) A) args s 0 0 A) 35 [(0, .ref (a 0)), (1, .int x1), (2, .int x2), (3, .int x3)] [] v f g := by
  unfold r_text_35 at h
  refine mg_iload_n C (i := 3) rfl 3 rfl dX12_text_35 ?_
  refine mg_aload_n C (i := 0) rfl 0 rfl dX12_text_36 ?_
  refine mg_getI C (k := 4) (by decide) rfl mL_worded rfl dX12_text_37 ?_
  refine mg_icmp_ge C 137 (by decide) dX12_text_40 (fun c_ => ?_) (fun c_ => ?_)
  · have h := h.1 c_
    refine mg_aload_n C (i := 0) rfl 0 rfl dX12_text_137 ?_
    refine mg_iconst C (x := nI 0) rfl dX12_text_138 ?_
    refine mg_put C (k := 2) (by decide) rfl mL_padded rfl (by decide +kernel) mT_padded rfl rfl dX12_text_139 ?_
    refine mg_nmV (fun v5 e_v5 => ?_)
    have h := h v5 e_v5
    refine mg_iload_n C (i := 2) rfl 2 rfl dX12_text_142 ?_
    exact mg_iret C h dX12_text_143
  · have h := h.2 c_
    refine mg_aload_n C (i := 0) rfl 0 rfl dX12_text_43 ?_
    refine mg_aload_n C (i := 0) rfl 0 rfl dX12_text_44 ?_
    refine mg_arr C 3 (by decide) (by decide) rfl mL_words rfl dX12_text_45 ?_
    refine mg_iload_n C (i := 3) rfl 3 rfl dX12_text_48 ?_
    obtain ⟨hc_49, h⟩ := h
    refine mg_laloadR C (n := 20) 3 (by decide) (by decide) rfl rfl hc_49 dX12_text_49 ?_
    refine mg_calllW C (s_stem l (g 3 (x3).toNatClampNeg) v f g h) mCal_stem rfl ⟨by decide, by decide⟩ rfl (Nat.le_of_ble_eq_true rfl) dX12_text_50 (fun r_6 v_6 f_6 g_6 h => ?_)
    refine mg_lstore C (lv' := [(4, .long r_6), (0, .ref (a 0)), (1, .int x1), (2, .int x2), (3, .int x3)]) (Nat.le_of_ble_eq_true rfl) rfl dX12_text_53 ?_
    refine mg_aload_n C (i := 0) rfl 1 rfl dX12_text_55 ?_
    refine mg_arr C 7 (by decide) (by decide) rfl mL_draftStems rfl dX12_text_56 ?_
    refine mg_bipush C (x := nI 20) rfl dX12_text_59 ?_
    refine mg_iload_n C (i := 1) rfl 2 rfl dX12_text_61 ?_
    refine mg_imul C dX12_text_62 ?_
    refine mg_iload_n C (i := 3) rfl 4 rfl dX12_text_63 ?_
    refine mg_iadd C dX12_text_64 ?_
    refine mg_lload C 0 rfl dX12_text_65 ?_
    obtain ⟨hc_67, h⟩ := h
    refine mg_lastoreR C (n := 40) 7 (by decide) (by decide) rfl rfl hc_67 dX12_text_67 ?_
    refine mg_nmG (fun g7 e_g7 => ?_)
    have h := h g7 e_g7
    refine mg_iload_n C (i := 2) rfl 3 rfl dX12_text_68 ?_
    refine mg_aload_n C (i := 0) rfl 1 rfl dX12_text_69 ?_
    refine mg_lload C 0 rfl dX12_text_70 ?_
    refine mg_calliW C (s_isStop l r_6 v_6 f_6 g7 h) mCal_isStop rfl ⟨by decide, by decide⟩ rfl (Nat.le_of_ble_eq_true rfl) dX12_text_72 (fun r_8 v_8 f_8 g_8 h => ?_)
    refine mg_if_eq C 82 (by decide) dX12_text_75 (fun c_ => ?_) (fun c_ => ?_)
    · have h := h.1 c_
      refine mg_iconst C (x := nI 1) rfl dX12_text_82 ?_
      exact mg_sub [1, 2, 4, 0] rfl (sb_text_83 C hR35 x1 x3 r_6 ((nI 1)) x2 v_8 f_8 g_8 h)
    · have h := h.2 c_
      refine mg_iconst C (x := nI 0) rfl dX12_text_78 ?_
      refine mg_goto C 83 (by decide) dX12_text_79 ?_
      exact mg_sub [1, 2, 4, 0] rfl (sb_text_83 C hR35 x1 x3 r_6 ((nI 0)) x2 v_8 f_8 g_8 h)
set_option maxRecDepth 20000 in
theorem sl_text_35 (C : mC p s m args meth c cX12_text 7 (some .int) A D cI cJ cZ) {post : Int32 → mS → Prop}   (x1 : Int32) (x2 : Int32) (x3 : Int32) (v : Nat → Int32) (f : Nat → Nat → Int32) (g : Nat → Nat → Int64) (h : r_text_35L (fun r v f g => post r (v, f, g))  x1 x2 x3 v f g) : mG p l e (mRm 4 90) s m args below meth c A D cI cJ cZ a 7 (MQ below (va_Qi post (mB D cI cJ cZ a) A) args s 0 0 A) 35 [(0, .ref (a 0)), (1, .int x1), (2, .int x2), (3, .int x3)] [] v f g :=
  h (fun y => mG p l e (mRm 4 90) s m args below meth c A D cI cJ cZ a 7 (MQ below (va_Qi post (mB D cI cJ cZ a) A) args s 0 0 A) 35 [(0, .ref (a 0)), (1, .int (y.1)), (2, .int (y.2.1)), (3, .int (y.2.2.1))] [] (y.2.2.2.1) (y.2.2.2.2.1) (y.2.2.2.2.2)) (fun y hy => sb_text_35 C  (fun b0 b1 b2 v f g z => z) (y.1) (y.2.1) (y.2.2.1) (y.2.2.2.1) (y.2.2.2.2.1) (y.2.2.2.2.2) hy)
end S_text
set_option maxHeartbeats 1000000 in
set_option maxRecDepth 20000 in
theorem s_text (l : Launch) (x1 : Int32) (v : Nat → Int32) (f : Nat → Nat → Int32) (g : Nat → Nat → Int64) {P : Int32 → (Nat → Int32) → (Nat → Nat → Int32) → (Nat → Nat → Int64) → Prop} (h : r_text P x1 v f g) : mMi l yX12_text cX12_text 7 (some .int) 4 90 false [.int x1] v f g (fun r w => P r w.1 w.2.1 w.2.2) := by
  intro D cI cJ cZ a sz
  refine mg_body (by decide +kernel) rfl (Nat.le_of_ble_eq_true rfl) ?_
  intro p e s m args below meth c hsz C
  clear hsz
  generalize va_A (mW cI cJ cZ a v f g) sz = A at C ⊢
  refine mg_lv (lv' := [(0, .ref (a 0)), (1, .int x1)]) rfl ?_
  unfold r_text at h
  refine mg_aload_n C (i := 0) rfl 0 rfl dX12_text_0 ?_
  refine mg_iload_n C (i := 1) rfl 1 rfl dX12_text_1 ?_
  refine mg_iconst C (x := nI 0) rfl dX12_text_2 ?_
  refine mg_iconst C (x := nI 1) rfl dX12_text_3 ?_
  refine mg_callsiW C (s_in l x1 ((nI 0)) ((nI 1)) v f g h) mCal_in rfl ⟨by decide, by decide⟩ rfl (Nat.le_of_ble_eq_true rfl) dX12_text_4 (fun r_1 v_1 f_1 g_1 h => ?_)
  refine mg_iconst C (x := nI 1) rfl dX12_text_7 ?_
  refine mg_iconst C (x := nI 1) rfl dX12_text_8 ?_
  refine mg_calliW C (s_goes l r_1 ((nI 1)) ((nI 1)) v_1 f_1 g_1 h) mCal_goes rfl ⟨by decide, by decide⟩ rfl (Nat.le_of_ble_eq_true rfl) dX12_text_9 (fun r_2 v_2 f_2 g_2 h => ?_)
  refine mg_if_ne C 17 (by decide) dX12_text_12 (fun c_ => ?_) (fun c_ => ?_)
  · have h := h.1 c_
    refine mg_iconst C (x := nI 0) rfl dX12_text_17 ?_
    refine mg_istore_n C (i := 2) (lv' := [(2, .int ((nI 0))), (0, .ref (a 0)), (1, .int x1)]) rfl (Nat.le_of_ble_eq_true rfl) rfl dX12_text_18 ?_
    refine mg_aload_n C (i := 0) rfl 1 rfl dX12_text_19 ?_
    refine mg_callvW C (s_reads l  v_2 f_2 g_2 h) mCal_reads rfl ⟨by decide, by decide⟩ rfl (Nat.le_of_ble_eq_true rfl) dX12_text_20 (fun v_3 f_3 g_3 h => ?_)
    refine mg_aload_n C (i := 0) rfl 1 rfl dX12_text_23 ?_
    refine mg_arr C 8 (by decide) (by decide) rfl mL_draftPlaces rfl dX12_text_24 ?_
    refine mg_iload_n C (i := 1) rfl 2 rfl dX12_text_27 ?_
    refine mg_aload_n C (i := 0) rfl 1 rfl dX12_text_28 ?_
    refine mg_getI C (k := 4) (by decide) rfl mL_worded rfl dX12_text_29 ?_
    obtain ⟨hc_32, h⟩ := h
    refine mg_iastoreR C (n := 2) 8 (by decide) (by decide) rfl rfl hc_32 dX12_text_32 ?_
    refine mg_nmF (fun f4 e_f4 => ?_)
    have h := h f4 e_f4
    refine mg_iconst C (x := nI 0) rfl dX12_text_33 ?_
    refine mg_istore_n C (i := 3) (lv' := [(3, .int ((nI 0))), (2, .int ((nI 0))), (0, .ref (a 0)), (1, .int x1)]) rfl (Nat.le_of_ble_eq_true rfl) rfl dX12_text_34 ?_
    exact mg_sub [2, 3, 1, 0] rfl (sl_text_35 C  x1 (((nI 0))) (((nI 0))) v_3 f4 g_3 h)
  · have h := h.2 c_
    refine mg_iconst C (x := nI 0) rfl dX12_text_15 ?_
    exact mg_iret C h dX12_text_16
def r_columns_27 (Q : (Nat → Int32) → (Nat → Nat → Int32) → (Nat → Nat → Int64) → Prop)  (x1 : Int32) (x2 : Int32) (t0 : Int32) (v : Nat → Int32) (f : Nat → Nat → Int32) (g : Nat → Nat → Int64) : Prop :=
r_goes (fun r_2 v_2 f_2 g_2 => 
((r_2 = 0 →
  Q v_2 f_2 g_2) ∧
 (¬ r_2 = 0 →
  ∀ v3 : Nat → Int32, v3 = upd v_2 13 x1 → ∀ v4 : Nat → Int32, v4 = upd v3 14 x2 → Q v4 f_2 g_2))) t0 ((nI 1)) ((nI 1)) v f g
def r_columns_26 (Q : (Nat → Int32) → (Nat → Nat → Int32) → (Nat → Nat → Int64) → Prop)  (x1 : Int32) (x2 : Int32) (v : Nat → Int32) (f : Nat → Nat → Int32) (g : Nat → Nat → Int64) : Prop :=
r_columns_27 Q  x1 x2 ((nI 0)) v f g
def r_columns (Q : (Nat → Int32) → (Nat → Nat → Int32) → (Nat → Nat → Int64) → Prop) (x1 : Int32) (x2 : Int32) (v : Nat → Int32) (f : Nat → Nat → Int32) (g : Nat → Nat → Int64) : Prop :=
r_in (fun r_1 v_1 f_1 g_1 => 
((r_1 = 0 →
  r_columns_26 Q  x1 x2 v_1 f_1 g_1) ∧
 (¬ r_1 = 0 →
  r_in (fun r_5 v_5 f_5 g_5 => 
  ((r_5 = 0 →
    r_columns_26 Q  x1 x2 v_5 f_5 g_5) ∧
   (¬ r_5 = 0 →
    r_columns_27 Q  x1 x2 ((nI 1)) v_5 f_5 g_5))) x2 ((nI 0)) ((nI 999)) v_1 f_1 g_1))) x1 ((nI 0)) ((nI 9)) v f g
section S_columns
variable {p : Program} {l : Launch} {e : Env} {s : State} {m : MethodId} {args : Array Value} {below : List Frame} {meth : Method} {c : Code} {A : Nat → Prop} {D : va_G} {cI cJ cZ : ClassId} {a : Nat → Nat}
set_option maxRecDepth 20000 in
theorem sb_columns_27 (C : mC p s m args meth c cX12_columns 3 none A D cI cJ cZ) {post : mS → Prop}   (x1 : Int32) (x2 : Int32) (t0 : Int32) (v : Nat → Int32) (f : Nat → Nat → Int32) (g : Nat → Nat → Int64) (h : r_columns_27 (fun v f g => post (v, f, g))  x1 x2 t0 v f g) : mG p l e (mRm 1 23) s m args below meth c A D cI cJ cZ a 3 (MQ below (va_Qv post (mB D cI cJ cZ a) A) args s 0 0 A) 27 [(0, .ref (a 0)), (1, .int x1), (2, .int x2)] [.int t0, .ref (a 0)] v f g := by
  unfold r_columns_27 at h
  refine mg_iconst C (x := nI 1) rfl dX12_columns_27 ?_
  refine mg_iconst C (x := nI 1) rfl dX12_columns_28 ?_
  refine mg_calliW C (s_goes l t0 ((nI 1)) ((nI 1)) v f g h) mCal_goes rfl ⟨by decide, by decide⟩ rfl (Nat.le_of_ble_eq_true rfl) dX12_columns_29 (fun r_2 v_2 f_2 g_2 h => ?_)
  refine mg_if_eq C 45 (by decide) dX12_columns_32 (fun c_ => ?_) (fun c_ => ?_)
  · have h := h.1 c_
    exact mg_vret C h dX12_columns_45
  · have h := h.2 c_
    refine mg_aload_n C (i := 0) rfl 0 rfl dX12_columns_35 ?_
    refine mg_iload_n C (i := 1) rfl 1 rfl dX12_columns_36 ?_
    refine mg_put C (k := 13) (by decide) rfl mL_draftCategory rfl (by decide +kernel) mT_draftCategory rfl rfl dX12_columns_37 ?_
    refine mg_nmV (fun v3 e_v3 => ?_)
    have h := h v3 e_v3
    refine mg_aload_n C (i := 0) rfl 0 rfl dX12_columns_40 ?_
    refine mg_iload_n C (i := 2) rfl 2 rfl dX12_columns_41 ?_
    refine mg_put C (k := 14) (by decide) rfl mL_draftNumber rfl (by decide +kernel) mT_draftNumber rfl rfl dX12_columns_42 ?_
    refine mg_nmV (fun v4 e_v4 => ?_)
    have h := h v4 e_v4
    exact mg_vret C h dX12_columns_45
set_option maxRecDepth 20000 in
theorem sb_columns_26 (C : mC p s m args meth c cX12_columns 3 none A D cI cJ cZ) {post : mS → Prop}   (x1 : Int32) (x2 : Int32) (v : Nat → Int32) (f : Nat → Nat → Int32) (g : Nat → Nat → Int64) (h : r_columns_26 (fun v f g => post (v, f, g))  x1 x2 v f g) : mG p l e (mRm 1 23) s m args below meth c A D cI cJ cZ a 3 (MQ below (va_Qv post (mB D cI cJ cZ a) A) args s 0 0 A) 26 [(0, .ref (a 0)), (1, .int x1), (2, .int x2)] [.ref (a 0)] v f g := by
  unfold r_columns_26 at h
  refine mg_iconst C (x := nI 0) rfl dX12_columns_26 ?_
  exact mg_sub [0, 1, 2] rfl (sb_columns_27 C  x1 x2 ((nI 0)) v f g h)
end S_columns
set_option maxHeartbeats 1000000 in
set_option maxRecDepth 20000 in
theorem s_columns (l : Launch) (x1 : Int32) (x2 : Int32) (v : Nat → Int32) (f : Nat → Nat → Int32) (g : Nat → Nat → Int64) {P : (Nat → Int32) → (Nat → Nat → Int32) → (Nat → Nat → Int64) → Prop} (h : r_columns P x1 x2 v f g) : mMv l yX12_columns cX12_columns 3 none 1 23 false [.int x1, .int x2] v f g (fun w => P w.1 w.2.1 w.2.2) := by
  intro D cI cJ cZ a sz
  refine mg_body (by decide +kernel) rfl (Nat.le_of_ble_eq_true rfl) ?_
  intro p e s m args below meth c hsz C
  clear hsz
  generalize va_A (mW cI cJ cZ a v f g) sz = A at C ⊢
  refine mg_lv (lv' := [(0, .ref (a 0)), (1, .int x1), (2, .int x2)]) rfl ?_
  unfold r_columns at h
  refine mg_aload_n C (i := 0) rfl 0 rfl dX12_columns_0 ?_
  refine mg_iload_n C (i := 1) rfl 1 rfl dX12_columns_1 ?_
  refine mg_iconst C (x := nI 0) rfl dX12_columns_2 ?_
  refine mg_bipush C (x := nI 9) rfl dX12_columns_3 ?_
  refine mg_callsiW C (s_in l x1 ((nI 0)) ((nI 9)) v f g h) mCal_in rfl ⟨by decide, by decide⟩ rfl (Nat.le_of_ble_eq_true rfl) dX12_columns_5 (fun r_1 v_1 f_1 g_1 h => ?_)
  refine mg_if_eq C 26 (by decide) dX12_columns_8 (fun c_ => ?_) (fun c_ => ?_)
  · have h := h.1 c_
    exact mg_sub [0, 1, 2] rfl (sb_columns_26 C  x1 x2 v_1 f_1 g_1 h)
  · have h := h.2 c_
    refine mg_iload_n C (i := 2) rfl 2 rfl dX12_columns_11 ?_
    refine mg_iconst C (x := nI 0) rfl dX12_columns_12 ?_
    refine mg_sipush C (x := nI 999) rfl dX12_columns_13 ?_
    refine mg_callsiW C (s_in l x2 ((nI 0)) ((nI 999)) v_1 f_1 g_1 h) mCal_in rfl ⟨by decide, by decide⟩ rfl (Nat.le_of_ble_eq_true rfl) dX12_columns_16 (fun r_5 v_5 f_5 g_5 h => ?_)
    refine mg_if_eq C 26 (by decide) dX12_columns_19 (fun c_ => ?_) (fun c_ => ?_)
    · have h := h.1 c_
      exact mg_sub [0, 1, 2] rfl (sb_columns_26 C  x1 x2 v_5 f_5 g_5 h)
    · have h := h.2 c_
      refine mg_iconst C (x := nI 1) rfl dX12_columns_22 ?_
      refine mg_goto C 27 (by decide) dX12_columns_23 ?_
      exact mg_sub [0, 1, 2] rfl (sb_columns_27 C  x1 x2 ((nI 1)) v_5 f_5 g_5 h)
def r_isKey (Q : Int32 → (Nat → Int32) → (Nat → Nat → Int32) → (Nat → Nat → Int64) → Prop) (x0 : Int32) (v : Nat → Int32) (f : Nat → Nat → Int32) (g : Nat → Nat → Int64) : Prop :=
r_in (fun r_1 v_1 f_1 g_1 => 
isZ r_1 ∧ (Q r_1 v_1 f_1 g_1)) x0 ((nI 0)) ((nI 99)) v f g
set_option maxHeartbeats 1000000 in
set_option maxRecDepth 20000 in
theorem s_isKey (l : Launch) (x0 : Int32) (v : Nat → Int32) (f : Nat → Nat → Int32) (g : Nat → Nat → Int64) {P : Int32 → (Nat → Int32) → (Nat → Nat → Int32) → (Nat → Nat → Int64) → Prop} (h : r_isKey P x0 v f g) : mMi l yX12_isKey cX12_isKey 1 (some .boolean) 1 22 true [.int x0] v f g (fun r w => P r w.1 w.2.1 w.2.2) := by
  intro D cI cJ cZ a sz
  refine mg_body (by decide +kernel) rfl (Nat.le_of_ble_eq_true rfl) ?_
  intro p e s m args below meth c hsz C
  clear hsz
  generalize va_A (mW cI cJ cZ a v f g) sz = A at C ⊢
  refine mg_lv (lv' := [(0, .int x0)]) rfl ?_
  unfold r_isKey at h
  refine mg_iload_n C (i := 0) rfl 0 rfl dX12_isKey_0 ?_
  refine mg_iconst C (x := nI 0) rfl dX12_isKey_1 ?_
  refine mg_bipush C (x := nI 99) rfl dX12_isKey_2 ?_
  refine mg_callsiW C (s_in l x0 ((nI 0)) ((nI 99)) v f g h) mCal_in rfl ⟨by decide, by decide⟩ rfl (Nat.le_of_ble_eq_true rfl) dX12_isKey_4 (fun r_1 v_1 f_1 g_1 h => ?_)
  obtain ⟨hc_7, h⟩ := h
  exact mg_zret C (isZ_nar hc_7) h dX12_isKey_7
def r_inBuffer_27 (Q : Int32 → (Nat → Int32) → (Nat → Nat → Int32) → (Nat → Nat → Int64) → Prop) (R4 : Int32 → Int32 → Int32 → (Nat → Int32) → (Nat → Nat → Int32) → (Nat → Nat → Int64) → Prop) (x1 : Int32) (x3 : Int32) (t0 : Int32) (v : Nat → Int32) (f : Nat → Nat → Int32) (g : Nat → Nat → Int64) : Prop :=
∀ x3_2 : Int32, x3_2 = x3 + nI 1 → R4 x1 t0 x3_2 v f g
def r_inBuffer_4 (Q : Int32 → (Nat → Int32) → (Nat → Nat → Int32) → (Nat → Nat → Int64) → Prop) (R4 : Int32 → Int32 → Int32 → (Nat → Int32) → (Nat → Nat → Int32) → (Nat → Nat → Int64) → Prop) (x1 : Int32) (x2 : Int32) (x3 : Int32) (v : Nat → Int32) (f : Nat → Nat → Int32) (g : Nat → Nat → Int64) : Prop :=
((((v 20)) ≤ x3 →
  Q x2 v f g) ∧
 (¬ ((v 20)) ≤ x3 →
  vp_in x3 12 ∧ (((¬ ((f 9 (x3).toNatClampNeg)) = x1 →
    r_inBuffer_27 Q R4 x1 x3 x2 v f g) ∧
   (((f 9 (x3).toNatClampNeg)) = x1 →
    r_inBuffer_27 Q R4 x1 x3 x3 v f g)))))
def r_inBuffer_4L (Q : Int32 → (Nat → Int32) → (Nat → Nat → Int32) → (Nat → Nat → Int64) → Prop)  (x1 : Int32) (x2 : Int32) (x3 : Int32) (v : Nat → Int32) (f : Nat → Nat → Int32) (g : Nat → Nat → Int64) : Prop :=
  lfp (X := Int32 × Int32 × Int32 × (Nat → Int32) × (Nat → Nat → Int32) × (Nat → Nat → Int64)) (fun P y => r_inBuffer_4 Q  (fun b0 b1 b2 v f g => P (b0, b1, b2, v, f, g)) y.1 y.2.1 y.2.2.1 y.2.2.2.1 y.2.2.2.2.1 y.2.2.2.2.2) (x1, x2, x3, v, f, g)
def r_inBuffer (Q : Int32 → (Nat → Int32) → (Nat → Nat → Int32) → (Nat → Nat → Int64) → Prop) (x1 : Int32) (v : Nat → Int32) (f : Nat → Nat → Int32) (g : Nat → Nat → Int64) : Prop :=
∀ x2_1 : Int32, x2_1 = ((-1)) → r_inBuffer_4L Q  x1 x2_1 (((nI 0))) v f g
section S_inBuffer
variable {p : Program} {l : Launch} {e : Env} {s : State} {m : MethodId} {args : Array Value} {below : List Frame} {meth : Method} {c : Code} {A : Nat → Prop} {D : va_G} {cI cJ cZ : ClassId} {a : Nat → Nat}
set_option maxRecDepth 20000 in
theorem sb_inBuffer_27 (C : mC p s m args meth c cX12_inBuffer 4 (some .int) A D cI cJ cZ) {post : Int32 → mS → Prop} {R4 : Int32 → Int32 → Int32 → (Nat → Int32) → (Nat → Nat → Int32) → (Nat → Nat → Int64) → Prop} (hR4 : ∀ (x1 : Int32) (x2 : Int32) (x3 : Int32) (v : Nat → Int32) (f : Nat → Nat → Int32) (g : Nat → Nat → Int64), R4 x1 x2 x3 v f g → mG p l e (mRm 0 0) s m args below meth c A D cI cJ cZ a 4 (MQ below (va_Qi post (mB D cI cJ cZ a) A) args s 0 0 A) 4 [(0, .ref (a 0)), (1, .int x1), (2, .int x2), (3, .int x3)] [] v f g) (x1 : Int32) (x3 : Int32) (t0 : Int32) (v : Nat → Int32) (f : Nat → Nat → Int32) (g : Nat → Nat → Int64) (h : r_inBuffer_27 (fun r v f g => post r (v, f, g)) R4 x1 x3 t0 v f g) : mG p l e (mRm 0 0) s m args below meth c A D cI cJ cZ a 4 (MQ below (va_Qi post (mB D cI cJ cZ a) A) args s 0 0 A) 27 [(0, .ref (a 0)), (1, .int x1), (3, .int x3)] [.int t0] v f g := by
  unfold r_inBuffer_27 at h
  refine mg_istore_n C (i := 2) (lv' := [(2, .int t0), (0, .ref (a 0)), (1, .int x1), (3, .int x3)]) rfl (Nat.le_of_ble_eq_true rfl) rfl dX12_inBuffer_27 ?_
  obtain ⟨x3_2, e_x3_2⟩ : ∃ z : Int32, z = x3 + nI 1 := ⟨_, rfl⟩
  have h := h x3_2 e_x3_2
  refine mg_iinc C (lv' := [(3, .int x3_2), (2, .int t0), (0, .ref (a 0)), (1, .int x1)]) 3 rfl (by rw [e_x3_2]; rfl) (Nat.le_of_ble_eq_true rfl) rfl dX12_inBuffer_28 ?_
  refine mg_goto C 4 (by decide) dX12_inBuffer_31 ?_
  exact mg_sub [2, 3, 1, 0] rfl (hR4 x1 t0 x3_2 v f g h)
set_option maxRecDepth 20000 in
theorem sb_inBuffer_4 (C : mC p s m args meth c cX12_inBuffer 4 (some .int) A D cI cJ cZ) {post : Int32 → mS → Prop} {R4 : Int32 → Int32 → Int32 → (Nat → Int32) → (Nat → Nat → Int32) → (Nat → Nat → Int64) → Prop} (hR4 : ∀ (x1 : Int32) (x2 : Int32) (x3 : Int32) (v : Nat → Int32) (f : Nat → Nat → Int32) (g : Nat → Nat → Int64), R4 x1 x2 x3 v f g → mG p l e (mRm 0 0) s m args below meth c A D cI cJ cZ a 4 (MQ below (va_Qi post (mB D cI cJ cZ a) A) args s 0 0 A) 4 [(0, .ref (a 0)), (1, .int x1), (2, .int x2), (3, .int x3)] [] v f g) (x1 : Int32) (x2 : Int32) (x3 : Int32) (v : Nat → Int32) (f : Nat → Nat → Int32) (g : Nat → Nat → Int64) (h : r_inBuffer_4 (fun r v f g => post r (v, f, g)) R4 x1 x2 x3 v f g) : mG p l e (mRm 0 0) s m args below meth c A D cI cJ cZ a 4 (MQ below (va_Qi post (mB D cI cJ cZ a) A) args s 0 0 A) 4 [(0, .ref (a 0)), (1, .int x1), (2, .int x2), (3, .int x3)] [] v f g := by
  unfold r_inBuffer_4 at h
  refine mg_iload_n C (i := 3) rfl 3 rfl dX12_inBuffer_4 ?_
  refine mg_aload_n C (i := 0) rfl 0 rfl dX12_inBuffer_5 ?_
  refine mg_getI C (k := 20) (by decide) rfl mL_buffered rfl dX12_inBuffer_6 ?_
  refine mg_icmp_ge C 34 (by decide) dX12_inBuffer_9 (fun c_ => ?_) (fun c_ => ?_)
  · have h := h.1 c_
    refine mg_iload_n C (i := 2) rfl 2 rfl dX12_inBuffer_34 ?_
    exact mg_iret C h dX12_inBuffer_35
  · have h := h.2 c_
    refine mg_aload_n C (i := 0) rfl 0 rfl dX12_inBuffer_12 ?_
    refine mg_arr C 9 (by decide) (by decide) rfl mL_bufferKeys rfl dX12_inBuffer_13 ?_
    refine mg_iload_n C (i := 3) rfl 3 rfl dX12_inBuffer_16 ?_
    obtain ⟨hc_17, h⟩ := h
    refine mg_ialoadR C (n := 12) 9 (by decide) (by decide) rfl rfl hc_17 dX12_inBuffer_17 ?_
    refine mg_iload_n C (i := 1) rfl 1 rfl dX12_inBuffer_18 ?_
    refine mg_icmp_ne C 26 (by decide) dX12_inBuffer_19 (fun c_ => ?_) (fun c_ => ?_)
    · have h := h.1 c_
      refine mg_iload_n C (i := 2) rfl 2 rfl dX12_inBuffer_26 ?_
      exact mg_sub [0, 1, 3] rfl (sb_inBuffer_27 C hR4 x1 x3 x2 v f g h)
    · have h := h.2 c_
      refine mg_iload_n C (i := 3) rfl 3 rfl dX12_inBuffer_22 ?_
      refine mg_goto C 27 (by decide) dX12_inBuffer_23 ?_
      exact mg_sub [0, 1, 3] rfl (sb_inBuffer_27 C hR4 x1 x3 x3 v f g h)
set_option maxRecDepth 20000 in
theorem sl_inBuffer_4 (C : mC p s m args meth c cX12_inBuffer 4 (some .int) A D cI cJ cZ) {post : Int32 → mS → Prop}   (x1 : Int32) (x2 : Int32) (x3 : Int32) (v : Nat → Int32) (f : Nat → Nat → Int32) (g : Nat → Nat → Int64) (h : r_inBuffer_4L (fun r v f g => post r (v, f, g))  x1 x2 x3 v f g) : mG p l e (mRm 0 0) s m args below meth c A D cI cJ cZ a 4 (MQ below (va_Qi post (mB D cI cJ cZ a) A) args s 0 0 A) 4 [(0, .ref (a 0)), (1, .int x1), (2, .int x2), (3, .int x3)] [] v f g :=
  h (fun y => mG p l e (mRm 0 0) s m args below meth c A D cI cJ cZ a 4 (MQ below (va_Qi post (mB D cI cJ cZ a) A) args s 0 0 A) 4 [(0, .ref (a 0)), (1, .int (y.1)), (2, .int (y.2.1)), (3, .int (y.2.2.1))] [] (y.2.2.2.1) (y.2.2.2.2.1) (y.2.2.2.2.2)) (fun y hy => sb_inBuffer_4 C  (fun b0 b1 b2 v f g z => z) (y.1) (y.2.1) (y.2.2.1) (y.2.2.2.1) (y.2.2.2.2.1) (y.2.2.2.2.2) hy)
end S_inBuffer
set_option maxHeartbeats 1000000 in
set_option maxRecDepth 20000 in
theorem s_inBuffer (l : Launch) (x1 : Int32) (v : Nat → Int32) (f : Nat → Nat → Int32) (g : Nat → Nat → Int64) {P : Int32 → (Nat → Int32) → (Nat → Nat → Int32) → (Nat → Nat → Int64) → Prop} (h : r_inBuffer P x1 v f g) : mMi l yX12_inBuffer cX12_inBuffer 4 (some .int) 0 0 false [.int x1] v f g (fun r w => P r w.1 w.2.1 w.2.2) := by
  intro D cI cJ cZ a sz
  refine mg_body (by decide +kernel) rfl (Nat.le_of_ble_eq_true rfl) ?_
  intro p e s m args below meth c hsz C
  clear hsz
  generalize va_A (mW cI cJ cZ a v f g) sz = A at C ⊢
  refine mg_lv (lv' := [(0, .ref (a 0)), (1, .int x1)]) rfl ?_
  unfold r_inBuffer at h
  refine mg_iconst C (x := (-1)) rfl dX12_inBuffer_0 ?_
  refine mg_nmI (fun x2_1 e_x2_1 => ?_)
  have h := h x2_1 e_x2_1
  refine mg_istore_n C (i := 2) (lv' := [(2, .int x2_1), (0, .ref (a 0)), (1, .int x1)]) rfl (Nat.le_of_ble_eq_true rfl) rfl dX12_inBuffer_1 ?_
  refine mg_iconst C (x := nI 0) rfl dX12_inBuffer_2 ?_
  refine mg_istore_n C (i := 3) (lv' := [(3, .int ((nI 0))), (2, .int x2_1), (0, .ref (a 0)), (1, .int x1)]) rfl (Nat.le_of_ble_eq_true rfl) rfl dX12_inBuffer_3 ?_
  exact mg_sub [2, 3, 1, 0] rfl (sl_inBuffer_4 C  x1 x2_1 (((nI 0))) v f g h)
def r_moves_38 (Q : (Nat → Int32) → (Nat → Nat → Int32) → (Nat → Nat → Int64) → Prop) (R38 : Int32 → Int32 → Int32 → (Nat → Int32) → (Nat → Nat → Int32) → (Nat → Nat → Int64) → Prop) (x1 : Int32) (x2 : Int32) (x3 : Int32) (v : Nat → Int32) (f : Nat → Nat → Int32) (g : Nat → Nat → Int64) : Prop :=
((((nI 40)) ≤ x3 →
  vp_in ((((nI 2)) * x1)) 24 ∧ (vp_in ((((nI 2)) * x2)) 24 ∧ (∀ f4 : Nat → Nat → Int32, f4 = mU f 13 ((((nI 2)) * x2)).toNatClampNeg ((f 13 ((((nI 2)) * x1)).toNatClampNeg)) → vp_in ((((((nI 2)) * x1)) + ((nI 1)))) 24 ∧ (vp_in ((((((nI 2)) * x2)) + ((nI 1)))) 24 ∧ (∀ f5 : Nat → Nat → Int32, f5 = mU f4 13 ((((((nI 2)) * x2)) + ((nI 1)))).toNatClampNeg ((f4 13 ((((((nI 2)) * x1)) + ((nI 1)))).toNatClampNeg)) → Q v f5 g))))) ∧
 (¬ ((nI 40)) ≤ x3 →
  vp_in ((((((nI 40)) * x1)) + x3)) 480 ∧ (vp_in ((((((nI 40)) * x2)) + x3)) 480 ∧ (∀ g6 : Nat → Nat → Int64, g6 = mU g 12 ((((((nI 40)) * x2)) + x3)).toNatClampNeg (g 12 ((((((nI 40)) * x1)) + x3)).toNatClampNeg) → ∀ x3_7 : Int32, x3_7 = x3 + nI 1 → R38 x1 x2 x3_7 v f g6))))
def r_moves_38L (Q : (Nat → Int32) → (Nat → Nat → Int32) → (Nat → Nat → Int64) → Prop)  (x1 : Int32) (x2 : Int32) (x3 : Int32) (v : Nat → Int32) (f : Nat → Nat → Int32) (g : Nat → Nat → Int64) : Prop :=
  lfp (X := Int32 × Int32 × Int32 × (Nat → Int32) × (Nat → Nat → Int32) × (Nat → Nat → Int64)) (fun P y => r_moves_38 Q  (fun b0 b1 b2 v f g => P (b0, b1, b2, v, f, g)) y.1 y.2.1 y.2.2.1 y.2.2.2.1 y.2.2.2.2.1 y.2.2.2.2.2) (x1, x2, x3, v, f, g)
def r_moves (Q : (Nat → Int32) → (Nat → Nat → Int32) → (Nat → Nat → Int64) → Prop) (x1 : Int32) (x2 : Int32) (v : Nat → Int32) (f : Nat → Nat → Int32) (g : Nat → Nat → Int64) : Prop :=
vp_in x1 12 ∧ (vp_in x2 12 ∧ (∀ f1 : Nat → Nat → Int32, f1 = mU f 9 (x2).toNatClampNeg ((f 9 (x1).toNatClampNeg)) → vp_in x1 12 ∧ (vp_in x2 12 ∧ (∀ f2 : Nat → Nat → Int32, f2 = mU f1 10 (x2).toNatClampNeg ((f1 10 (x1).toNatClampNeg)) → vp_in x1 12 ∧ (vp_in x2 12 ∧ (∀ f3 : Nat → Nat → Int32, f3 = mU f2 11 (x2).toNatClampNeg ((f2 11 (x1).toNatClampNeg)) → r_moves_38L Q  x1 x2 (((nI 0))) v f3 g))))))
section S_moves
variable {p : Program} {l : Launch} {e : Env} {s : State} {m : MethodId} {args : Array Value} {below : List Frame} {meth : Method} {c : Code} {A : Nat → Prop} {D : va_G} {cI cJ cZ : ClassId} {a : Nat → Nat}
set_option maxRecDepth 20000 in
theorem sb_moves_38 (C : mC p s m args meth c cX12_moves 4 none A D cI cJ cZ) {post : mS → Prop} {R38 : Int32 → Int32 → Int32 → (Nat → Int32) → (Nat → Nat → Int32) → (Nat → Nat → Int64) → Prop} (hR38 : ∀ (x1 : Int32) (x2 : Int32) (x3 : Int32) (v : Nat → Int32) (f : Nat → Nat → Int32) (g : Nat → Nat → Int64), R38 x1 x2 x3 v f g → mG p l e (mRm 0 0) s m args below meth c A D cI cJ cZ a 4 (MQ below (va_Qv post (mB D cI cJ cZ a) A) args s 0 0 A) 38 [(0, .ref (a 0)), (1, .int x1), (2, .int x2), (3, .int x3)] [] v f g) (x1 : Int32) (x2 : Int32) (x3 : Int32) (v : Nat → Int32) (f : Nat → Nat → Int32) (g : Nat → Nat → Int64) (h : r_moves_38 (fun v f g => post (v, f, g)) R38 x1 x2 x3 v f g) : mG p l e (mRm 0 0) s m args below meth c A D cI cJ cZ a 4 (MQ below (va_Qv post (mB D cI cJ cZ a) A) args s 0 0 A) 38 [(0, .ref (a 0)), (1, .int x1), (2, .int x2), (3, .int x3)] [] v f g := by
  unfold r_moves_38 at h
  refine mg_iload_n C (i := 3) rfl 3 rfl dX12_moves_38 ?_
  refine mg_bipush C (x := nI 40) rfl dX12_moves_39 ?_
  refine mg_icmp_ge C 72 (by decide) dX12_moves_41 (fun c_ => ?_) (fun c_ => ?_)
  · have h := h.1 c_
    refine mg_aload_n C (i := 0) rfl 0 rfl dX12_moves_72 ?_
    refine mg_arr C 13 (by decide) (by decide) rfl mL_bufferPlaces rfl dX12_moves_73 ?_
    refine mg_iconst C (x := nI 2) rfl dX12_moves_76 ?_
    refine mg_iload_n C (i := 2) rfl 2 rfl dX12_moves_77 ?_
    refine mg_imul C dX12_moves_78 ?_
    refine mg_aload_n C (i := 0) rfl 0 rfl dX12_moves_79 ?_
    refine mg_arr C 13 (by decide) (by decide) rfl mL_bufferPlaces rfl dX12_moves_80 ?_
    refine mg_iconst C (x := nI 2) rfl dX12_moves_83 ?_
    refine mg_iload_n C (i := 1) rfl 1 rfl dX12_moves_84 ?_
    refine mg_imul C dX12_moves_85 ?_
    obtain ⟨hc_86, h⟩ := h
    refine mg_ialoadR C (n := 24) 13 (by decide) (by decide) rfl rfl hc_86 dX12_moves_86 ?_
    obtain ⟨hc_87, h⟩ := h
    refine mg_iastoreR C (n := 24) 13 (by decide) (by decide) rfl rfl hc_87 dX12_moves_87 ?_
    refine mg_nmF (fun f4 e_f4 => ?_)
    have h := h f4 e_f4
    refine mg_aload_n C (i := 0) rfl 0 rfl dX12_moves_88 ?_
    refine mg_arr C 13 (by decide) (by decide) rfl mL_bufferPlaces rfl dX12_moves_89 ?_
    refine mg_iconst C (x := nI 2) rfl dX12_moves_92 ?_
    refine mg_iload_n C (i := 2) rfl 2 rfl dX12_moves_93 ?_
    refine mg_imul C dX12_moves_94 ?_
    refine mg_iconst C (x := nI 1) rfl dX12_moves_95 ?_
    refine mg_iadd C dX12_moves_96 ?_
    refine mg_aload_n C (i := 0) rfl 0 rfl dX12_moves_97 ?_
    refine mg_arr C 13 (by decide) (by decide) rfl mL_bufferPlaces rfl dX12_moves_98 ?_
    refine mg_iconst C (x := nI 2) rfl dX12_moves_101 ?_
    refine mg_iload_n C (i := 1) rfl 1 rfl dX12_moves_102 ?_
    refine mg_imul C dX12_moves_103 ?_
    refine mg_iconst C (x := nI 1) rfl dX12_moves_104 ?_
    refine mg_iadd C dX12_moves_105 ?_
    obtain ⟨hc_106, h⟩ := h
    refine mg_ialoadR C (n := 24) 13 (by decide) (by decide) rfl rfl hc_106 dX12_moves_106 ?_
    obtain ⟨hc_107, h⟩ := h
    refine mg_iastoreR C (n := 24) 13 (by decide) (by decide) rfl rfl hc_107 dX12_moves_107 ?_
    refine mg_nmF (fun f5 e_f5 => ?_)
    have h := h f5 e_f5
    exact mg_vret C h dX12_moves_108
  · have h := h.2 c_
    refine mg_aload_n C (i := 0) rfl 0 rfl dX12_moves_44 ?_
    refine mg_arr C 12 (by decide) (by decide) rfl mL_bufferStems rfl dX12_moves_45 ?_
    refine mg_bipush C (x := nI 40) rfl dX12_moves_48 ?_
    refine mg_iload_n C (i := 2) rfl 2 rfl dX12_moves_50 ?_
    refine mg_imul C dX12_moves_51 ?_
    refine mg_iload_n C (i := 3) rfl 3 rfl dX12_moves_52 ?_
    refine mg_iadd C dX12_moves_53 ?_
    refine mg_aload_n C (i := 0) rfl 0 rfl dX12_moves_54 ?_
    refine mg_arr C 12 (by decide) (by decide) rfl mL_bufferStems rfl dX12_moves_55 ?_
    refine mg_bipush C (x := nI 40) rfl dX12_moves_58 ?_
    refine mg_iload_n C (i := 1) rfl 1 rfl dX12_moves_60 ?_
    refine mg_imul C dX12_moves_61 ?_
    refine mg_iload_n C (i := 3) rfl 3 rfl dX12_moves_62 ?_
    refine mg_iadd C dX12_moves_63 ?_
    obtain ⟨hc_64, h⟩ := h
    refine mg_laloadR C (n := 480) 12 (by decide) (by decide) rfl rfl hc_64 dX12_moves_64 ?_
    obtain ⟨hc_65, h⟩ := h
    refine mg_lastoreR C (n := 480) 12 (by decide) (by decide) rfl rfl hc_65 dX12_moves_65 ?_
    refine mg_nmG (fun g6 e_g6 => ?_)
    have h := h g6 e_g6
    obtain ⟨x3_7, e_x3_7⟩ : ∃ z : Int32, z = x3 + nI 1 := ⟨_, rfl⟩
    have h := h x3_7 e_x3_7
    refine mg_iinc C (lv' := [(3, .int x3_7), (0, .ref (a 0)), (1, .int x1), (2, .int x2)]) 3 rfl (by rw [e_x3_7]; rfl) (Nat.le_of_ble_eq_true rfl) rfl dX12_moves_66 ?_
    refine mg_goto C 38 (by decide) dX12_moves_69 ?_
    exact mg_sub [1, 2, 3, 0] rfl (hR38 x1 x2 x3_7 v f g6 h)
set_option maxRecDepth 20000 in
theorem sl_moves_38 (C : mC p s m args meth c cX12_moves 4 none A D cI cJ cZ) {post : mS → Prop}   (x1 : Int32) (x2 : Int32) (x3 : Int32) (v : Nat → Int32) (f : Nat → Nat → Int32) (g : Nat → Nat → Int64) (h : r_moves_38L (fun v f g => post (v, f, g))  x1 x2 x3 v f g) : mG p l e (mRm 0 0) s m args below meth c A D cI cJ cZ a 4 (MQ below (va_Qv post (mB D cI cJ cZ a) A) args s 0 0 A) 38 [(0, .ref (a 0)), (1, .int x1), (2, .int x2), (3, .int x3)] [] v f g :=
  h (fun y => mG p l e (mRm 0 0) s m args below meth c A D cI cJ cZ a 4 (MQ below (va_Qv post (mB D cI cJ cZ a) A) args s 0 0 A) 38 [(0, .ref (a 0)), (1, .int (y.1)), (2, .int (y.2.1)), (3, .int (y.2.2.1))] [] (y.2.2.2.1) (y.2.2.2.2.1) (y.2.2.2.2.2)) (fun y hy => sb_moves_38 C  (fun b0 b1 b2 v f g z => z) (y.1) (y.2.1) (y.2.2.1) (y.2.2.2.1) (y.2.2.2.2.1) (y.2.2.2.2.2) hy)
end S_moves
set_option maxHeartbeats 1000000 in
set_option maxRecDepth 20000 in
theorem s_moves (l : Launch) (x1 : Int32) (x2 : Int32) (v : Nat → Int32) (f : Nat → Nat → Int32) (g : Nat → Nat → Int64) {P : (Nat → Int32) → (Nat → Nat → Int32) → (Nat → Nat → Int64) → Prop} (h : r_moves P x1 x2 v f g) : mMv l yX12_moves cX12_moves 4 none 0 0 false [.int x1, .int x2] v f g (fun w => P w.1 w.2.1 w.2.2) := by
  intro D cI cJ cZ a sz
  refine mg_body (by decide +kernel) rfl (Nat.le_of_ble_eq_true rfl) ?_
  intro p e s m args below meth c hsz C
  clear hsz
  generalize va_A (mW cI cJ cZ a v f g) sz = A at C ⊢
  refine mg_lv (lv' := [(0, .ref (a 0)), (1, .int x1), (2, .int x2)]) rfl ?_
  unfold r_moves at h
  refine mg_aload_n C (i := 0) rfl 0 rfl dX12_moves_0 ?_
  refine mg_arr C 9 (by decide) (by decide) rfl mL_bufferKeys rfl dX12_moves_1 ?_
  refine mg_iload_n C (i := 2) rfl 2 rfl dX12_moves_4 ?_
  refine mg_aload_n C (i := 0) rfl 0 rfl dX12_moves_5 ?_
  refine mg_arr C 9 (by decide) (by decide) rfl mL_bufferKeys rfl dX12_moves_6 ?_
  refine mg_iload_n C (i := 1) rfl 1 rfl dX12_moves_9 ?_
  obtain ⟨hc_10, h⟩ := h
  refine mg_ialoadR C (n := 12) 9 (by decide) (by decide) rfl rfl hc_10 dX12_moves_10 ?_
  obtain ⟨hc_11, h⟩ := h
  refine mg_iastoreR C (n := 12) 9 (by decide) (by decide) rfl rfl hc_11 dX12_moves_11 ?_
  refine mg_nmF (fun f1 e_f1 => ?_)
  have h := h f1 e_f1
  refine mg_aload_n C (i := 0) rfl 0 rfl dX12_moves_12 ?_
  refine mg_arr C 10 (by decide) (by decide) rfl mL_bufferCategories rfl dX12_moves_13 ?_
  refine mg_iload_n C (i := 2) rfl 2 rfl dX12_moves_16 ?_
  refine mg_aload_n C (i := 0) rfl 0 rfl dX12_moves_17 ?_
  refine mg_arr C 10 (by decide) (by decide) rfl mL_bufferCategories rfl dX12_moves_18 ?_
  refine mg_iload_n C (i := 1) rfl 1 rfl dX12_moves_21 ?_
  obtain ⟨hc_22, h⟩ := h
  refine mg_ialoadR C (n := 12) 10 (by decide) (by decide) rfl rfl hc_22 dX12_moves_22 ?_
  obtain ⟨hc_23, h⟩ := h
  refine mg_iastoreR C (n := 12) 10 (by decide) (by decide) rfl rfl hc_23 dX12_moves_23 ?_
  refine mg_nmF (fun f2 e_f2 => ?_)
  have h := h f2 e_f2
  refine mg_aload_n C (i := 0) rfl 0 rfl dX12_moves_24 ?_
  refine mg_arr C 11 (by decide) (by decide) rfl mL_bufferNumbers rfl dX12_moves_25 ?_
  refine mg_iload_n C (i := 2) rfl 2 rfl dX12_moves_28 ?_
  refine mg_aload_n C (i := 0) rfl 0 rfl dX12_moves_29 ?_
  refine mg_arr C 11 (by decide) (by decide) rfl mL_bufferNumbers rfl dX12_moves_30 ?_
  refine mg_iload_n C (i := 1) rfl 1 rfl dX12_moves_33 ?_
  obtain ⟨hc_34, h⟩ := h
  refine mg_ialoadR C (n := 12) 11 (by decide) (by decide) rfl rfl hc_34 dX12_moves_34 ?_
  obtain ⟨hc_35, h⟩ := h
  refine mg_iastoreR C (n := 12) 11 (by decide) (by decide) rfl rfl hc_35 dX12_moves_35 ?_
  refine mg_nmF (fun f3 e_f3 => ?_)
  have h := h f3 e_f3
  refine mg_iconst C (x := nI 0) rfl dX12_moves_36 ?_
  refine mg_istore_n C (i := 3) (lv' := [(3, .int ((nI 0))), (0, .ref (a 0)), (1, .int x1), (2, .int x2)]) rfl (Nat.le_of_ble_eq_true rfl) rfl dX12_moves_37 ?_
  exact mg_sub [1, 2, 3, 0] rfl (sl_moves_38 C  x1 x2 (((nI 0))) v f3 g h)
def r_deletes_144 (Q : Int32 → (Nat → Int32) → (Nat → Nat → Int32) → (Nat → Nat → Int64) → Prop) (R64 : Int32 → Int32 → Int32 → (Nat → Int32) → (Nat → Nat → Int32) → (Nat → Nat → Int64) → Prop) (R76 : Int32 → Int32 → Int32 → Int32 → (Nat → Int32) → (Nat → Nat → Int32) → (Nat → Nat → Int64) → Prop) (x1 : Int32) (x3 : Int32) (x4 : Int32) (x5 : Int32) (v : Nat → Int32) (f : Nat → Nat → Int32) (g : Nat → Nat → Int64) : Prop :=
∀ x5_4 : Int32, x5_4 = x5 + nI 1 → R76 x1 x3 x4 x5_4 v f g
def r_deletes_76 (Q : Int32 → (Nat → Int32) → (Nat → Nat → Int32) → (Nat → Nat → Int64) → Prop) (R64 : Int32 → Int32 → Int32 → (Nat → Int32) → (Nat → Nat → Int32) → (Nat → Nat → Int64) → Prop) (R76 : Int32 → Int32 → Int32 → Int32 → (Nat → Int32) → (Nat → Nat → Int32) → (Nat → Nat → Int64) → Prop) (x1 : Int32) (x3 : Int32) (x4 : Int32) (x5 : Int32) (v : Nat → Int32) (f : Nat → Nat → Int32) (g : Nat → Nat → Int64) : Prop :=
vp_in x4 202 ∧ (vp_in ((f 24 (x4).toNatClampNeg)) 202 ∧ (((((f 20 ((f 24 (x4).toNatClampNeg)).toNatClampNeg)) ≤ x5 →
  ∀ x4_2 : Int32, x4_2 = x4 + nI 1 → R64 x1 x3 x4_2 v f g) ∧
 (¬ ((f 20 ((f 24 (x4).toNatClampNeg)).toNatClampNeg)) ≤ x5 →
  vp_in x4 202 ∧ (∀ x6_3 : Int32, x6_3 = (((((nI 100)) * ((f 24 (x4).toNatClampNeg)))) + x5) → vp_in x6_3 20200 ∧ (((((f 21 (x6_3).toNatClampNeg)) = 0 →
    r_deletes_144 Q R64 R76 x1 x3 x4 x5 v f g) ∧
   (¬ ((f 21 (x6_3).toNatClampNeg)) = 0 →
    vp_in x6_3 20200 ∧ (vp_in ((f 19 (x6_3).toNatClampNeg)) 2424 ∧ (((¬ ((f 14 ((f 19 (x6_3).toNatClampNeg)).toNatClampNeg)) = x1 →
      r_deletes_144 Q R64 R76 x1 x3 x4 x5 v f g) ∧
     (((f 14 ((f 19 (x6_3).toNatClampNeg)).toNatClampNeg)) = x1 →
      vp_in x6_3 20200 ∧ (∀ f5 : Nat → Nat → Int32, f5 = mU f 21 (x6_3).toNatClampNeg ((bI false)) → r_deletes_144 Q R64 R76 x1 (((nI 1))) x4 x5 v f5 g)))))))))))))
def r_deletes_76L (Q : Int32 → (Nat → Int32) → (Nat → Nat → Int32) → (Nat → Nat → Int64) → Prop) (R64 : Int32 → Int32 → Int32 → (Nat → Int32) → (Nat → Nat → Int32) → (Nat → Nat → Int64) → Prop) (x1 : Int32) (x3 : Int32) (x4 : Int32) (x5 : Int32) (v : Nat → Int32) (f : Nat → Nat → Int32) (g : Nat → Nat → Int64) : Prop :=
  lfp (X := Int32 × Int32 × Int32 × Int32 × (Nat → Int32) × (Nat → Nat → Int32) × (Nat → Nat → Int64)) (fun P y => r_deletes_76 Q R64 (fun b0 b1 b2 b3 v f g => P (b0, b1, b2, b3, v, f, g)) y.1 y.2.1 y.2.2.1 y.2.2.2.1 y.2.2.2.2.1 y.2.2.2.2.2.1 y.2.2.2.2.2.2) (x1, x3, x4, x5, v, f, g)
def r_deletes_64 (Q : Int32 → (Nat → Int32) → (Nat → Nat → Int32) → (Nat → Nat → Int64) → Prop) (R64 : Int32 → Int32 → Int32 → (Nat → Int32) → (Nat → Nat → Int32) → (Nat → Nat → Int64) → Prop) (x1 : Int32) (x3 : Int32) (x4 : Int32) (v : Nat → Int32) (f : Nat → Nat → Int32) (g : Nat → Nat → Int64) : Prop :=
((((v 34)) ≤ x4 →
  isZ x3 ∧ (Q x3 v f g)) ∧
 (¬ ((v 34)) ≤ x4 →
  r_deletes_76L Q R64 x1 x3 x4 (((nI 0))) v f g))
def r_deletes_64L (Q : Int32 → (Nat → Int32) → (Nat → Nat → Int32) → (Nat → Nat → Int64) → Prop)  (x1 : Int32) (x3 : Int32) (x4 : Int32) (v : Nat → Int32) (f : Nat → Nat → Int32) (g : Nat → Nat → Int64) : Prop :=
  lfp (X := Int32 × Int32 × Int32 × (Nat → Int32) × (Nat → Nat → Int32) × (Nat → Nat → Int64)) (fun P y => r_deletes_64 Q  (fun b0 b1 b2 v f g => P (b0, b1, b2, v, f, g)) y.1 y.2.1 y.2.2.1 y.2.2.2.1 y.2.2.2.2.1 y.2.2.2.2.2) (x1, x3, x4, v, f, g)
def r_deletes_61 (Q : Int32 → (Nat → Int32) → (Nat → Nat → Int32) → (Nat → Nat → Int64) → Prop)  (x1 : Int32) (x3 : Int32) (v : Nat → Int32) (f : Nat → Nat → Int32) (g : Nat → Nat → Int64) : Prop :=
r_deletes_64L Q  x1 x3 (((nI 0))) v f g
def r_deletes_26 (Q : Int32 → (Nat → Int32) → (Nat → Nat → Int32) → (Nat → Nat → Int64) → Prop) (R26 : Int32 → Int32 → Int32 → (Nat → Int32) → (Nat → Nat → Int32) → (Nat → Nat → Int64) → Prop) (x1 : Int32) (x3 : Int32) (x4 : Int32) (v : Nat → Int32) (f : Nat → Nat → Int32) (g : Nat → Nat → Int64) : Prop :=
((((v 20)) ≤ x4 →
  ∀ v7 : Nat → Int32, v7 = upd v 20 ((((v 20)) - ((nI 1)))) → r_deletes_61 Q  x1 x3 v7 f g) ∧
 (¬ ((v 20)) ≤ x4 →
  r_moves (fun v_8 f_8 g_8 => 
  ∀ x4_9 : Int32, x4_9 = x4 + nI 1 → R26 x1 x3 x4_9 v_8 f_8 g_8) x4 ((x4 - ((nI 1)))) v f g))
def r_deletes_26L (Q : Int32 → (Nat → Int32) → (Nat → Nat → Int32) → (Nat → Nat → Int64) → Prop)  (x1 : Int32) (x3 : Int32) (x4 : Int32) (v : Nat → Int32) (f : Nat → Nat → Int32) (g : Nat → Nat → Int64) : Prop :=
  lfp (X := Int32 × Int32 × Int32 × (Nat → Int32) × (Nat → Nat → Int32) × (Nat → Nat → Int64)) (fun P y => r_deletes_26 Q  (fun b0 b1 b2 v f g => P (b0, b1, b2, v, f, g)) y.1 y.2.1 y.2.2.1 y.2.2.2.1 y.2.2.2.2.1 y.2.2.2.2.2) (x1, x3, x4, v, f, g)
def r_deletes_16 (Q : Int32 → (Nat → Int32) → (Nat → Nat → Int32) → (Nat → Nat → Int64) → Prop)  (x1 : Int32) (x2 : Int32) (t0 : Int32) (v : Nat → Int32) (f : Nat → Nat → Int32) (g : Nat → Nat → Int64) : Prop :=
((t0 = 0 →
  r_deletes_61 Q  x1 t0 v f g) ∧
 (¬ t0 = 0 →
  ∀ x4_6 : Int32, x4_6 = (x2 + ((nI 1))) → r_deletes_26L Q  x1 t0 x4_6 v f g))
def r_deletes (Q : Int32 → (Nat → Int32) → (Nat → Nat → Int32) → (Nat → Nat → Int64) → Prop) (x1 : Int32) (v : Nat → Int32) (f : Nat → Nat → Int32) (g : Nat → Nat → Int64) : Prop :=
r_inBuffer (fun r_1 v_1 f_1 g_1 => 
((r_1 = (((-1))) →
  r_deletes_16 Q  x1 r_1 ((nI 0)) v_1 f_1 g_1) ∧
 (¬ r_1 = (((-1))) →
  r_deletes_16 Q  x1 r_1 ((nI 1)) v_1 f_1 g_1))) x1 v f g
section S_deletes
variable {p : Program} {l : Launch} {e : Env} {s : State} {m : MethodId} {args : Array Value} {below : List Frame} {meth : Method} {c : Code} {A : Nat → Prop} {D : va_G} {cI cJ cZ : ClassId} {a : Nat → Nat}
set_option maxRecDepth 20000 in
theorem sb_deletes_144 (C : mC p s m args meth c cX12_deletes 7 (some .boolean) A D cI cJ cZ) {post : Int32 → mS → Prop} {R64 : Int32 → Int32 → Int32 → (Nat → Int32) → (Nat → Nat → Int32) → (Nat → Nat → Int64) → Prop} {R76 : Int32 → Int32 → Int32 → Int32 → (Nat → Int32) → (Nat → Nat → Int32) → (Nat → Nat → Int64) → Prop} (hR64 : ∀ (x1 : Int32) (x3 : Int32) (x4 : Int32) (v : Nat → Int32) (f : Nat → Nat → Int32) (g : Nat → Nat → Int64), R64 x1 x3 x4 v f g → mG p l e (mRm 1 23) s m args below meth c A D cI cJ cZ a 7 (MQ below (va_Qi post (mB D cI cJ cZ a) A) args s 0 0 A) 64 [(0, .ref (a 0)), (1, .int x1), (3, .int x3), (4, .int x4)] [] v f g) (hR76 : ∀ (x1 : Int32) (x3 : Int32) (x4 : Int32) (x5 : Int32) (v : Nat → Int32) (f : Nat → Nat → Int32) (g : Nat → Nat → Int64), R76 x1 x3 x4 x5 v f g → mG p l e (mRm 1 23) s m args below meth c A D cI cJ cZ a 7 (MQ below (va_Qi post (mB D cI cJ cZ a) A) args s 0 0 A) 76 [(0, .ref (a 0)), (1, .int x1), (3, .int x3), (4, .int x4), (5, .int x5)] [] v f g) (x1 : Int32) (x3 : Int32) (x4 : Int32) (x5 : Int32) (v : Nat → Int32) (f : Nat → Nat → Int32) (g : Nat → Nat → Int64) (h : r_deletes_144 (fun r v f g => post r (v, f, g)) R64 R76 x1 x3 x4 x5 v f g) : mG p l e (mRm 1 23) s m args below meth c A D cI cJ cZ a 7 (MQ below (va_Qi post (mB D cI cJ cZ a) A) args s 0 0 A) 144 [(0, .ref (a 0)), (1, .int x1), (3, .int x3), (4, .int x4), (5, .int x5)] [] v f g := by
  unfold r_deletes_144 at h
  obtain ⟨x5_4, e_x5_4⟩ : ∃ z : Int32, z = x5 + nI 1 := ⟨_, rfl⟩
  have h := h x5_4 e_x5_4
  refine mg_iinc C (lv' := [(5, .int x5_4), (0, .ref (a 0)), (1, .int x1), (3, .int x3), (4, .int x4)]) 4 rfl (by rw [e_x5_4]; rfl) (Nat.le_of_ble_eq_true rfl) rfl dX12_deletes_144 ?_
  refine mg_goto C 76 (by decide) dX12_deletes_147 ?_
  exact mg_sub [1, 2, 3, 4, 0] rfl (hR76 x1 x3 x4 x5_4 v f g h)
set_option maxRecDepth 20000 in
theorem sb_deletes_76 (C : mC p s m args meth c cX12_deletes 7 (some .boolean) A D cI cJ cZ) {post : Int32 → mS → Prop} {R64 : Int32 → Int32 → Int32 → (Nat → Int32) → (Nat → Nat → Int32) → (Nat → Nat → Int64) → Prop} {R76 : Int32 → Int32 → Int32 → Int32 → (Nat → Int32) → (Nat → Nat → Int32) → (Nat → Nat → Int64) → Prop} (hR64 : ∀ (x1 : Int32) (x3 : Int32) (x4 : Int32) (v : Nat → Int32) (f : Nat → Nat → Int32) (g : Nat → Nat → Int64), R64 x1 x3 x4 v f g → mG p l e (mRm 1 23) s m args below meth c A D cI cJ cZ a 7 (MQ below (va_Qi post (mB D cI cJ cZ a) A) args s 0 0 A) 64 [(0, .ref (a 0)), (1, .int x1), (3, .int x3), (4, .int x4)] [] v f g) (hR76 : ∀ (x1 : Int32) (x3 : Int32) (x4 : Int32) (x5 : Int32) (v : Nat → Int32) (f : Nat → Nat → Int32) (g : Nat → Nat → Int64), R76 x1 x3 x4 x5 v f g → mG p l e (mRm 1 23) s m args below meth c A D cI cJ cZ a 7 (MQ below (va_Qi post (mB D cI cJ cZ a) A) args s 0 0 A) 76 [(0, .ref (a 0)), (1, .int x1), (3, .int x3), (4, .int x4), (5, .int x5)] [] v f g) (x1 : Int32) (x3 : Int32) (x4 : Int32) (x5 : Int32) (v : Nat → Int32) (f : Nat → Nat → Int32) (g : Nat → Nat → Int64) (h : r_deletes_76 (fun r v f g => post r (v, f, g)) R64 R76 x1 x3 x4 x5 v f g) : mG p l e (mRm 1 23) s m args below meth c A D cI cJ cZ a 7 (MQ below (va_Qi post (mB D cI cJ cZ a) A) args s 0 0 A) 76 [(0, .ref (a 0)), (1, .int x1), (3, .int x3), (4, .int x4), (5, .int x5)] [] v f g := by
  unfold r_deletes_76 at h
  refine mg_iload C 4 rfl dX12_deletes_76 ?_
  refine mg_aload_n C (i := 0) rfl 0 rfl dX12_deletes_78 ?_
  refine mg_arr C 20 (by decide) (by decide) rfl mL_sizes rfl dX12_deletes_79 ?_
  refine mg_aload_n C (i := 0) rfl 0 rfl dX12_deletes_82 ?_
  refine mg_arr C 24 (by decide) (by decide) rfl mL_index rfl dX12_deletes_83 ?_
  refine mg_iload C 3 rfl dX12_deletes_86 ?_
  obtain ⟨hc_88, h⟩ := h
  refine mg_ialoadR C (n := 202) 24 (by decide) (by decide) rfl rfl hc_88 dX12_deletes_88 ?_
  obtain ⟨hc_89, h⟩ := h
  refine mg_ialoadR C (n := 202) 20 (by decide) (by decide) rfl rfl hc_89 dX12_deletes_89 ?_
  refine mg_icmp_ge C 150 (by decide) dX12_deletes_90 (fun c_ => ?_) (fun c_ => ?_)
  · have h := h.1 c_
    obtain ⟨x4_2, e_x4_2⟩ : ∃ z : Int32, z = x4 + nI 1 := ⟨_, rfl⟩
    have h := h x4_2 e_x4_2
    refine mg_iinc C (lv' := [(4, .int x4_2), (0, .ref (a 0)), (1, .int x1), (3, .int x3), (5, .int x5)]) 3 rfl (by rw [e_x4_2]; rfl) (Nat.le_of_ble_eq_true rfl) rfl dX12_deletes_150 ?_
    refine mg_goto C 64 (by decide) dX12_deletes_153 ?_
    exact mg_sub [1, 2, 3, 0] rfl (hR64 x1 x3 x4_2 v f g h)
  · have h := h.2 c_
    refine mg_bipush C (x := nI 100) rfl dX12_deletes_93 ?_
    refine mg_aload_n C (i := 0) rfl 0 rfl dX12_deletes_95 ?_
    refine mg_arr C 24 (by decide) (by decide) rfl mL_index rfl dX12_deletes_96 ?_
    refine mg_iload C 3 rfl dX12_deletes_99 ?_
    obtain ⟨hc_101, h⟩ := h
    refine mg_ialoadR C (n := 202) 24 (by decide) (by decide) rfl rfl hc_101 dX12_deletes_101 ?_
    refine mg_imul C dX12_deletes_102 ?_
    refine mg_iload C 4 rfl dX12_deletes_103 ?_
    refine mg_iadd C dX12_deletes_105 ?_
    refine mg_nmI (fun x6_3 e_x6_3 => ?_)
    have h := h x6_3 e_x6_3
    refine mg_istore C (lv' := [(6, .int x6_3), (0, .ref (a 0)), (1, .int x1), (3, .int x3), (4, .int x4), (5, .int x5)]) (Nat.le_of_ble_eq_true rfl) rfl dX12_deletes_106 ?_
    refine mg_aload_n C (i := 0) rfl 1 rfl dX12_deletes_108 ?_
    refine mg_arr C 21 (by decide) (by decide) rfl mL_live rfl dX12_deletes_109 ?_
    refine mg_iload C 0 rfl dX12_deletes_112 ?_
    obtain ⟨hc_114, h⟩ := h
    refine mg_baloadR C (n := 20200) 21 (by decide) (by decide) rfl rfl hc_114 dX12_deletes_114 ?_
    refine mg_if_eq C 144 (by decide) dX12_deletes_115 (fun c_ => ?_) (fun c_ => ?_)
    · have h := h.1 c_
      exact mg_sub [1, 2, 3, 4, 5] rfl (sb_deletes_144 C hR64 hR76 x1 x3 x4 x5 v f g h)
    · have h := h.2 c_
      refine mg_aload_n C (i := 0) rfl 1 rfl dX12_deletes_118 ?_
      refine mg_arr C 14 (by decide) (by decide) rfl mL_keys rfl dX12_deletes_119 ?_
      refine mg_aload_n C (i := 0) rfl 1 rfl dX12_deletes_122 ?_
      refine mg_arr C 19 (by decide) (by decide) rfl mL_held rfl dX12_deletes_123 ?_
      refine mg_iload C 0 rfl dX12_deletes_126 ?_
      obtain ⟨hc_128, h⟩ := h
      refine mg_ialoadR C (n := 20200) 19 (by decide) (by decide) rfl rfl hc_128 dX12_deletes_128 ?_
      obtain ⟨hc_129, h⟩ := h
      refine mg_ialoadR C (n := 2424) 14 (by decide) (by decide) rfl rfl hc_129 dX12_deletes_129 ?_
      refine mg_iload_n C (i := 1) rfl 2 rfl dX12_deletes_130 ?_
      refine mg_icmp_ne C 144 (by decide) dX12_deletes_131 (fun c_ => ?_) (fun c_ => ?_)
      · have h := h.1 c_
        exact mg_sub [1, 2, 3, 4, 5] rfl (sb_deletes_144 C hR64 hR76 x1 x3 x4 x5 v f g h)
      · have h := h.2 c_
        refine mg_aload_n C (i := 0) rfl 1 rfl dX12_deletes_134 ?_
        refine mg_arr C 21 (by decide) (by decide) rfl mL_live rfl dX12_deletes_135 ?_
        refine mg_iload C 0 rfl dX12_deletes_138 ?_
        refine mg_iconst C (x := nI 0) rfl dX12_deletes_140 ?_
        obtain ⟨hc_141, h⟩ := h
        refine mg_cast (bI false) rfl ?_
        refine mg_bastoreR C (n := 20200) 21 (by decide) (by decide) rfl rfl hc_141 (bI_vp _) dX12_deletes_141 ?_
        refine mg_nmF (fun f5 e_f5 => ?_)
        have h := h f5 e_f5
        refine mg_iconst C (x := nI 1) rfl dX12_deletes_142 ?_
        refine mg_istore_n C (i := 3) (lv' := [(3, .int ((nI 1))), (6, .int x6_3), (0, .ref (a 0)), (1, .int x1), (4, .int x4), (5, .int x5)]) rfl (Nat.le_of_ble_eq_true rfl) rfl dX12_deletes_143 ?_
        exact mg_sub [2, 3, 0, 4, 5] rfl (sb_deletes_144 C hR64 hR76 x1 (((nI 1))) x4 x5 v f5 g h)
set_option maxRecDepth 20000 in
theorem sl_deletes_76 (C : mC p s m args meth c cX12_deletes 7 (some .boolean) A D cI cJ cZ) {post : Int32 → mS → Prop} {R64 : Int32 → Int32 → Int32 → (Nat → Int32) → (Nat → Nat → Int32) → (Nat → Nat → Int64) → Prop} (hR64 : ∀ (x1 : Int32) (x3 : Int32) (x4 : Int32) (v : Nat → Int32) (f : Nat → Nat → Int32) (g : Nat → Nat → Int64), R64 x1 x3 x4 v f g → mG p l e (mRm 1 23) s m args below meth c A D cI cJ cZ a 7 (MQ below (va_Qi post (mB D cI cJ cZ a) A) args s 0 0 A) 64 [(0, .ref (a 0)), (1, .int x1), (3, .int x3), (4, .int x4)] [] v f g) (x1 : Int32) (x3 : Int32) (x4 : Int32) (x5 : Int32) (v : Nat → Int32) (f : Nat → Nat → Int32) (g : Nat → Nat → Int64) (h : r_deletes_76L (fun r v f g => post r (v, f, g)) R64 x1 x3 x4 x5 v f g) : mG p l e (mRm 1 23) s m args below meth c A D cI cJ cZ a 7 (MQ below (va_Qi post (mB D cI cJ cZ a) A) args s 0 0 A) 76 [(0, .ref (a 0)), (1, .int x1), (3, .int x3), (4, .int x4), (5, .int x5)] [] v f g :=
  h (fun y => mG p l e (mRm 1 23) s m args below meth c A D cI cJ cZ a 7 (MQ below (va_Qi post (mB D cI cJ cZ a) A) args s 0 0 A) 76 [(0, .ref (a 0)), (1, .int (y.1)), (3, .int (y.2.1)), (4, .int (y.2.2.1)), (5, .int (y.2.2.2.1))] [] (y.2.2.2.2.1) (y.2.2.2.2.2.1) (y.2.2.2.2.2.2)) (fun y hy => sb_deletes_76 C hR64 (fun b0 b1 b2 b3 v f g z => z) (y.1) (y.2.1) (y.2.2.1) (y.2.2.2.1) (y.2.2.2.2.1) (y.2.2.2.2.2.1) (y.2.2.2.2.2.2) hy)
set_option maxRecDepth 20000 in
theorem sb_deletes_64 (C : mC p s m args meth c cX12_deletes 7 (some .boolean) A D cI cJ cZ) {post : Int32 → mS → Prop} {R64 : Int32 → Int32 → Int32 → (Nat → Int32) → (Nat → Nat → Int32) → (Nat → Nat → Int64) → Prop} (hR64 : ∀ (x1 : Int32) (x3 : Int32) (x4 : Int32) (v : Nat → Int32) (f : Nat → Nat → Int32) (g : Nat → Nat → Int64), R64 x1 x3 x4 v f g → mG p l e (mRm 1 23) s m args below meth c A D cI cJ cZ a 7 (MQ below (va_Qi post (mB D cI cJ cZ a) A) args s 0 0 A) 64 [(0, .ref (a 0)), (1, .int x1), (3, .int x3), (4, .int x4)] [] v f g) (x1 : Int32) (x3 : Int32) (x4 : Int32) (v : Nat → Int32) (f : Nat → Nat → Int32) (g : Nat → Nat → Int64) (h : r_deletes_64 (fun r v f g => post r (v, f, g)) R64 x1 x3 x4 v f g) : mG p l e (mRm 1 23) s m args below meth c A D cI cJ cZ a 7 (MQ below (va_Qi post (mB D cI cJ cZ a) A) args s 0 0 A) 64 [(0, .ref (a 0)), (1, .int x1), (3, .int x3), (4, .int x4)] [] v f g := by
  unfold r_deletes_64 at h
  refine mg_iload C 3 rfl dX12_deletes_64 ?_
  refine mg_aload_n C (i := 0) rfl 0 rfl dX12_deletes_66 ?_
  refine mg_getI C (k := 34) (by decide) rfl mL_indexed rfl dX12_deletes_67 ?_
  refine mg_icmp_ge C 156 (by decide) dX12_deletes_70 (fun c_ => ?_) (fun c_ => ?_)
  · have h := h.1 c_
    refine mg_iload_n C (i := 3) rfl 2 rfl dX12_deletes_156 ?_
    obtain ⟨hc_157, h⟩ := h
    exact mg_zret C (isZ_nar hc_157) h dX12_deletes_157
  · have h := h.2 c_
    refine mg_iconst C (x := nI 0) rfl dX12_deletes_73 ?_
    refine mg_istore C (lv' := [(5, .int ((nI 0))), (0, .ref (a 0)), (1, .int x1), (3, .int x3), (4, .int x4)]) (Nat.le_of_ble_eq_true rfl) rfl dX12_deletes_74 ?_
    exact mg_sub [1, 2, 3, 4, 0] rfl (sl_deletes_76 C hR64 x1 x3 x4 (((nI 0))) v f g h)
set_option maxRecDepth 20000 in
theorem sl_deletes_64 (C : mC p s m args meth c cX12_deletes 7 (some .boolean) A D cI cJ cZ) {post : Int32 → mS → Prop}   (x1 : Int32) (x3 : Int32) (x4 : Int32) (v : Nat → Int32) (f : Nat → Nat → Int32) (g : Nat → Nat → Int64) (h : r_deletes_64L (fun r v f g => post r (v, f, g))  x1 x3 x4 v f g) : mG p l e (mRm 1 23) s m args below meth c A D cI cJ cZ a 7 (MQ below (va_Qi post (mB D cI cJ cZ a) A) args s 0 0 A) 64 [(0, .ref (a 0)), (1, .int x1), (3, .int x3), (4, .int x4)] [] v f g :=
  h (fun y => mG p l e (mRm 1 23) s m args below meth c A D cI cJ cZ a 7 (MQ below (va_Qi post (mB D cI cJ cZ a) A) args s 0 0 A) 64 [(0, .ref (a 0)), (1, .int (y.1)), (3, .int (y.2.1)), (4, .int (y.2.2.1))] [] (y.2.2.2.1) (y.2.2.2.2.1) (y.2.2.2.2.2)) (fun y hy => sb_deletes_64 C  (fun b0 b1 b2 v f g z => z) (y.1) (y.2.1) (y.2.2.1) (y.2.2.2.1) (y.2.2.2.2.1) (y.2.2.2.2.2) hy)
set_option maxRecDepth 20000 in
theorem sb_deletes_61 (C : mC p s m args meth c cX12_deletes 7 (some .boolean) A D cI cJ cZ) {post : Int32 → mS → Prop}   (x1 : Int32) (x3 : Int32) (v : Nat → Int32) (f : Nat → Nat → Int32) (g : Nat → Nat → Int64) (h : r_deletes_61 (fun r v f g => post r (v, f, g))  x1 x3 v f g) : mG p l e (mRm 1 23) s m args below meth c A D cI cJ cZ a 7 (MQ below (va_Qi post (mB D cI cJ cZ a) A) args s 0 0 A) 61 [(0, .ref (a 0)), (1, .int x1), (3, .int x3)] [] v f g := by
  unfold r_deletes_61 at h
  refine mg_iconst C (x := nI 0) rfl dX12_deletes_61 ?_
  refine mg_istore C (lv' := [(4, .int ((nI 0))), (0, .ref (a 0)), (1, .int x1), (3, .int x3)]) (Nat.le_of_ble_eq_true rfl) rfl dX12_deletes_62 ?_
  exact mg_sub [1, 2, 3, 0] rfl (sl_deletes_64 C  x1 x3 (((nI 0))) v f g h)
set_option maxRecDepth 20000 in
theorem sb_deletes_26 (C : mC p s m args meth c cX12_deletes 7 (some .boolean) A D cI cJ cZ) {post : Int32 → mS → Prop} {R26 : Int32 → Int32 → Int32 → (Nat → Int32) → (Nat → Nat → Int32) → (Nat → Nat → Int64) → Prop} (hR26 : ∀ (x1 : Int32) (x3 : Int32) (x4 : Int32) (v : Nat → Int32) (f : Nat → Nat → Int32) (g : Nat → Nat → Int64), R26 x1 x3 x4 v f g → mG p l e (mRm 1 23) s m args below meth c A D cI cJ cZ a 7 (MQ below (va_Qi post (mB D cI cJ cZ a) A) args s 0 0 A) 26 [(0, .ref (a 0)), (1, .int x1), (3, .int x3), (4, .int x4)] [] v f g) (x1 : Int32) (x3 : Int32) (x4 : Int32) (v : Nat → Int32) (f : Nat → Nat → Int32) (g : Nat → Nat → Int64) (h : r_deletes_26 (fun r v f g => post r (v, f, g)) R26 x1 x3 x4 v f g) : mG p l e (mRm 1 23) s m args below meth c A D cI cJ cZ a 7 (MQ below (va_Qi post (mB D cI cJ cZ a) A) args s 0 0 A) 26 [(0, .ref (a 0)), (1, .int x1), (3, .int x3), (4, .int x4)] [] v f g := by
  unfold r_deletes_26 at h
  refine mg_iload C 3 rfl dX12_deletes_26 ?_
  refine mg_aload_n C (i := 0) rfl 0 rfl dX12_deletes_28 ?_
  refine mg_getI C (k := 20) (by decide) rfl mL_buffered rfl dX12_deletes_29 ?_
  refine mg_icmp_ge C 51 (by decide) dX12_deletes_32 (fun c_ => ?_) (fun c_ => ?_)
  · have h := h.1 c_
    refine mg_aload_n C (i := 0) rfl 0 rfl dX12_deletes_51 ?_
    refine mg_dup C rfl dX12_deletes_52 ?_
    refine mg_getI C (k := 20) (by decide) rfl mL_buffered rfl dX12_deletes_53 ?_
    refine mg_iconst C (x := nI 1) rfl dX12_deletes_56 ?_
    refine mg_isub C dX12_deletes_57 ?_
    refine mg_put C (k := 20) (by decide) rfl mL_buffered rfl (by decide +kernel) mT_buffered rfl rfl dX12_deletes_58 ?_
    refine mg_nmV (fun v7 e_v7 => ?_)
    have h := h v7 e_v7
    exact mg_sub [0, 1, 2] rfl (sb_deletes_61 C  x1 x3 v7 f g h)
  · have h := h.2 c_
    refine mg_aload_n C (i := 0) rfl 0 rfl dX12_deletes_35 ?_
    refine mg_iload C 3 rfl dX12_deletes_36 ?_
    refine mg_iload C 3 rfl dX12_deletes_38 ?_
    refine mg_iconst C (x := nI 1) rfl dX12_deletes_40 ?_
    refine mg_isub C dX12_deletes_41 ?_
    refine mg_callvW C (s_moves l x4 ((x4 - ((nI 1)))) v f g h) mCal_moves rfl ⟨by decide, by decide⟩ rfl (Nat.le_of_ble_eq_true rfl) dX12_deletes_42 (fun v_8 f_8 g_8 h => ?_)
    obtain ⟨x4_9, e_x4_9⟩ : ∃ z : Int32, z = x4 + nI 1 := ⟨_, rfl⟩
    have h := h x4_9 e_x4_9
    refine mg_iinc C (lv' := [(4, .int x4_9), (0, .ref (a 0)), (1, .int x1), (3, .int x3)]) 3 rfl (by rw [e_x4_9]; rfl) (Nat.le_of_ble_eq_true rfl) rfl dX12_deletes_45 ?_
    refine mg_goto C 26 (by decide) dX12_deletes_48 ?_
    exact mg_sub [1, 2, 3, 0] rfl (hR26 x1 x3 x4_9 v_8 f_8 g_8 h)
set_option maxRecDepth 20000 in
theorem sl_deletes_26 (C : mC p s m args meth c cX12_deletes 7 (some .boolean) A D cI cJ cZ) {post : Int32 → mS → Prop}   (x1 : Int32) (x3 : Int32) (x4 : Int32) (v : Nat → Int32) (f : Nat → Nat → Int32) (g : Nat → Nat → Int64) (h : r_deletes_26L (fun r v f g => post r (v, f, g))  x1 x3 x4 v f g) : mG p l e (mRm 1 23) s m args below meth c A D cI cJ cZ a 7 (MQ below (va_Qi post (mB D cI cJ cZ a) A) args s 0 0 A) 26 [(0, .ref (a 0)), (1, .int x1), (3, .int x3), (4, .int x4)] [] v f g :=
  h (fun y => mG p l e (mRm 1 23) s m args below meth c A D cI cJ cZ a 7 (MQ below (va_Qi post (mB D cI cJ cZ a) A) args s 0 0 A) 26 [(0, .ref (a 0)), (1, .int (y.1)), (3, .int (y.2.1)), (4, .int (y.2.2.1))] [] (y.2.2.2.1) (y.2.2.2.2.1) (y.2.2.2.2.2)) (fun y hy => sb_deletes_26 C  (fun b0 b1 b2 v f g z => z) (y.1) (y.2.1) (y.2.2.1) (y.2.2.2.1) (y.2.2.2.2.1) (y.2.2.2.2.2) hy)
set_option maxRecDepth 20000 in
theorem sb_deletes_16 (C : mC p s m args meth c cX12_deletes 7 (some .boolean) A D cI cJ cZ) {post : Int32 → mS → Prop}   (x1 : Int32) (x2 : Int32) (t0 : Int32) (v : Nat → Int32) (f : Nat → Nat → Int32) (g : Nat → Nat → Int64) (h : r_deletes_16 (fun r v f g => post r (v, f, g))  x1 x2 t0 v f g) : mG p l e (mRm 1 23) s m args below meth c A D cI cJ cZ a 7 (MQ below (va_Qi post (mB D cI cJ cZ a) A) args s 0 0 A) 16 [(0, .ref (a 0)), (1, .int x1), (2, .int x2)] [.int t0] v f g := by
  unfold r_deletes_16 at h
  refine mg_istore_n C (i := 3) (lv' := [(3, .int t0), (0, .ref (a 0)), (1, .int x1), (2, .int x2)]) rfl (Nat.le_of_ble_eq_true rfl) rfl dX12_deletes_16 ?_
  refine mg_iload_n C (i := 3) rfl 0 rfl dX12_deletes_17 ?_
  refine mg_if_eq C 61 (by decide) dX12_deletes_18 (fun c_ => ?_) (fun c_ => ?_)
  · have h := h.1 c_
    exact mg_sub [1, 2, 0] rfl (sb_deletes_61 C  x1 t0 v f g h)
  · have h := h.2 c_
    refine mg_iload_n C (i := 2) rfl 3 rfl dX12_deletes_21 ?_
    refine mg_iconst C (x := nI 1) rfl dX12_deletes_22 ?_
    refine mg_iadd C dX12_deletes_23 ?_
    refine mg_nmI (fun x4_6 e_x4_6 => ?_)
    have h := h x4_6 e_x4_6
    refine mg_istore C (lv' := [(4, .int x4_6), (3, .int t0), (0, .ref (a 0)), (1, .int x1), (2, .int x2)]) (Nat.le_of_ble_eq_true rfl) rfl dX12_deletes_24 ?_
    exact mg_sub [2, 3, 1, 0] rfl (sl_deletes_26 C  x1 t0 x4_6 v f g h)
end S_deletes
set_option maxHeartbeats 1000000 in
set_option maxRecDepth 20000 in
theorem s_deletes (l : Launch) (x1 : Int32) (v : Nat → Int32) (f : Nat → Nat → Int32) (g : Nat → Nat → Int64) {P : Int32 → (Nat → Int32) → (Nat → Nat → Int32) → (Nat → Nat → Int64) → Prop} (h : r_deletes P x1 v f g) : mMi l yX12_deletes cX12_deletes 7 (some .boolean) 1 23 false [.int x1] v f g (fun r w => P r w.1 w.2.1 w.2.2) := by
  intro D cI cJ cZ a sz
  refine mg_body (by decide +kernel) rfl (Nat.le_of_ble_eq_true rfl) ?_
  intro p e s m args below meth c hsz C
  clear hsz
  generalize va_A (mW cI cJ cZ a v f g) sz = A at C ⊢
  refine mg_lv (lv' := [(0, .ref (a 0)), (1, .int x1)]) rfl ?_
  unfold r_deletes at h
  refine mg_aload_n C (i := 0) rfl 0 rfl dX12_deletes_0 ?_
  refine mg_iload_n C (i := 1) rfl 1 rfl dX12_deletes_1 ?_
  refine mg_calliW C (s_inBuffer l x1 v f g h) mCal_inBuffer rfl ⟨by decide, by decide⟩ rfl (Nat.le_of_ble_eq_true rfl) dX12_deletes_2 (fun r_1 v_1 f_1 g_1 h => ?_)
  refine mg_istore_n C (i := 2) (lv' := [(2, .int r_1), (0, .ref (a 0)), (1, .int x1)]) rfl (Nat.le_of_ble_eq_true rfl) rfl dX12_deletes_5 ?_
  refine mg_iload_n C (i := 2) rfl 0 rfl dX12_deletes_6 ?_
  refine mg_iconst C (x := (-1)) rfl dX12_deletes_7 ?_
  refine mg_icmp_eq C 15 (by decide) dX12_deletes_8 (fun c_ => ?_) (fun c_ => ?_)
  · have h := h.1 c_
    refine mg_iconst C (x := nI 0) rfl dX12_deletes_15 ?_
    exact mg_sub [1, 2, 0] rfl (sb_deletes_16 C  x1 r_1 ((nI 0)) v_1 f_1 g_1 h)
  · have h := h.2 c_
    refine mg_iconst C (x := nI 1) rfl dX12_deletes_11 ?_
    refine mg_goto C 16 (by decide) dX12_deletes_12 ?_
    exact mg_sub [1, 2, 0] rfl (sb_deletes_16 C  x1 r_1 ((nI 1)) v_1 f_1 g_1 h)
def r_add_122 (Q : Int32 → (Nat → Int32) → (Nat → Nat → Int32) → (Nat → Nat → Int64) → Prop) (R122 : Int32 → (Nat → Int32) → (Nat → Nat → Int32) → (Nat → Nat → Int64) → Prop) (x2 : Int32) (v : Nat → Int32) (f : Nat → Nat → Int32) (g : Nat → Nat → Int64) : Prop :=
((((nI 2)) ≤ x2 →
  ∀ v7 : Nat → Int32, v7 = upd v 13 ((nI 0)) → ∀ v8 : Nat → Int32, v8 = upd v7 14 ((nI 0)) → ∀ v9 : Nat → Int32, v9 = upd v8 20 ((((v8 20)) + ((nI 1)))) → ∀ v10 : Nat → Int32, v10 = upd v9 10 ((bI true)) → Q ((v10 20)) v10 f g) ∧
 (¬ ((nI 2)) ≤ x2 →
  vp_in x2 2 ∧ (vp_in ((((((nI 2)) * ((v 20)))) + x2)) 24 ∧ (∀ f11 : Nat → Nat → Int32, f11 = mU f 13 ((((((nI 2)) * ((v 20)))) + x2)).toNatClampNeg ((f 8 (x2).toNatClampNeg)) → vp_in x2 2 ∧ (∀ f12 : Nat → Nat → Int32, f12 = mU f11 8 (x2).toNatClampNeg ((nI 0)) → ∀ x2_13 : Int32, x2_13 = x2 + nI 1 → R122 x2_13 v f12 g)))))
def r_add_122L (Q : Int32 → (Nat → Int32) → (Nat → Nat → Int32) → (Nat → Nat → Int64) → Prop)  (x2 : Int32) (v : Nat → Int32) (f : Nat → Nat → Int32) (g : Nat → Nat → Int64) : Prop :=
  lfp (X := Int32 × (Nat → Int32) × (Nat → Nat → Int32) × (Nat → Nat → Int64)) (fun P y => r_add_122 Q  (fun b0 v f g => P (b0, v, f, g)) y.1 y.2.1 y.2.2.1 y.2.2.2) (x2, v, f, g)
def r_add_88 (Q : Int32 → (Nat → Int32) → (Nat → Nat → Int32) → (Nat → Nat → Int64) → Prop) (R88 : Int32 → (Nat → Int32) → (Nat → Nat → Int32) → (Nat → Nat → Int64) → Prop) (x2 : Int32) (v : Nat → Int32) (f : Nat → Nat → Int32) (g : Nat → Nat → Int64) : Prop :=
((((nI 40)) ≤ x2 →
  r_add_122L Q  (((nI 0))) v f g) ∧
 (¬ ((nI 40)) ≤ x2 →
  vp_in x2 40 ∧ (vp_in ((((((nI 40)) * ((v 20)))) + x2)) 480 ∧ (∀ g14 : Nat → Nat → Int64, g14 = mU g 12 ((((((nI 40)) * ((v 20)))) + x2)).toNatClampNeg (g 7 (x2).toNatClampNeg) → ∀ x2_15 : Int32, x2_15 = x2 + nI 1 → R88 x2_15 v f g14))))
def r_add_88L (Q : Int32 → (Nat → Int32) → (Nat → Nat → Int32) → (Nat → Nat → Int64) → Prop)  (x2 : Int32) (v : Nat → Int32) (f : Nat → Nat → Int32) (g : Nat → Nat → Int64) : Prop :=
  lfp (X := Int32 × (Nat → Int32) × (Nat → Nat → Int32) × (Nat → Nat → Int64)) (fun P y => r_add_88 Q  (fun b0 v f g => P (b0, v, f, g)) y.1 y.2.1 y.2.2.1 y.2.2.2) (x2, v, f, g)
def r_add_35 (Q : Int32 → (Nat → Int32) → (Nat → Nat → Int32) → (Nat → Nat → Int64) → Prop)  (x1 : Int32) (t0 : Int32) (t1 : Int32) (v : Nat → Int32) (f : Nat → Nat → Int32) (g : Nat → Nat → Int64) : Prop :=
r_goes (fun r_2 v_2 f_2 g_2 => 
((¬ r_2 = 0 →
  r_deletes (fun r_3 v_3 f_3 g_3 => 
  vp_in ((v_3 20)) 12 ∧ (∀ f4 : Nat → Nat → Int32, f4 = mU f_3 9 ((v_3 20)).toNatClampNeg x1 → vp_in ((v_3 20)) 12 ∧ (∀ f5 : Nat → Nat → Int32, f5 = mU f4 10 ((v_3 20)).toNatClampNeg ((v_3 13)) → vp_in ((v_3 20)) 12 ∧ (∀ f6 : Nat → Nat → Int32, f6 = mU f5 11 ((v_3 20)).toNatClampNeg ((v_3 14)) → r_add_88L Q  (((nI 0))) v_3 f6 g_3)))) x1 v_2 f_2 g_2) ∧
 (r_2 = 0 →
  Q ((nI 0)) v_2 f_2 g_2))) t1 t0 ((nI 1)) v f g
def r_add_34 (Q : Int32 → (Nat → Int32) → (Nat → Nat → Int32) → (Nat → Nat → Int64) → Prop)  (x1 : Int32) (t0 : Int32) (v : Nat → Int32) (f : Nat → Nat → Int32) (g : Nat → Nat → Int64) : Prop :=
r_add_35 Q  x1 ((nI 0)) t0 v f g
def r_add (Q : Int32 → (Nat → Int32) → (Nat → Nat → Int32) → (Nat → Nat → Int64) → Prop) (x1 : Int32) (v : Nat → Int32) (f : Nat → Nat → Int32) (g : Nat → Nat → Int64) : Prop :=
r_isKey (fun r_1 v_1 f_1 g_1 => 
((¬ ((v_1 98)) = 0 →
  r_add_34 Q  x1 r_1 v_1 f_1 g_1) ∧
 (((v_1 98)) = 0 →
  ((((v_1 20)) < ((nI 12)) →
    r_add_35 Q  x1 ((nI 1)) r_1 v_1 f_1 g_1) ∧
   (¬ ((v_1 20)) < ((nI 12)) →
    r_inBuffer (fun r_16 v_16 f_16 g_16 => 
    ((r_16 = (((-1))) →
      r_add_34 Q  x1 r_1 v_16 f_16 g_16) ∧
     (¬ r_16 = (((-1))) →
      r_add_35 Q  x1 ((nI 1)) r_1 v_16 f_16 g_16))) x1 v_1 f_1 g_1))))) x1 v f g
section S_add
variable {p : Program} {l : Launch} {e : Env} {s : State} {m : MethodId} {args : Array Value} {below : List Frame} {meth : Method} {c : Code} {A : Nat → Prop} {D : va_G} {cI cJ cZ : ClassId} {a : Nat → Nat}
set_option maxRecDepth 20000 in
theorem sb_add_122 (C : mC p s m args meth c cX12_add 3 (some .int) A D cI cJ cZ) {post : Int32 → mS → Prop} {R122 : Int32 → (Nat → Int32) → (Nat → Nat → Int32) → (Nat → Nat → Int64) → Prop} (hR122 : ∀ (x2 : Int32) (v : Nat → Int32) (f : Nat → Nat → Int32) (g : Nat → Nat → Int64), R122 x2 v f g → mG p l e (mRm 2 49) s m args below meth c A D cI cJ cZ a 3 (MQ below (va_Qi post (mB D cI cJ cZ a) A) args s 0 0 A) 122 [(0, .ref (a 0)), (2, .int x2)] [] v f g) (x2 : Int32) (v : Nat → Int32) (f : Nat → Nat → Int32) (g : Nat → Nat → Int64) (h : r_add_122 (fun r v f g => post r (v, f, g)) R122 x2 v f g) : mG p l e (mRm 2 49) s m args below meth c A D cI cJ cZ a 3 (MQ below (va_Qi post (mB D cI cJ cZ a) A) args s 0 0 A) 122 [(0, .ref (a 0)), (2, .int x2)] [] v f g := by
  unfold r_add_122 at h
  refine mg_iload_n C (i := 2) rfl 1 rfl dX12_add_122 ?_
  refine mg_iconst C (x := nI 2) rfl dX12_add_123 ?_
  refine mg_icmp_ge C 159 (by decide) dX12_add_124 (fun c_ => ?_) (fun c_ => ?_)
  · have h := h.1 c_
    refine mg_aload_n C (i := 0) rfl 0 rfl dX12_add_159 ?_
    refine mg_iconst C (x := nI 0) rfl dX12_add_160 ?_
    refine mg_put C (k := 13) (by decide) rfl mL_draftCategory rfl (by decide +kernel) mT_draftCategory rfl rfl dX12_add_161 ?_
    refine mg_nmV (fun v7 e_v7 => ?_)
    have h := h v7 e_v7
    refine mg_aload_n C (i := 0) rfl 0 rfl dX12_add_164 ?_
    refine mg_iconst C (x := nI 0) rfl dX12_add_165 ?_
    refine mg_put C (k := 14) (by decide) rfl mL_draftNumber rfl (by decide +kernel) mT_draftNumber rfl rfl dX12_add_166 ?_
    refine mg_nmV (fun v8 e_v8 => ?_)
    have h := h v8 e_v8
    refine mg_aload_n C (i := 0) rfl 0 rfl dX12_add_169 ?_
    refine mg_dup C rfl dX12_add_170 ?_
    refine mg_getI C (k := 20) (by decide) rfl mL_buffered rfl dX12_add_171 ?_
    refine mg_iconst C (x := nI 1) rfl dX12_add_174 ?_
    refine mg_iadd C dX12_add_175 ?_
    refine mg_put C (k := 20) (by decide) rfl mL_buffered rfl (by decide +kernel) mT_buffered rfl rfl dX12_add_176 ?_
    refine mg_nmV (fun v9 e_v9 => ?_)
    have h := h v9 e_v9
    refine mg_aload_n C (i := 0) rfl 0 rfl dX12_add_179 ?_
    refine mg_iconst C (x := nI 1) rfl dX12_add_180 ?_
    refine mg_cast (bI true) rfl ?_
    refine mg_put C (k := 10) (by decide) rfl mL_added rfl (by decide +kernel) mT_added (bI_nar _) (bI_fit _) dX12_add_181 ?_
    refine mg_nmV (fun v10 e_v10 => ?_)
    have h := h v10 e_v10
    refine mg_aload_n C (i := 0) rfl 0 rfl dX12_add_184 ?_
    refine mg_getI C (k := 20) (by decide) rfl mL_buffered rfl dX12_add_185 ?_
    exact mg_iret C h dX12_add_188
  · have h := h.2 c_
    refine mg_aload_n C (i := 0) rfl 0 rfl dX12_add_127 ?_
    refine mg_arr C 13 (by decide) (by decide) rfl mL_bufferPlaces rfl dX12_add_128 ?_
    refine mg_iconst C (x := nI 2) rfl dX12_add_131 ?_
    refine mg_aload_n C (i := 0) rfl 0 rfl dX12_add_132 ?_
    refine mg_getI C (k := 20) (by decide) rfl mL_buffered rfl dX12_add_133 ?_
    refine mg_imul C dX12_add_136 ?_
    refine mg_iload_n C (i := 2) rfl 1 rfl dX12_add_137 ?_
    refine mg_iadd C dX12_add_138 ?_
    refine mg_aload_n C (i := 0) rfl 0 rfl dX12_add_139 ?_
    refine mg_arr C 8 (by decide) (by decide) rfl mL_draftPlaces rfl dX12_add_140 ?_
    refine mg_iload_n C (i := 2) rfl 1 rfl dX12_add_143 ?_
    obtain ⟨hc_144, h⟩ := h
    refine mg_ialoadR C (n := 2) 8 (by decide) (by decide) rfl rfl hc_144 dX12_add_144 ?_
    obtain ⟨hc_145, h⟩ := h
    refine mg_iastoreR C (n := 24) 13 (by decide) (by decide) rfl rfl hc_145 dX12_add_145 ?_
    refine mg_nmF (fun f11 e_f11 => ?_)
    have h := h f11 e_f11
    refine mg_aload_n C (i := 0) rfl 0 rfl dX12_add_146 ?_
    refine mg_arr C 8 (by decide) (by decide) rfl mL_draftPlaces rfl dX12_add_147 ?_
    refine mg_iload_n C (i := 2) rfl 1 rfl dX12_add_150 ?_
    refine mg_iconst C (x := nI 0) rfl dX12_add_151 ?_
    obtain ⟨hc_152, h⟩ := h
    refine mg_iastoreR C (n := 2) 8 (by decide) (by decide) rfl rfl hc_152 dX12_add_152 ?_
    refine mg_nmF (fun f12 e_f12 => ?_)
    have h := h f12 e_f12
    obtain ⟨x2_13, e_x2_13⟩ : ∃ z : Int32, z = x2 + nI 1 := ⟨_, rfl⟩
    have h := h x2_13 e_x2_13
    refine mg_iinc C (lv' := [(2, .int x2_13), (0, .ref (a 0))]) 1 rfl (by rw [e_x2_13]; rfl) (Nat.le_of_ble_eq_true rfl) rfl dX12_add_153 ?_
    refine mg_goto C 122 (by decide) dX12_add_156 ?_
    exact mg_sub [1, 0] rfl (hR122 x2_13 v f12 g h)
set_option maxRecDepth 20000 in
theorem sl_add_122 (C : mC p s m args meth c cX12_add 3 (some .int) A D cI cJ cZ) {post : Int32 → mS → Prop}   (x2 : Int32) (v : Nat → Int32) (f : Nat → Nat → Int32) (g : Nat → Nat → Int64) (h : r_add_122L (fun r v f g => post r (v, f, g))  x2 v f g) : mG p l e (mRm 2 49) s m args below meth c A D cI cJ cZ a 3 (MQ below (va_Qi post (mB D cI cJ cZ a) A) args s 0 0 A) 122 [(0, .ref (a 0)), (2, .int x2)] [] v f g :=
  h (fun y => mG p l e (mRm 2 49) s m args below meth c A D cI cJ cZ a 3 (MQ below (va_Qi post (mB D cI cJ cZ a) A) args s 0 0 A) 122 [(0, .ref (a 0)), (2, .int (y.1))] [] (y.2.1) (y.2.2.1) (y.2.2.2)) (fun y hy => sb_add_122 C  (fun b0 v f g z => z) (y.1) (y.2.1) (y.2.2.1) (y.2.2.2) hy)
set_option maxRecDepth 20000 in
theorem sb_add_88 (C : mC p s m args meth c cX12_add 3 (some .int) A D cI cJ cZ) {post : Int32 → mS → Prop} {R88 : Int32 → (Nat → Int32) → (Nat → Nat → Int32) → (Nat → Nat → Int64) → Prop} (hR88 : ∀ (x2 : Int32) (v : Nat → Int32) (f : Nat → Nat → Int32) (g : Nat → Nat → Int64), R88 x2 v f g → mG p l e (mRm 2 49) s m args below meth c A D cI cJ cZ a 3 (MQ below (va_Qi post (mB D cI cJ cZ a) A) args s 0 0 A) 88 [(0, .ref (a 0)), (2, .int x2)] [] v f g) (x2 : Int32) (v : Nat → Int32) (f : Nat → Nat → Int32) (g : Nat → Nat → Int64) (h : r_add_88 (fun r v f g => post r (v, f, g)) R88 x2 v f g) : mG p l e (mRm 2 49) s m args below meth c A D cI cJ cZ a 3 (MQ below (va_Qi post (mB D cI cJ cZ a) A) args s 0 0 A) 88 [(0, .ref (a 0)), (2, .int x2)] [] v f g := by
  unfold r_add_88 at h
  refine mg_iload_n C (i := 2) rfl 1 rfl dX12_add_88 ?_
  refine mg_bipush C (x := nI 40) rfl dX12_add_89 ?_
  refine mg_icmp_ge C 120 (by decide) dX12_add_91 (fun c_ => ?_) (fun c_ => ?_)
  · have h := h.1 c_
    refine mg_iconst C (x := nI 0) rfl dX12_add_120 ?_
    refine mg_istore_n C (i := 2) (lv' := [(2, .int ((nI 0))), (0, .ref (a 0))]) rfl (Nat.le_of_ble_eq_true rfl) rfl dX12_add_121 ?_
    exact mg_sub [1, 0] rfl (sl_add_122 C  (((nI 0))) v f g h)
  · have h := h.2 c_
    refine mg_aload_n C (i := 0) rfl 0 rfl dX12_add_94 ?_
    refine mg_arr C 12 (by decide) (by decide) rfl mL_bufferStems rfl dX12_add_95 ?_
    refine mg_bipush C (x := nI 40) rfl dX12_add_98 ?_
    refine mg_aload_n C (i := 0) rfl 0 rfl dX12_add_100 ?_
    refine mg_getI C (k := 20) (by decide) rfl mL_buffered rfl dX12_add_101 ?_
    refine mg_imul C dX12_add_104 ?_
    refine mg_iload_n C (i := 2) rfl 1 rfl dX12_add_105 ?_
    refine mg_iadd C dX12_add_106 ?_
    refine mg_aload_n C (i := 0) rfl 0 rfl dX12_add_107 ?_
    refine mg_arr C 7 (by decide) (by decide) rfl mL_draftStems rfl dX12_add_108 ?_
    refine mg_iload_n C (i := 2) rfl 1 rfl dX12_add_111 ?_
    obtain ⟨hc_112, h⟩ := h
    refine mg_laloadR C (n := 40) 7 (by decide) (by decide) rfl rfl hc_112 dX12_add_112 ?_
    obtain ⟨hc_113, h⟩ := h
    refine mg_lastoreR C (n := 480) 12 (by decide) (by decide) rfl rfl hc_113 dX12_add_113 ?_
    refine mg_nmG (fun g14 e_g14 => ?_)
    have h := h g14 e_g14
    obtain ⟨x2_15, e_x2_15⟩ : ∃ z : Int32, z = x2 + nI 1 := ⟨_, rfl⟩
    have h := h x2_15 e_x2_15
    refine mg_iinc C (lv' := [(2, .int x2_15), (0, .ref (a 0))]) 1 rfl (by rw [e_x2_15]; rfl) (Nat.le_of_ble_eq_true rfl) rfl dX12_add_114 ?_
    refine mg_goto C 88 (by decide) dX12_add_117 ?_
    exact mg_sub [1, 0] rfl (hR88 x2_15 v f g14 h)
set_option maxRecDepth 20000 in
theorem sl_add_88 (C : mC p s m args meth c cX12_add 3 (some .int) A D cI cJ cZ) {post : Int32 → mS → Prop}   (x2 : Int32) (v : Nat → Int32) (f : Nat → Nat → Int32) (g : Nat → Nat → Int64) (h : r_add_88L (fun r v f g => post r (v, f, g))  x2 v f g) : mG p l e (mRm 2 49) s m args below meth c A D cI cJ cZ a 3 (MQ below (va_Qi post (mB D cI cJ cZ a) A) args s 0 0 A) 88 [(0, .ref (a 0)), (2, .int x2)] [] v f g :=
  h (fun y => mG p l e (mRm 2 49) s m args below meth c A D cI cJ cZ a 3 (MQ below (va_Qi post (mB D cI cJ cZ a) A) args s 0 0 A) 88 [(0, .ref (a 0)), (2, .int (y.1))] [] (y.2.1) (y.2.2.1) (y.2.2.2)) (fun y hy => sb_add_88 C  (fun b0 v f g z => z) (y.1) (y.2.1) (y.2.2.1) (y.2.2.2) hy)
set_option maxRecDepth 20000 in
theorem sb_add_35 (C : mC p s m args meth c cX12_add 3 (some .int) A D cI cJ cZ) {post : Int32 → mS → Prop}   (x1 : Int32) (t0 : Int32) (t1 : Int32) (v : Nat → Int32) (f : Nat → Nat → Int32) (g : Nat → Nat → Int64) (h : r_add_35 (fun r v f g => post r (v, f, g))  x1 t0 t1 v f g) : mG p l e (mRm 2 49) s m args below meth c A D cI cJ cZ a 3 (MQ below (va_Qi post (mB D cI cJ cZ a) A) args s 0 0 A) 35 [(0, .ref (a 0)), (1, .int x1)] [.int t0, .int t1, .ref (a 0)] v f g := by
  unfold r_add_35 at h
  refine mg_iconst C (x := nI 1) rfl dX12_add_35 ?_
  refine mg_calliW C (s_goes l t1 t0 ((nI 1)) v f g h) mCal_goes rfl ⟨by decide, by decide⟩ rfl (Nat.le_of_ble_eq_true rfl) dX12_add_36 (fun r_2 v_2 f_2 g_2 h => ?_)
  refine mg_if_ne C 44 (by decide) dX12_add_39 (fun c_ => ?_) (fun c_ => ?_)
  · have h := h.1 c_
    refine mg_aload_n C (i := 0) rfl 0 rfl dX12_add_44 ?_
    refine mg_iload_n C (i := 1) rfl 1 rfl dX12_add_45 ?_
    refine mg_calliW C (s_deletes l x1 v_2 f_2 g_2 h) mCal_deletes rfl ⟨by decide, by decide⟩ rfl (Nat.le_of_ble_eq_true rfl) dX12_add_46 (fun r_3 v_3 f_3 g_3 h => ?_)
    refine mg_pop C rfl dX12_add_49 ?_
    refine mg_aload_n C (i := 0) rfl 0 rfl dX12_add_50 ?_
    refine mg_arr C 9 (by decide) (by decide) rfl mL_bufferKeys rfl dX12_add_51 ?_
    refine mg_aload_n C (i := 0) rfl 0 rfl dX12_add_54 ?_
    refine mg_getI C (k := 20) (by decide) rfl mL_buffered rfl dX12_add_55 ?_
    refine mg_iload_n C (i := 1) rfl 1 rfl dX12_add_58 ?_
    obtain ⟨hc_59, h⟩ := h
    refine mg_iastoreR C (n := 12) 9 (by decide) (by decide) rfl rfl hc_59 dX12_add_59 ?_
    refine mg_nmF (fun f4 e_f4 => ?_)
    have h := h f4 e_f4
    refine mg_aload_n C (i := 0) rfl 0 rfl dX12_add_60 ?_
    refine mg_arr C 10 (by decide) (by decide) rfl mL_bufferCategories rfl dX12_add_61 ?_
    refine mg_aload_n C (i := 0) rfl 0 rfl dX12_add_64 ?_
    refine mg_getI C (k := 20) (by decide) rfl mL_buffered rfl dX12_add_65 ?_
    refine mg_aload_n C (i := 0) rfl 0 rfl dX12_add_68 ?_
    refine mg_getI C (k := 13) (by decide) rfl mL_draftCategory rfl dX12_add_69 ?_
    obtain ⟨hc_72, h⟩ := h
    refine mg_iastoreR C (n := 12) 10 (by decide) (by decide) rfl rfl hc_72 dX12_add_72 ?_
    refine mg_nmF (fun f5 e_f5 => ?_)
    have h := h f5 e_f5
    refine mg_aload_n C (i := 0) rfl 0 rfl dX12_add_73 ?_
    refine mg_arr C 11 (by decide) (by decide) rfl mL_bufferNumbers rfl dX12_add_74 ?_
    refine mg_aload_n C (i := 0) rfl 0 rfl dX12_add_77 ?_
    refine mg_getI C (k := 20) (by decide) rfl mL_buffered rfl dX12_add_78 ?_
    refine mg_aload_n C (i := 0) rfl 0 rfl dX12_add_81 ?_
    refine mg_getI C (k := 14) (by decide) rfl mL_draftNumber rfl dX12_add_82 ?_
    obtain ⟨hc_85, h⟩ := h
    refine mg_iastoreR C (n := 12) 11 (by decide) (by decide) rfl rfl hc_85 dX12_add_85 ?_
    refine mg_nmF (fun f6 e_f6 => ?_)
    have h := h f6 e_f6
    refine mg_iconst C (x := nI 0) rfl dX12_add_86 ?_
    refine mg_istore_n C (i := 2) (lv' := [(2, .int ((nI 0))), (0, .ref (a 0)), (1, .int x1)]) rfl (Nat.le_of_ble_eq_true rfl) rfl dX12_add_87 ?_
    exact mg_sub [1, 0] rfl (sl_add_88 C  (((nI 0))) v_3 f6 g_3 h)
  · have h := h.2 c_
    refine mg_iconst C (x := nI 0) rfl dX12_add_42 ?_
    exact mg_iret C h dX12_add_43
set_option maxRecDepth 20000 in
theorem sb_add_34 (C : mC p s m args meth c cX12_add 3 (some .int) A D cI cJ cZ) {post : Int32 → mS → Prop}   (x1 : Int32) (t0 : Int32) (v : Nat → Int32) (f : Nat → Nat → Int32) (g : Nat → Nat → Int64) (h : r_add_34 (fun r v f g => post r (v, f, g))  x1 t0 v f g) : mG p l e (mRm 2 49) s m args below meth c A D cI cJ cZ a 3 (MQ below (va_Qi post (mB D cI cJ cZ a) A) args s 0 0 A) 34 [(0, .ref (a 0)), (1, .int x1)] [.int t0, .ref (a 0)] v f g := by
  unfold r_add_34 at h
  refine mg_iconst C (x := nI 0) rfl dX12_add_34 ?_
  exact mg_sub [0, 1] rfl (sb_add_35 C  x1 ((nI 0)) t0 v f g h)
end S_add
set_option maxHeartbeats 1000000 in
set_option maxRecDepth 20000 in
theorem s_add (l : Launch) (x1 : Int32) (v : Nat → Int32) (f : Nat → Nat → Int32) (g : Nat → Nat → Int64) {P : Int32 → (Nat → Int32) → (Nat → Nat → Int32) → (Nat → Nat → Int64) → Prop} (h : r_add P x1 v f g) : mMi l yX12_add cX12_add 3 (some .int) 2 49 false [.int x1] v f g (fun r w => P r w.1 w.2.1 w.2.2) := by
  intro D cI cJ cZ a sz
  refine mg_body (by decide +kernel) rfl (Nat.le_of_ble_eq_true rfl) ?_
  intro p e s m args below meth c hsz C
  clear hsz
  generalize va_A (mW cI cJ cZ a v f g) sz = A at C ⊢
  refine mg_lv (lv' := [(0, .ref (a 0)), (1, .int x1)]) rfl ?_
  unfold r_add at h
  refine mg_aload_n C (i := 0) rfl 0 rfl dX12_add_0 ?_
  refine mg_iload_n C (i := 1) rfl 1 rfl dX12_add_1 ?_
  refine mg_callsiW C (s_isKey l x1 v f g h) mCal_isKey rfl ⟨by decide, by decide⟩ rfl (Nat.le_of_ble_eq_true rfl) dX12_add_2 (fun r_1 v_1 f_1 g_1 h => ?_)
  refine mg_aload_n C (i := 0) rfl 0 rfl dX12_add_5 ?_
  refine mg_getI C (k := 98) (by decide) rfl mL_down rfl dX12_add_6 ?_
  refine mg_if_ne C 34 (by decide) dX12_add_9 (fun c_ => ?_) (fun c_ => ?_)
  · have h := h.1 c_
    exact mg_sub [0, 1] rfl (sb_add_34 C  x1 r_1 v_1 f_1 g_1 h)
  · have h := h.2 c_
    refine mg_aload_n C (i := 0) rfl 0 rfl dX12_add_12 ?_
    refine mg_getI C (k := 20) (by decide) rfl mL_buffered rfl dX12_add_13 ?_
    refine mg_bipush C (x := nI 12) rfl dX12_add_16 ?_
    refine mg_icmp_lt C 30 (by decide) dX12_add_18 (fun c_ => ?_) (fun c_ => ?_)
    · have h := h.1 c_
      refine mg_iconst C (x := nI 1) rfl dX12_add_30 ?_
      refine mg_goto C 35 (by decide) dX12_add_31 ?_
      exact mg_sub [0, 1] rfl (sb_add_35 C  x1 ((nI 1)) r_1 v_1 f_1 g_1 h)
    · have h := h.2 c_
      refine mg_aload_n C (i := 0) rfl 0 rfl dX12_add_21 ?_
      refine mg_iload_n C (i := 1) rfl 1 rfl dX12_add_22 ?_
      refine mg_calliW C (s_inBuffer l x1 v_1 f_1 g_1 h) mCal_inBuffer rfl ⟨by decide, by decide⟩ rfl (Nat.le_of_ble_eq_true rfl) dX12_add_23 (fun r_16 v_16 f_16 g_16 h => ?_)
      refine mg_iconst C (x := (-1)) rfl dX12_add_26 ?_
      refine mg_icmp_eq C 34 (by decide) dX12_add_27 (fun c_ => ?_) (fun c_ => ?_)
      · have h := h.1 c_
        exact mg_sub [0, 1] rfl (sb_add_34 C  x1 r_1 v_16 f_16 g_16 h)
      · have h := h.2 c_
        refine mg_iconst C (x := nI 1) rfl dX12_add_30 ?_
        refine mg_goto C 35 (by decide) dX12_add_31 ?_
        exact mg_sub [0, 1] rfl (sb_add_35 C  x1 ((nI 1)) r_1 v_16 f_16 g_16 h)
