/-! the reference's methods as predicates, and their contracts -/
def r_crashAt_21 (Q : (Nat → Int32) → (Nat → Nat → Int32) → (Nat → Nat → Int64) → Prop)  (x1 : Int32) (t0 : Int32) (t1 : Int32) (v : Nat → Int32) (f : Nat → Nat → Int32) (g : Nat → Nat → Int64) : Prop :=
r_goes (fun r_2 v_2 f_2 g_2 => 
((r_2 = 0 →
  Q v_2 f_2 g_2) ∧
 (¬ r_2 = 0 →
  ∀ v3 : Nat → Int32, v3 = upd v_2 97 x1 → Q v3 f_2 g_2))) t1 t0 ((nI 1)) v f g
def r_crashAt (Q : (Nat → Int32) → (Nat → Nat → Int32) → (Nat → Nat → Int64) → Prop) (x1 : Int32) (v : Nat → Int32) (f : Nat → Nat → Int32) (g : Nat → Nat → Int64) : Prop :=
r_in (fun r_1 v_1 f_1 g_1 => 
((¬ ((v_1 98)) = 0 →
  r_crashAt_21 Q  x1 ((nI 0)) r_1 v_1 f_1 g_1) ∧
 (((v_1 98)) = 0 →
  r_crashAt_21 Q  x1 ((nI 1)) r_1 v_1 f_1 g_1))) x1 ((nI 0)) ((nI 1000)) v f g
section S_crashAt
variable {p : Program} {l : Launch} {e : Env} {s : State} {m : MethodId} {args : Array Value} {below : List Frame} {meth : Method} {c : Code} {A : Nat → Prop} {D : va_G} {cI cJ cZ : ClassId} {a : Nat → Nat}
set_option maxRecDepth 20000 in
theorem sb_crashAt_21 (C : mC p s m args meth c cX12_crashAt 2 none A D cI cJ cZ) {post : mS → Prop}   (x1 : Int32) (t0 : Int32) (t1 : Int32) (v : Nat → Int32) (f : Nat → Nat → Int32) (g : Nat → Nat → Int64) (h : r_crashAt_21 (fun v f g => post (v, f, g))  x1 t0 t1 v f g) : mG p l e (mRm 1 23) s m args below meth c A D cI cJ cZ a 2 (MQ below (va_Qv post (mB D cI cJ cZ a) A) args s 0 0 A) 21 [(0, .ref (a 0)), (1, .int x1)] [.int t0, .int t1, .ref (a 0)] v f g := by
  unfold r_crashAt_21 at h
  refine mg_iconst C (x := nI 1) rfl dX12_crashAt_21 ?_
  refine mg_calliW C (s_goes l t1 t0 ((nI 1)) v f g h) mCal_goes rfl ⟨by decide, by decide⟩ rfl (Nat.le_of_ble_eq_true rfl) dX12_crashAt_22 (fun r_2 v_2 f_2 g_2 h => ?_)
  refine mg_if_eq C 33 (by decide) dX12_crashAt_25 (fun c_ => ?_) (fun c_ => ?_)
  · have h := h.1 c_
    exact mg_vret C h dX12_crashAt_33
  · have h := h.2 c_
    refine mg_aload_n C (i := 0) rfl 0 rfl dX12_crashAt_28 ?_
    refine mg_iload_n C (i := 1) rfl 1 rfl dX12_crashAt_29 ?_
    refine mg_put C (k := 97) (by decide) rfl mL_crash rfl (by decide +kernel) mT_crash rfl rfl dX12_crashAt_30 ?_
    refine mg_nmV (fun v3 e_v3 => ?_)
    have h := h v3 e_v3
    exact mg_vret C h dX12_crashAt_33
end S_crashAt
set_option maxHeartbeats 1000000 in
set_option maxRecDepth 20000 in
theorem s_crashAt (l : Launch) (x1 : Int32) (v : Nat → Int32) (f : Nat → Nat → Int32) (g : Nat → Nat → Int64) {P : (Nat → Int32) → (Nat → Nat → Int32) → (Nat → Nat → Int64) → Prop} (h : r_crashAt P x1 v f g) : mMv l yX12_crashAt cX12_crashAt 2 none 1 23 false [.int x1] v f g (fun w => P w.1 w.2.1 w.2.2) := by
  intro D cI cJ cZ a sz
  refine mg_body (by decide +kernel) rfl (Nat.le_of_ble_eq_true rfl) ?_
  intro p e s m args below meth c hsz C
  clear hsz
  generalize va_A (mW cI cJ cZ a v f g) sz = A at C ⊢
  refine mg_lv (lv' := [(0, .ref (a 0)), (1, .int x1)]) rfl ?_
  unfold r_crashAt at h
  refine mg_aload_n C (i := 0) rfl 0 rfl dX12_crashAt_0 ?_
  refine mg_iload_n C (i := 1) rfl 1 rfl dX12_crashAt_1 ?_
  refine mg_iconst C (x := nI 0) rfl dX12_crashAt_2 ?_
  refine mg_sipush C (x := nI 1000) rfl dX12_crashAt_3 ?_
  refine mg_callsiW C (s_in l x1 ((nI 0)) ((nI 1000)) v f g h) mCal_in rfl ⟨by decide, by decide⟩ rfl (Nat.le_of_ble_eq_true rfl) dX12_crashAt_6 (fun r_1 v_1 f_1 g_1 h => ?_)
  refine mg_aload_n C (i := 0) rfl 0 rfl dX12_crashAt_9 ?_
  refine mg_getI C (k := 98) (by decide) rfl mL_down rfl dX12_crashAt_10 ?_
  refine mg_if_ne C 20 (by decide) dX12_crashAt_13 (fun c_ => ?_) (fun c_ => ?_)
  · have h := h.1 c_
    refine mg_iconst C (x := nI 0) rfl dX12_crashAt_20 ?_
    exact mg_sub [0, 1] rfl (sb_crashAt_21 C  x1 ((nI 0)) r_1 v_1 f_1 g_1 h)
  · have h := h.2 c_
    refine mg_iconst C (x := nI 1) rfl dX12_crashAt_16 ?_
    refine mg_goto C 21 (by decide) dX12_crashAt_17 ?_
    exact mg_sub [0, 1] rfl (sb_crashAt_21 C  x1 ((nI 1)) r_1 v_1 f_1 g_1 h)
def r_open_76 (Q : Int32 → (Nat → Int32) → (Nat → Nat → Int32) → (Nat → Nat → Int64) → Prop) (R46 : Int32 → (Nat → Int32) → (Nat → Nat → Int32) → (Nat → Nat → Int64) → Prop) (R76 : Int32 → Int32 → (Nat → Int32) → (Nat → Nat → Int32) → (Nat → Nat → Int64) → Prop) (x1 : Int32) (x2 : Int32) (v : Nat → Int32) (f : Nat → Nat → Int32) (g : Nat → Nat → Int64) : Prop :=
vp_in x1 202 ∧ (vp_in x1 202 ∧ (vp_in ((f 24 (x1).toNatClampNeg)) 202 ∧ (((((((((nI 100)) * ((f 24 (x1).toNatClampNeg)))) + ((f 20 ((f 24 (x1).toNatClampNeg)).toNatClampNeg)))) ≤ x2 →
  ∀ x1_7 : Int32, x1_7 = x1 + nI 1 → R46 x1_7 v f g) ∧
 (¬ ((((((nI 100)) * ((f 24 (x1).toNatClampNeg)))) + ((f 20 ((f 24 (x1).toNatClampNeg)).toNatClampNeg)))) ≤ x2 →
  vp_in x2 20200 ∧ (vp_in x2 20200 ∧ (isZ ((f 26 (x2).toNatClampNeg)) ∧ (∀ f8 : Nat → Nat → Int32, f8 = mU f 21 (x2).toNatClampNeg ((f 26 (x2).toNatClampNeg)) → vp_in x2 20200 ∧ (vp_in x2 20200 ∧ (isZ ((f8 26 (x2).toNatClampNeg)) ∧ (∀ f9 : Nat → Nat → Int32, f9 = mU f8 22 (x2).toNatClampNeg ((f8 26 (x2).toNatClampNeg)) → ∀ x2_10 : Int32, x2_10 = x2 + nI 1 → R76 x1 x2_10 v f9 g)))))))))))
def r_open_76L (Q : Int32 → (Nat → Int32) → (Nat → Nat → Int32) → (Nat → Nat → Int64) → Prop) (R46 : Int32 → (Nat → Int32) → (Nat → Nat → Int32) → (Nat → Nat → Int64) → Prop) (x1 : Int32) (x2 : Int32) (v : Nat → Int32) (f : Nat → Nat → Int32) (g : Nat → Nat → Int64) : Prop :=
  lfp (X := Int32 × Int32 × (Nat → Int32) × (Nat → Nat → Int32) × (Nat → Nat → Int64)) (fun P y => r_open_76 Q R46 (fun b0 b1 v f g => P (b0, b1, v, f, g)) y.1 y.2.1 y.2.2.1 y.2.2.2.1 y.2.2.2.2) (x1, x2, v, f, g)
def r_open_46 (Q : Int32 → (Nat → Int32) → (Nat → Nat → Int32) → (Nat → Nat → Int64) → Prop) (R46 : Int32 → (Nat → Int32) → (Nat → Nat → Int32) → (Nat → Nat → Int64) → Prop) (x1 : Int32) (v : Nat → Int32) (f : Nat → Nat → Int32) (g : Nat → Nat → Int64) : Prop :=
((((v 34)) ≤ x1 →
  Q ((v 34)) v f g) ∧
 (¬ ((v 34)) ≤ x1 →
  vp_in x1 202 ∧ (vp_in x1 202 ∧ (∀ f5 : Nat → Nat → Int32, f5 = mU f 24 (x1).toNatClampNeg ((f 25 (x1).toNatClampNeg)) → vp_in x1 202 ∧ (∀ x2_6 : Int32, x2_6 = (((nI 100)) * ((f5 24 (x1).toNatClampNeg))) → r_open_76L Q R46 x1 x2_6 v f5 g)))))
def r_open_46L (Q : Int32 → (Nat → Int32) → (Nat → Nat → Int32) → (Nat → Nat → Int64) → Prop)  (x1 : Int32) (v : Nat → Int32) (f : Nat → Nat → Int32) (g : Nat → Nat → Int64) : Prop :=
  lfp (X := Int32 × (Nat → Int32) × (Nat → Nat → Int32) × (Nat → Nat → Int64)) (fun P y => r_open_46 Q  (fun b0 v f g => P (b0, v, f, g)) y.1 y.2.1 y.2.2.1 y.2.2.2) (x1, v, f, g)
def r_open_41 (Q : Int32 → (Nat → Int32) → (Nat → Nat → Int32) → (Nat → Nat → Int64) → Prop)  (t0 : Int32) (v : Nat → Int32) (f : Nat → Nat → Int32) (g : Nat → Nat → Int64) : Prop :=
∀ v4 : Nat → Int32, v4 = upd v 34 t0 → r_open_46L Q  (((nI 0))) v4 f g
def r_open (Q : Int32 → (Nat → Int32) → (Nat → Nat → Int32) → (Nat → Nat → Int64) → Prop)  (v : Nat → Int32) (f : Nat → Nat → Int32) (g : Nat → Nat → Int64) : Prop :=
r_goes (fun r_1 v_1 f_1 g_1 => 
((¬ r_1 = 0 →
  ∀ v2 : Nat → Int32, v2 = upd v_1 98 ((bI false)) → ∀ v3 : Nat → Int32, v3 = upd v2 97 (((-1))) → ((((v3 35)) = 0 →
    r_open_41 Q  ((nI 0)) v3 f_1 g_1) ∧
   (¬ ((v3 35)) = 0 →
    r_open_41 Q  ((v3 37)) v3 f_1 g_1))) ∧
 (r_1 = 0 →
  Q ((nI 0)) v_1 f_1 g_1))) ((v 98)) ((nI 1)) ((nI 1)) v f g
section S_open
variable {p : Program} {l : Launch} {e : Env} {s : State} {m : MethodId} {args : Array Value} {below : List Frame} {meth : Method} {c : Code} {A : Nat → Prop} {D : va_G} {cI cJ cZ : ClassId} {a : Nat → Nat}
set_option maxRecDepth 20000 in
theorem sb_open_76 (C : mC p s m args meth c cX12_open 3 (some .int) A D cI cJ cZ) {post : Int32 → mS → Prop} {R46 : Int32 → (Nat → Int32) → (Nat → Nat → Int32) → (Nat → Nat → Int64) → Prop} {R76 : Int32 → Int32 → (Nat → Int32) → (Nat → Nat → Int32) → (Nat → Nat → Int64) → Prop} (hR46 : ∀ (x1 : Int32) (v : Nat → Int32) (f : Nat → Nat → Int32) (g : Nat → Nat → Int64), R46 x1 v f g → mG p l e (mRm 1 23) s m args below meth c A D cI cJ cZ a 3 (MQ below (va_Qi post (mB D cI cJ cZ a) A) args s 0 0 A) 46 [(0, .ref (a 0)), (1, .int x1)] [] v f g) (hR76 : ∀ (x1 : Int32) (x2 : Int32) (v : Nat → Int32) (f : Nat → Nat → Int32) (g : Nat → Nat → Int64), R76 x1 x2 v f g → mG p l e (mRm 1 23) s m args below meth c A D cI cJ cZ a 3 (MQ below (va_Qi post (mB D cI cJ cZ a) A) args s 0 0 A) 76 [(0, .ref (a 0)), (1, .int x1), (2, .int x2)] [] v f g) (x1 : Int32) (x2 : Int32) (v : Nat → Int32) (f : Nat → Nat → Int32) (g : Nat → Nat → Int64) (h : r_open_76 (fun r v f g => post r (v, f, g)) R46 R76 x1 x2 v f g) : mG p l e (mRm 1 23) s m args below meth c A D cI cJ cZ a 3 (MQ below (va_Qi post (mB D cI cJ cZ a) A) args s 0 0 A) 76 [(0, .ref (a 0)), (1, .int x1), (2, .int x2)] [] v f g := by
  unfold r_open_76 at h
  refine mg_iload_n C (i := 2) rfl 2 rfl dX12_open_76 ?_
  refine mg_bipush C (x := nI 100) rfl dX12_open_77 ?_
  refine mg_aload_n C (i := 0) rfl 0 rfl dX12_open_79 ?_
  refine mg_arr C 24 (by decide) (by decide) rfl mL_index rfl dX12_open_80 ?_
  refine mg_iload_n C (i := 1) rfl 1 rfl dX12_open_83 ?_
  obtain ⟨hc_84, h⟩ := h
  refine mg_ialoadR C (n := 202) 24 (by decide) (by decide) rfl rfl hc_84 dX12_open_84 ?_
  refine mg_imul C dX12_open_85 ?_
  refine mg_aload_n C (i := 0) rfl 0 rfl dX12_open_86 ?_
  refine mg_arr C 20 (by decide) (by decide) rfl mL_sizes rfl dX12_open_87 ?_
  refine mg_aload_n C (i := 0) rfl 0 rfl dX12_open_90 ?_
  refine mg_arr C 24 (by decide) (by decide) rfl mL_index rfl dX12_open_91 ?_
  refine mg_iload_n C (i := 1) rfl 1 rfl dX12_open_94 ?_
  obtain ⟨hc_95, h⟩ := h
  refine mg_ialoadR C (n := 202) 24 (by decide) (by decide) rfl rfl hc_95 dX12_open_95 ?_
  obtain ⟨hc_96, h⟩ := h
  refine mg_ialoadR C (n := 202) 20 (by decide) (by decide) rfl rfl hc_96 dX12_open_96 ?_
  refine mg_iadd C dX12_open_97 ?_
  refine mg_icmp_ge C 131 (by decide) dX12_open_98 (fun c_ => ?_) (fun c_ => ?_)
  · have h := h.1 c_
    obtain ⟨x1_7, e_x1_7⟩ : ∃ z : Int32, z = x1 + nI 1 := ⟨_, rfl⟩
    have h := h x1_7 e_x1_7
    refine mg_iinc C (lv' := [(1, .int x1_7), (0, .ref (a 0)), (2, .int x2)]) 1 rfl (by rw [e_x1_7]; rfl) (Nat.le_of_ble_eq_true rfl) rfl dX12_open_131 ?_
    refine mg_goto C 46 (by decide) dX12_open_134 ?_
    exact mg_sub [1, 0] rfl (hR46 x1_7 v f g h)
  · have h := h.2 c_
    refine mg_aload_n C (i := 0) rfl 0 rfl dX12_open_101 ?_
    refine mg_arr C 21 (by decide) (by decide) rfl mL_live rfl dX12_open_102 ?_
    refine mg_iload_n C (i := 2) rfl 2 rfl dX12_open_105 ?_
    refine mg_aload_n C (i := 0) rfl 0 rfl dX12_open_106 ?_
    refine mg_arr C 26 (by decide) (by decide) rfl mL_committedLive rfl dX12_open_107 ?_
    refine mg_iload_n C (i := 2) rfl 2 rfl dX12_open_110 ?_
    obtain ⟨hc_111, h⟩ := h
    refine mg_baloadR C (n := 20200) 26 (by decide) (by decide) rfl rfl hc_111 dX12_open_111 ?_
    obtain ⟨hc_112, h⟩ := h
    obtain ⟨hz_112, h⟩ := h
    refine mg_bastoreR C (n := 20200) 21 (by decide) (by decide) rfl rfl hc_112 (isZ_vp hz_112) dX12_open_112 ?_
    refine mg_nmF (fun f8 e_f8 => ?_)
    have h := h f8 e_f8
    refine mg_aload_n C (i := 0) rfl 0 rfl dX12_open_113 ?_
    refine mg_arr C 22 (by decide) (by decide) rfl mL_wrote rfl dX12_open_114 ?_
    refine mg_iload_n C (i := 2) rfl 2 rfl dX12_open_117 ?_
    refine mg_aload_n C (i := 0) rfl 0 rfl dX12_open_118 ?_
    refine mg_arr C 26 (by decide) (by decide) rfl mL_committedLive rfl dX12_open_119 ?_
    refine mg_iload_n C (i := 2) rfl 2 rfl dX12_open_122 ?_
    obtain ⟨hc_123, h⟩ := h
    refine mg_baloadR C (n := 20200) 26 (by decide) (by decide) rfl rfl hc_123 dX12_open_123 ?_
    obtain ⟨hc_124, h⟩ := h
    obtain ⟨hz_124, h⟩ := h
    refine mg_bastoreR C (n := 20200) 22 (by decide) (by decide) rfl rfl hc_124 (isZ_vp hz_124) dX12_open_124 ?_
    refine mg_nmF (fun f9 e_f9 => ?_)
    have h := h f9 e_f9
    obtain ⟨x2_10, e_x2_10⟩ : ∃ z : Int32, z = x2 + nI 1 := ⟨_, rfl⟩
    have h := h x2_10 e_x2_10
    refine mg_iinc C (lv' := [(2, .int x2_10), (0, .ref (a 0)), (1, .int x1)]) 2 rfl (by rw [e_x2_10]; rfl) (Nat.le_of_ble_eq_true rfl) rfl dX12_open_125 ?_
    refine mg_goto C 76 (by decide) dX12_open_128 ?_
    exact mg_sub [1, 2, 0] rfl (hR76 x1 x2_10 v f9 g h)
set_option maxRecDepth 20000 in
theorem sl_open_76 (C : mC p s m args meth c cX12_open 3 (some .int) A D cI cJ cZ) {post : Int32 → mS → Prop} {R46 : Int32 → (Nat → Int32) → (Nat → Nat → Int32) → (Nat → Nat → Int64) → Prop} (hR46 : ∀ (x1 : Int32) (v : Nat → Int32) (f : Nat → Nat → Int32) (g : Nat → Nat → Int64), R46 x1 v f g → mG p l e (mRm 1 23) s m args below meth c A D cI cJ cZ a 3 (MQ below (va_Qi post (mB D cI cJ cZ a) A) args s 0 0 A) 46 [(0, .ref (a 0)), (1, .int x1)] [] v f g) (x1 : Int32) (x2 : Int32) (v : Nat → Int32) (f : Nat → Nat → Int32) (g : Nat → Nat → Int64) (h : r_open_76L (fun r v f g => post r (v, f, g)) R46 x1 x2 v f g) : mG p l e (mRm 1 23) s m args below meth c A D cI cJ cZ a 3 (MQ below (va_Qi post (mB D cI cJ cZ a) A) args s 0 0 A) 76 [(0, .ref (a 0)), (1, .int x1), (2, .int x2)] [] v f g :=
  h (fun y => mG p l e (mRm 1 23) s m args below meth c A D cI cJ cZ a 3 (MQ below (va_Qi post (mB D cI cJ cZ a) A) args s 0 0 A) 76 [(0, .ref (a 0)), (1, .int (y.1)), (2, .int (y.2.1))] [] (y.2.2.1) (y.2.2.2.1) (y.2.2.2.2)) (fun y hy => sb_open_76 C hR46 (fun b0 b1 v f g z => z) (y.1) (y.2.1) (y.2.2.1) (y.2.2.2.1) (y.2.2.2.2) hy)
set_option maxRecDepth 20000 in
theorem sb_open_46 (C : mC p s m args meth c cX12_open 3 (some .int) A D cI cJ cZ) {post : Int32 → mS → Prop} {R46 : Int32 → (Nat → Int32) → (Nat → Nat → Int32) → (Nat → Nat → Int64) → Prop} (hR46 : ∀ (x1 : Int32) (v : Nat → Int32) (f : Nat → Nat → Int32) (g : Nat → Nat → Int64), R46 x1 v f g → mG p l e (mRm 1 23) s m args below meth c A D cI cJ cZ a 3 (MQ below (va_Qi post (mB D cI cJ cZ a) A) args s 0 0 A) 46 [(0, .ref (a 0)), (1, .int x1)] [] v f g) (x1 : Int32) (v : Nat → Int32) (f : Nat → Nat → Int32) (g : Nat → Nat → Int64) (h : r_open_46 (fun r v f g => post r (v, f, g)) R46 x1 v f g) : mG p l e (mRm 1 23) s m args below meth c A D cI cJ cZ a 3 (MQ below (va_Qi post (mB D cI cJ cZ a) A) args s 0 0 A) 46 [(0, .ref (a 0)), (1, .int x1)] [] v f g := by
  unfold r_open_46 at h
  refine mg_iload_n C (i := 1) rfl 1 rfl dX12_open_46 ?_
  refine mg_aload_n C (i := 0) rfl 0 rfl dX12_open_47 ?_
  refine mg_getI C (k := 34) (by decide) rfl mL_indexed rfl dX12_open_48 ?_
  refine mg_icmp_ge C 137 (by decide) dX12_open_51 (fun c_ => ?_) (fun c_ => ?_)
  · have h := h.1 c_
    refine mg_aload_n C (i := 0) rfl 0 rfl dX12_open_137 ?_
    refine mg_getI C (k := 34) (by decide) rfl mL_indexed rfl dX12_open_138 ?_
    exact mg_iret C h dX12_open_141
  · have h := h.2 c_
    refine mg_aload_n C (i := 0) rfl 0 rfl dX12_open_54 ?_
    refine mg_arr C 24 (by decide) (by decide) rfl mL_index rfl dX12_open_55 ?_
    refine mg_iload_n C (i := 1) rfl 1 rfl dX12_open_58 ?_
    refine mg_aload_n C (i := 0) rfl 0 rfl dX12_open_59 ?_
    refine mg_arr C 25 (by decide) (by decide) rfl mL_committed rfl dX12_open_60 ?_
    refine mg_iload_n C (i := 1) rfl 1 rfl dX12_open_63 ?_
    obtain ⟨hc_64, h⟩ := h
    refine mg_ialoadR C (n := 202) 25 (by decide) (by decide) rfl rfl hc_64 dX12_open_64 ?_
    obtain ⟨hc_65, h⟩ := h
    refine mg_iastoreR C (n := 202) 24 (by decide) (by decide) rfl rfl hc_65 dX12_open_65 ?_
    refine mg_nmF (fun f5 e_f5 => ?_)
    have h := h f5 e_f5
    refine mg_bipush C (x := nI 100) rfl dX12_open_66 ?_
    refine mg_aload_n C (i := 0) rfl 0 rfl dX12_open_68 ?_
    refine mg_arr C 24 (by decide) (by decide) rfl mL_index rfl dX12_open_69 ?_
    refine mg_iload_n C (i := 1) rfl 1 rfl dX12_open_72 ?_
    obtain ⟨hc_73, h⟩ := h
    refine mg_ialoadR C (n := 202) 24 (by decide) (by decide) rfl rfl hc_73 dX12_open_73 ?_
    refine mg_imul C dX12_open_74 ?_
    refine mg_nmI (fun x2_6 e_x2_6 => ?_)
    have h := h x2_6 e_x2_6
    refine mg_istore_n C (i := 2) (lv' := [(2, .int x2_6), (0, .ref (a 0)), (1, .int x1)]) rfl (Nat.le_of_ble_eq_true rfl) rfl dX12_open_75 ?_
    exact mg_sub [1, 2, 0] rfl (sl_open_76 C hR46 x1 x2_6 v f5 g h)
set_option maxRecDepth 20000 in
theorem sl_open_46 (C : mC p s m args meth c cX12_open 3 (some .int) A D cI cJ cZ) {post : Int32 → mS → Prop}   (x1 : Int32) (v : Nat → Int32) (f : Nat → Nat → Int32) (g : Nat → Nat → Int64) (h : r_open_46L (fun r v f g => post r (v, f, g))  x1 v f g) : mG p l e (mRm 1 23) s m args below meth c A D cI cJ cZ a 3 (MQ below (va_Qi post (mB D cI cJ cZ a) A) args s 0 0 A) 46 [(0, .ref (a 0)), (1, .int x1)] [] v f g :=
  h (fun y => mG p l e (mRm 1 23) s m args below meth c A D cI cJ cZ a 3 (MQ below (va_Qi post (mB D cI cJ cZ a) A) args s 0 0 A) 46 [(0, .ref (a 0)), (1, .int (y.1))] [] (y.2.1) (y.2.2.1) (y.2.2.2)) (fun y hy => sb_open_46 C  (fun b0 v f g z => z) (y.1) (y.2.1) (y.2.2.1) (y.2.2.2) hy)
set_option maxRecDepth 20000 in
theorem sb_open_41 (C : mC p s m args meth c cX12_open 3 (some .int) A D cI cJ cZ) {post : Int32 → mS → Prop}   (t0 : Int32) (v : Nat → Int32) (f : Nat → Nat → Int32) (g : Nat → Nat → Int64) (h : r_open_41 (fun r v f g => post r (v, f, g))  t0 v f g) : mG p l e (mRm 1 23) s m args below meth c A D cI cJ cZ a 3 (MQ below (va_Qi post (mB D cI cJ cZ a) A) args s 0 0 A) 41 [(0, .ref (a 0))] [.int t0, .ref (a 0)] v f g := by
  unfold r_open_41 at h
  refine mg_put C (k := 34) (by decide) rfl mL_indexed rfl (by decide +kernel) mT_indexed rfl rfl dX12_open_41 ?_
  refine mg_nmV (fun v4 e_v4 => ?_)
  have h := h v4 e_v4
  refine mg_iconst C (x := nI 0) rfl dX12_open_44 ?_
  refine mg_istore_n C (i := 1) (lv' := [(1, .int ((nI 0))), (0, .ref (a 0))]) rfl (Nat.le_of_ble_eq_true rfl) rfl dX12_open_45 ?_
  exact mg_sub [1, 0] rfl (sl_open_46 C  (((nI 0))) v4 f g h)
end S_open
set_option maxHeartbeats 1000000 in
set_option maxRecDepth 20000 in
theorem s_open (l : Launch)  (v : Nat → Int32) (f : Nat → Nat → Int32) (g : Nat → Nat → Int64) {P : Int32 → (Nat → Int32) → (Nat → Nat → Int32) → (Nat → Nat → Int64) → Prop} (h : r_open P  v f g) : mMi l yX12_open cX12_open 3 (some .int) 1 23 false [] v f g (fun r w => P r w.1 w.2.1 w.2.2) := by
  intro D cI cJ cZ a sz
  refine mg_body (by decide +kernel) rfl (Nat.le_of_ble_eq_true rfl) ?_
  intro p e s m args below meth c hsz C
  clear hsz
  generalize va_A (mW cI cJ cZ a v f g) sz = A at C ⊢
  refine mg_lv (lv' := [(0, .ref (a 0))]) rfl ?_
  unfold r_open at h
  refine mg_aload_n C (i := 0) rfl 0 rfl dX12_open_0 ?_
  refine mg_aload_n C (i := 0) rfl 0 rfl dX12_open_1 ?_
  refine mg_getI C (k := 98) (by decide) rfl mL_down rfl dX12_open_2 ?_
  refine mg_iconst C (x := nI 1) rfl dX12_open_5 ?_
  refine mg_iconst C (x := nI 1) rfl dX12_open_6 ?_
  refine mg_calliW C (s_goes l ((v 98)) ((nI 1)) ((nI 1)) v f g h) mCal_goes rfl ⟨by decide, by decide⟩ rfl (Nat.le_of_ble_eq_true rfl) dX12_open_7 (fun r_1 v_1 f_1 g_1 h => ?_)
  refine mg_if_ne C 15 (by decide) dX12_open_10 (fun c_ => ?_) (fun c_ => ?_)
  · have h := h.1 c_
    refine mg_aload_n C (i := 0) rfl 0 rfl dX12_open_15 ?_
    refine mg_iconst C (x := nI 0) rfl dX12_open_16 ?_
    refine mg_cast (bI false) rfl ?_
    refine mg_put C (k := 98) (by decide) rfl mL_down rfl (by decide +kernel) mT_down (bI_nar _) (bI_fit _) dX12_open_17 ?_
    refine mg_nmV (fun v2 e_v2 => ?_)
    have h := h v2 e_v2
    refine mg_aload_n C (i := 0) rfl 0 rfl dX12_open_20 ?_
    refine mg_iconst C (x := (-1)) rfl dX12_open_21 ?_
    refine mg_put C (k := 97) (by decide) rfl mL_crash rfl (by decide +kernel) mT_crash rfl rfl dX12_open_22 ?_
    refine mg_nmV (fun v3 e_v3 => ?_)
    have h := h v3 e_v3
    refine mg_aload_n C (i := 0) rfl 0 rfl dX12_open_25 ?_
    refine mg_aload_n C (i := 0) rfl 0 rfl dX12_open_26 ?_
    refine mg_getI C (k := 35) (by decide) rfl mL_isCommitted rfl dX12_open_27 ?_
    refine mg_if_eq C 40 (by decide) dX12_open_30 (fun c_ => ?_) (fun c_ => ?_)
    · have h := h.1 c_
      refine mg_iconst C (x := nI 0) rfl dX12_open_40 ?_
      exact mg_sub [0] rfl (sb_open_41 C  ((nI 0)) v3 f_1 g_1 h)
    · have h := h.2 c_
      refine mg_aload_n C (i := 0) rfl 0 rfl dX12_open_33 ?_
      refine mg_getI C (k := 37) (by decide) rfl mL_committedMany rfl dX12_open_34 ?_
      refine mg_goto C 41 (by decide) dX12_open_37 ?_
      exact mg_sub [0] rfl (sb_open_41 C  ((v3 37)) v3 f_1 g_1 h)
  · have h := h.2 c_
    refine mg_iconst C (x := nI 0) rfl dX12_open_13 ?_
    exact mg_iret C h dX12_open_14
def r_isDown (Q : Int32 → (Nat → Int32) → (Nat → Nat → Int32) → (Nat → Nat → Int64) → Prop)  (v : Nat → Int32) (f : Nat → Nat → Int32) (g : Nat → Nat → Int64) : Prop :=
∀ v1 : Nat → Int32, v1 = upd v 99 ((nI 0)) → isZ ((v1 98)) ∧ (Q ((v1 98)) v1 f g)
set_option maxHeartbeats 1000000 in
set_option maxRecDepth 20000 in
theorem s_isDown (l : Launch)  (v : Nat → Int32) (f : Nat → Nat → Int32) (g : Nat → Nat → Int64) {P : Int32 → (Nat → Int32) → (Nat → Nat → Int32) → (Nat → Nat → Int64) → Prop} (h : r_isDown P  v f g) : mMi l yX12_isDown cX12_isDown 1 (some .boolean) 0 0 false [] v f g (fun r w => P r w.1 w.2.1 w.2.2) := by
  intro D cI cJ cZ a sz
  refine mg_body (by decide +kernel) rfl (Nat.le_of_ble_eq_true rfl) ?_
  intro p e s m args below meth c hsz C
  clear hsz
  generalize va_A (mW cI cJ cZ a v f g) sz = A at C ⊢
  refine mg_lv (lv' := [(0, .ref (a 0))]) rfl ?_
  unfold r_isDown at h
  refine mg_aload_n C (i := 0) rfl 0 rfl dX12_isDown_0 ?_
  refine mg_iconst C (x := nI 0) rfl dX12_isDown_1 ?_
  refine mg_put C (k := 99) (by decide) rfl mL_last rfl (by decide +kernel) mT_last rfl rfl dX12_isDown_2 ?_
  refine mg_nmV (fun v1 e_v1 => ?_)
  have h := h v1 e_v1
  refine mg_aload_n C (i := 0) rfl 0 rfl dX12_isDown_5 ?_
  refine mg_getI C (k := 98) (by decide) rfl mL_down rfl dX12_isDown_6 ?_
  obtain ⟨hc_9, h⟩ := h
  exact mg_zret C (isZ_nar hc_9) h dX12_isDown_9
def r_isInIndex_31 (Q : Int32 → (Nat → Int32) → (Nat → Nat → Int32) → (Nat → Nat → Int64) → Prop) (R4 : Int32 → Int32 → Int32 → (Nat → Int32) → (Nat → Nat → Int32) → (Nat → Nat → Int64) → Prop) (x1 : Int32) (x3 : Int32) (t0 : Int32) (v : Nat → Int32) (f : Nat → Nat → Int32) (g : Nat → Nat → Int64) : Prop :=
∀ x3_1 : Int32, x3_1 = x3 + nI 1 → R4 x1 t0 x3_1 v f g
def r_isInIndex_4 (Q : Int32 → (Nat → Int32) → (Nat → Nat → Int32) → (Nat → Nat → Int64) → Prop) (R4 : Int32 → Int32 → Int32 → (Nat → Int32) → (Nat → Nat → Int32) → (Nat → Nat → Int64) → Prop) (x1 : Int32) (x2 : Int32) (x3 : Int32) (v : Nat → Int32) (f : Nat → Nat → Int32) (g : Nat → Nat → Int64) : Prop :=
((((v 34)) ≤ x3 →
  isZ x2 ∧ (Q x2 v f g)) ∧
 (¬ ((v 34)) ≤ x3 →
  ((¬ x2 = 0 →
    r_isInIndex_31 Q R4 x1 x3 ((nI 1)) v f g) ∧
   (x2 = 0 →
    vp_in x3 202 ∧ (((¬ ((f 24 (x3).toNatClampNeg)) = x1 →
      r_isInIndex_31 Q R4 x1 x3 ((nI 0)) v f g) ∧
     (((f 24 (x3).toNatClampNeg)) = x1 →
      r_isInIndex_31 Q R4 x1 x3 ((nI 1)) v f g)))))))
def r_isInIndex_4L (Q : Int32 → (Nat → Int32) → (Nat → Nat → Int32) → (Nat → Nat → Int64) → Prop)  (x1 : Int32) (x2 : Int32) (x3 : Int32) (v : Nat → Int32) (f : Nat → Nat → Int32) (g : Nat → Nat → Int64) : Prop :=
  lfp (X := Int32 × Int32 × Int32 × (Nat → Int32) × (Nat → Nat → Int32) × (Nat → Nat → Int64)) (fun P y => r_isInIndex_4 Q  (fun b0 b1 b2 v f g => P (b0, b1, b2, v, f, g)) y.1 y.2.1 y.2.2.1 y.2.2.2.1 y.2.2.2.2.1 y.2.2.2.2.2) (x1, x2, x3, v, f, g)
def r_isInIndex (Q : Int32 → (Nat → Int32) → (Nat → Nat → Int32) → (Nat → Nat → Int64) → Prop) (x1 : Int32) (v : Nat → Int32) (f : Nat → Nat → Int32) (g : Nat → Nat → Int64) : Prop :=
r_isInIndex_4L Q  x1 (((nI 0))) (((nI 0))) v f g
section S_isInIndex
variable {p : Program} {l : Launch} {e : Env} {s : State} {m : MethodId} {args : Array Value} {below : List Frame} {meth : Method} {c : Code} {A : Nat → Prop} {D : va_G} {cI cJ cZ : ClassId} {a : Nat → Nat}
set_option maxRecDepth 20000 in
theorem sb_isInIndex_31 (C : mC p s m args meth c cX12_isInIndex 4 (some .boolean) A D cI cJ cZ) {post : Int32 → mS → Prop} {R4 : Int32 → Int32 → Int32 → (Nat → Int32) → (Nat → Nat → Int32) → (Nat → Nat → Int64) → Prop} (hR4 : ∀ (x1 : Int32) (x2 : Int32) (x3 : Int32) (v : Nat → Int32) (f : Nat → Nat → Int32) (g : Nat → Nat → Int64), R4 x1 x2 x3 v f g → mG p l e (mRm 0 0) s m args below meth c A D cI cJ cZ a 4 (MQ below (va_Qi post (mB D cI cJ cZ a) A) args s 0 0 A) 4 [(0, .ref (a 0)), (1, .int x1), (2, .int x2), (3, .int x3)] [] v f g) (x1 : Int32) (x3 : Int32) (t0 : Int32) (v : Nat → Int32) (f : Nat → Nat → Int32) (g : Nat → Nat → Int64) (h : r_isInIndex_31 (fun r v f g => post r (v, f, g)) R4 x1 x3 t0 v f g) : mG p l e (mRm 0 0) s m args below meth c A D cI cJ cZ a 4 (MQ below (va_Qi post (mB D cI cJ cZ a) A) args s 0 0 A) 31 [(0, .ref (a 0)), (1, .int x1), (3, .int x3)] [.int t0] v f g := by
  unfold r_isInIndex_31 at h
  refine mg_istore_n C (i := 2) (lv' := [(2, .int t0), (0, .ref (a 0)), (1, .int x1), (3, .int x3)]) rfl (Nat.le_of_ble_eq_true rfl) rfl dX12_isInIndex_31 ?_
  obtain ⟨x3_1, e_x3_1⟩ : ∃ z : Int32, z = x3 + nI 1 := ⟨_, rfl⟩
  have h := h x3_1 e_x3_1
  refine mg_iinc C (lv' := [(3, .int x3_1), (2, .int t0), (0, .ref (a 0)), (1, .int x1)]) 3 rfl (by rw [e_x3_1]; rfl) (Nat.le_of_ble_eq_true rfl) rfl dX12_isInIndex_32 ?_
  refine mg_goto C 4 (by decide) dX12_isInIndex_35 ?_
  exact mg_sub [2, 3, 1, 0] rfl (hR4 x1 t0 x3_1 v f g h)
set_option maxRecDepth 20000 in
theorem sb_isInIndex_4 (C : mC p s m args meth c cX12_isInIndex 4 (some .boolean) A D cI cJ cZ) {post : Int32 → mS → Prop} {R4 : Int32 → Int32 → Int32 → (Nat → Int32) → (Nat → Nat → Int32) → (Nat → Nat → Int64) → Prop} (hR4 : ∀ (x1 : Int32) (x2 : Int32) (x3 : Int32) (v : Nat → Int32) (f : Nat → Nat → Int32) (g : Nat → Nat → Int64), R4 x1 x2 x3 v f g → mG p l e (mRm 0 0) s m args below meth c A D cI cJ cZ a 4 (MQ below (va_Qi post (mB D cI cJ cZ a) A) args s 0 0 A) 4 [(0, .ref (a 0)), (1, .int x1), (2, .int x2), (3, .int x3)] [] v f g) (x1 : Int32) (x2 : Int32) (x3 : Int32) (v : Nat → Int32) (f : Nat → Nat → Int32) (g : Nat → Nat → Int64) (h : r_isInIndex_4 (fun r v f g => post r (v, f, g)) R4 x1 x2 x3 v f g) : mG p l e (mRm 0 0) s m args below meth c A D cI cJ cZ a 4 (MQ below (va_Qi post (mB D cI cJ cZ a) A) args s 0 0 A) 4 [(0, .ref (a 0)), (1, .int x1), (2, .int x2), (3, .int x3)] [] v f g := by
  unfold r_isInIndex_4 at h
  refine mg_iload_n C (i := 3) rfl 3 rfl dX12_isInIndex_4 ?_
  refine mg_aload_n C (i := 0) rfl 0 rfl dX12_isInIndex_5 ?_
  refine mg_getI C (k := 34) (by decide) rfl mL_indexed rfl dX12_isInIndex_6 ?_
  refine mg_icmp_ge C 38 (by decide) dX12_isInIndex_9 (fun c_ => ?_) (fun c_ => ?_)
  · have h := h.1 c_
    refine mg_iload_n C (i := 2) rfl 2 rfl dX12_isInIndex_38 ?_
    obtain ⟨hc_39, h⟩ := h
    exact mg_zret C (isZ_nar hc_39) h dX12_isInIndex_39
  · have h := h.2 c_
    refine mg_iload_n C (i := 2) rfl 2 rfl dX12_isInIndex_12 ?_
    refine mg_if_ne C 26 (by decide) dX12_isInIndex_13 (fun c_ => ?_) (fun c_ => ?_)
    · have h := h.1 c_
      refine mg_iconst C (x := nI 1) rfl dX12_isInIndex_26 ?_
      refine mg_goto C 31 (by decide) dX12_isInIndex_27 ?_
      exact mg_sub [0, 1, 3] rfl (sb_isInIndex_31 C hR4 x1 x3 ((nI 1)) v f g h)
    · have h := h.2 c_
      refine mg_aload_n C (i := 0) rfl 0 rfl dX12_isInIndex_16 ?_
      refine mg_arr C 24 (by decide) (by decide) rfl mL_index rfl dX12_isInIndex_17 ?_
      refine mg_iload_n C (i := 3) rfl 3 rfl dX12_isInIndex_20 ?_
      obtain ⟨hc_21, h⟩ := h
      refine mg_ialoadR C (n := 202) 24 (by decide) (by decide) rfl rfl hc_21 dX12_isInIndex_21 ?_
      refine mg_iload_n C (i := 1) rfl 1 rfl dX12_isInIndex_22 ?_
      refine mg_icmp_ne C 30 (by decide) dX12_isInIndex_23 (fun c_ => ?_) (fun c_ => ?_)
      · have h := h.1 c_
        refine mg_iconst C (x := nI 0) rfl dX12_isInIndex_30 ?_
        exact mg_sub [0, 1, 3] rfl (sb_isInIndex_31 C hR4 x1 x3 ((nI 0)) v f g h)
      · have h := h.2 c_
        refine mg_iconst C (x := nI 1) rfl dX12_isInIndex_26 ?_
        refine mg_goto C 31 (by decide) dX12_isInIndex_27 ?_
        exact mg_sub [0, 1, 3] rfl (sb_isInIndex_31 C hR4 x1 x3 ((nI 1)) v f g h)
set_option maxRecDepth 20000 in
theorem sl_isInIndex_4 (C : mC p s m args meth c cX12_isInIndex 4 (some .boolean) A D cI cJ cZ) {post : Int32 → mS → Prop}   (x1 : Int32) (x2 : Int32) (x3 : Int32) (v : Nat → Int32) (f : Nat → Nat → Int32) (g : Nat → Nat → Int64) (h : r_isInIndex_4L (fun r v f g => post r (v, f, g))  x1 x2 x3 v f g) : mG p l e (mRm 0 0) s m args below meth c A D cI cJ cZ a 4 (MQ below (va_Qi post (mB D cI cJ cZ a) A) args s 0 0 A) 4 [(0, .ref (a 0)), (1, .int x1), (2, .int x2), (3, .int x3)] [] v f g :=
  h (fun y => mG p l e (mRm 0 0) s m args below meth c A D cI cJ cZ a 4 (MQ below (va_Qi post (mB D cI cJ cZ a) A) args s 0 0 A) 4 [(0, .ref (a 0)), (1, .int (y.1)), (2, .int (y.2.1)), (3, .int (y.2.2.1))] [] (y.2.2.2.1) (y.2.2.2.2.1) (y.2.2.2.2.2)) (fun y hy => sb_isInIndex_4 C  (fun b0 b1 b2 v f g z => z) (y.1) (y.2.1) (y.2.2.1) (y.2.2.2.1) (y.2.2.2.2.1) (y.2.2.2.2.2) hy)
end S_isInIndex
set_option maxHeartbeats 1000000 in
set_option maxRecDepth 20000 in
theorem s_isInIndex (l : Launch) (x1 : Int32) (v : Nat → Int32) (f : Nat → Nat → Int32) (g : Nat → Nat → Int64) {P : Int32 → (Nat → Int32) → (Nat → Nat → Int32) → (Nat → Nat → Int64) → Prop} (h : r_isInIndex P x1 v f g) : mMi l yX12_isInIndex cX12_isInIndex 4 (some .boolean) 0 0 false [.int x1] v f g (fun r w => P r w.1 w.2.1 w.2.2) := by
  intro D cI cJ cZ a sz
  refine mg_body (by decide +kernel) rfl (Nat.le_of_ble_eq_true rfl) ?_
  intro p e s m args below meth c hsz C
  clear hsz
  generalize va_A (mW cI cJ cZ a v f g) sz = A at C ⊢
  refine mg_lv (lv' := [(0, .ref (a 0)), (1, .int x1)]) rfl ?_
  unfold r_isInIndex at h
  refine mg_iconst C (x := nI 0) rfl dX12_isInIndex_0 ?_
  refine mg_istore_n C (i := 2) (lv' := [(2, .int ((nI 0))), (0, .ref (a 0)), (1, .int x1)]) rfl (Nat.le_of_ble_eq_true rfl) rfl dX12_isInIndex_1 ?_
  refine mg_iconst C (x := nI 0) rfl dX12_isInIndex_2 ?_
  refine mg_istore_n C (i := 3) (lv' := [(3, .int ((nI 0))), (2, .int ((nI 0))), (0, .ref (a 0)), (1, .int x1)]) rfl (Nat.le_of_ble_eq_true rfl) rfl dX12_isInIndex_3 ?_
  exact mg_sub [2, 3, 1, 0] rfl (sl_isInIndex_4 C  x1 (((nI 0))) (((nI 0))) v f g h)
def r_isInCommit_38 (Q : Int32 → (Nat → Int32) → (Nat → Nat → Int32) → (Nat → Nat → Int64) → Prop) (R4 : Int32 → Int32 → Int32 → (Nat → Int32) → (Nat → Nat → Int32) → (Nat → Nat → Int64) → Prop) (x1 : Int32) (x3 : Int32) (t0 : Int32) (v : Nat → Int32) (f : Nat → Nat → Int32) (g : Nat → Nat → Int64) : Prop :=
∀ x3_1 : Int32, x3_1 = x3 + nI 1 → R4 x1 t0 x3_1 v f g
def r_isInCommit_4 (Q : Int32 → (Nat → Int32) → (Nat → Nat → Int32) → (Nat → Nat → Int64) → Prop) (R4 : Int32 → Int32 → Int32 → (Nat → Int32) → (Nat → Nat → Int32) → (Nat → Nat → Int64) → Prop) (x1 : Int32) (x2 : Int32) (x3 : Int32) (v : Nat → Int32) (f : Nat → Nat → Int32) (g : Nat → Nat → Int64) : Prop :=
((((v 35)) = 0 →
  isZ x2 ∧ (Q x2 v f g)) ∧
 (¬ ((v 35)) = 0 →
  ((((v 37)) ≤ x3 →
    isZ x2 ∧ (Q x2 v f g)) ∧
   (¬ ((v 37)) ≤ x3 →
    ((¬ x2 = 0 →
      r_isInCommit_38 Q R4 x1 x3 ((nI 1)) v f g) ∧
     (x2 = 0 →
      vp_in x3 202 ∧ (((¬ ((f 25 (x3).toNatClampNeg)) = x1 →
        r_isInCommit_38 Q R4 x1 x3 ((nI 0)) v f g) ∧
       (((f 25 (x3).toNatClampNeg)) = x1 →
        r_isInCommit_38 Q R4 x1 x3 ((nI 1)) v f g)))))))))
def r_isInCommit_4L (Q : Int32 → (Nat → Int32) → (Nat → Nat → Int32) → (Nat → Nat → Int64) → Prop)  (x1 : Int32) (x2 : Int32) (x3 : Int32) (v : Nat → Int32) (f : Nat → Nat → Int32) (g : Nat → Nat → Int64) : Prop :=
  lfp (X := Int32 × Int32 × Int32 × (Nat → Int32) × (Nat → Nat → Int32) × (Nat → Nat → Int64)) (fun P y => r_isInCommit_4 Q  (fun b0 b1 b2 v f g => P (b0, b1, b2, v, f, g)) y.1 y.2.1 y.2.2.1 y.2.2.2.1 y.2.2.2.2.1 y.2.2.2.2.2) (x1, x2, x3, v, f, g)
def r_isInCommit (Q : Int32 → (Nat → Int32) → (Nat → Nat → Int32) → (Nat → Nat → Int64) → Prop) (x1 : Int32) (v : Nat → Int32) (f : Nat → Nat → Int32) (g : Nat → Nat → Int64) : Prop :=
r_isInCommit_4L Q  x1 (((nI 0))) (((nI 0))) v f g
section S_isInCommit
variable {p : Program} {l : Launch} {e : Env} {s : State} {m : MethodId} {args : Array Value} {below : List Frame} {meth : Method} {c : Code} {A : Nat → Prop} {D : va_G} {cI cJ cZ : ClassId} {a : Nat → Nat}
set_option maxRecDepth 20000 in
theorem sb_isInCommit_38 (C : mC p s m args meth c cX12_isInCommit 4 (some .boolean) A D cI cJ cZ) {post : Int32 → mS → Prop} {R4 : Int32 → Int32 → Int32 → (Nat → Int32) → (Nat → Nat → Int32) → (Nat → Nat → Int64) → Prop} (hR4 : ∀ (x1 : Int32) (x2 : Int32) (x3 : Int32) (v : Nat → Int32) (f : Nat → Nat → Int32) (g : Nat → Nat → Int64), R4 x1 x2 x3 v f g → mG p l e (mRm 0 0) s m args below meth c A D cI cJ cZ a 4 (MQ below (va_Qi post (mB D cI cJ cZ a) A) args s 0 0 A) 4 [(0, .ref (a 0)), (1, .int x1), (2, .int x2), (3, .int x3)] [] v f g) (x1 : Int32) (x3 : Int32) (t0 : Int32) (v : Nat → Int32) (f : Nat → Nat → Int32) (g : Nat → Nat → Int64) (h : r_isInCommit_38 (fun r v f g => post r (v, f, g)) R4 x1 x3 t0 v f g) : mG p l e (mRm 0 0) s m args below meth c A D cI cJ cZ a 4 (MQ below (va_Qi post (mB D cI cJ cZ a) A) args s 0 0 A) 38 [(0, .ref (a 0)), (1, .int x1), (3, .int x3)] [.int t0] v f g := by
  unfold r_isInCommit_38 at h
  refine mg_istore_n C (i := 2) (lv' := [(2, .int t0), (0, .ref (a 0)), (1, .int x1), (3, .int x3)]) rfl (Nat.le_of_ble_eq_true rfl) rfl dX12_isInCommit_38 ?_
  obtain ⟨x3_1, e_x3_1⟩ : ∃ z : Int32, z = x3 + nI 1 := ⟨_, rfl⟩
  have h := h x3_1 e_x3_1
  refine mg_iinc C (lv' := [(3, .int x3_1), (2, .int t0), (0, .ref (a 0)), (1, .int x1)]) 3 rfl (by rw [e_x3_1]; rfl) (Nat.le_of_ble_eq_true rfl) rfl dX12_isInCommit_39 ?_
  refine mg_goto C 4 (by decide) dX12_isInCommit_42 ?_
  exact mg_sub [2, 3, 1, 0] rfl (hR4 x1 t0 x3_1 v f g h)
set_option maxRecDepth 20000 in
theorem sb_isInCommit_4 (C : mC p s m args meth c cX12_isInCommit 4 (some .boolean) A D cI cJ cZ) {post : Int32 → mS → Prop} {R4 : Int32 → Int32 → Int32 → (Nat → Int32) → (Nat → Nat → Int32) → (Nat → Nat → Int64) → Prop} (hR4 : ∀ (x1 : Int32) (x2 : Int32) (x3 : Int32) (v : Nat → Int32) (f : Nat → Nat → Int32) (g : Nat → Nat → Int64), R4 x1 x2 x3 v f g → mG p l e (mRm 0 0) s m args below meth c A D cI cJ cZ a 4 (MQ below (va_Qi post (mB D cI cJ cZ a) A) args s 0 0 A) 4 [(0, .ref (a 0)), (1, .int x1), (2, .int x2), (3, .int x3)] [] v f g) (x1 : Int32) (x2 : Int32) (x3 : Int32) (v : Nat → Int32) (f : Nat → Nat → Int32) (g : Nat → Nat → Int64) (h : r_isInCommit_4 (fun r v f g => post r (v, f, g)) R4 x1 x2 x3 v f g) : mG p l e (mRm 0 0) s m args below meth c A D cI cJ cZ a 4 (MQ below (va_Qi post (mB D cI cJ cZ a) A) args s 0 0 A) 4 [(0, .ref (a 0)), (1, .int x1), (2, .int x2), (3, .int x3)] [] v f g := by
  unfold r_isInCommit_4 at h
  refine mg_aload_n C (i := 0) rfl 0 rfl dX12_isInCommit_4 ?_
  refine mg_getI C (k := 35) (by decide) rfl mL_isCommitted rfl dX12_isInCommit_5 ?_
  refine mg_if_eq C 45 (by decide) dX12_isInCommit_8 (fun c_ => ?_) (fun c_ => ?_)
  · have h := h.1 c_
    refine mg_iload_n C (i := 2) rfl 2 rfl dX12_isInCommit_45 ?_
    obtain ⟨hc_46, h⟩ := h
    exact mg_zret C (isZ_nar hc_46) h dX12_isInCommit_46
  · have h := h.2 c_
    refine mg_iload_n C (i := 3) rfl 3 rfl dX12_isInCommit_11 ?_
    refine mg_aload_n C (i := 0) rfl 0 rfl dX12_isInCommit_12 ?_
    refine mg_getI C (k := 37) (by decide) rfl mL_committedMany rfl dX12_isInCommit_13 ?_
    refine mg_icmp_ge C 45 (by decide) dX12_isInCommit_16 (fun c_ => ?_) (fun c_ => ?_)
    · have h := h.1 c_
      refine mg_iload_n C (i := 2) rfl 2 rfl dX12_isInCommit_45 ?_
      obtain ⟨hc_46, h⟩ := h
      exact mg_zret C (isZ_nar hc_46) h dX12_isInCommit_46
    · have h := h.2 c_
      refine mg_iload_n C (i := 2) rfl 2 rfl dX12_isInCommit_19 ?_
      refine mg_if_ne C 33 (by decide) dX12_isInCommit_20 (fun c_ => ?_) (fun c_ => ?_)
      · have h := h.1 c_
        refine mg_iconst C (x := nI 1) rfl dX12_isInCommit_33 ?_
        refine mg_goto C 38 (by decide) dX12_isInCommit_34 ?_
        exact mg_sub [0, 1, 3] rfl (sb_isInCommit_38 C hR4 x1 x3 ((nI 1)) v f g h)
      · have h := h.2 c_
        refine mg_aload_n C (i := 0) rfl 0 rfl dX12_isInCommit_23 ?_
        refine mg_arr C 25 (by decide) (by decide) rfl mL_committed rfl dX12_isInCommit_24 ?_
        refine mg_iload_n C (i := 3) rfl 3 rfl dX12_isInCommit_27 ?_
        obtain ⟨hc_28, h⟩ := h
        refine mg_ialoadR C (n := 202) 25 (by decide) (by decide) rfl rfl hc_28 dX12_isInCommit_28 ?_
        refine mg_iload_n C (i := 1) rfl 1 rfl dX12_isInCommit_29 ?_
        refine mg_icmp_ne C 37 (by decide) dX12_isInCommit_30 (fun c_ => ?_) (fun c_ => ?_)
        · have h := h.1 c_
          refine mg_iconst C (x := nI 0) rfl dX12_isInCommit_37 ?_
          exact mg_sub [0, 1, 3] rfl (sb_isInCommit_38 C hR4 x1 x3 ((nI 0)) v f g h)
        · have h := h.2 c_
          refine mg_iconst C (x := nI 1) rfl dX12_isInCommit_33 ?_
          refine mg_goto C 38 (by decide) dX12_isInCommit_34 ?_
          exact mg_sub [0, 1, 3] rfl (sb_isInCommit_38 C hR4 x1 x3 ((nI 1)) v f g h)
set_option maxRecDepth 20000 in
theorem sl_isInCommit_4 (C : mC p s m args meth c cX12_isInCommit 4 (some .boolean) A D cI cJ cZ) {post : Int32 → mS → Prop}   (x1 : Int32) (x2 : Int32) (x3 : Int32) (v : Nat → Int32) (f : Nat → Nat → Int32) (g : Nat → Nat → Int64) (h : r_isInCommit_4L (fun r v f g => post r (v, f, g))  x1 x2 x3 v f g) : mG p l e (mRm 0 0) s m args below meth c A D cI cJ cZ a 4 (MQ below (va_Qi post (mB D cI cJ cZ a) A) args s 0 0 A) 4 [(0, .ref (a 0)), (1, .int x1), (2, .int x2), (3, .int x3)] [] v f g :=
  h (fun y => mG p l e (mRm 0 0) s m args below meth c A D cI cJ cZ a 4 (MQ below (va_Qi post (mB D cI cJ cZ a) A) args s 0 0 A) 4 [(0, .ref (a 0)), (1, .int (y.1)), (2, .int (y.2.1)), (3, .int (y.2.2.1))] [] (y.2.2.2.1) (y.2.2.2.2.1) (y.2.2.2.2.2)) (fun y hy => sb_isInCommit_4 C  (fun b0 b1 b2 v f g z => z) (y.1) (y.2.1) (y.2.2.1) (y.2.2.2.1) (y.2.2.2.2.1) (y.2.2.2.2.2) hy)
end S_isInCommit
set_option maxHeartbeats 1000000 in
set_option maxRecDepth 20000 in
theorem s_isInCommit (l : Launch) (x1 : Int32) (v : Nat → Int32) (f : Nat → Nat → Int32) (g : Nat → Nat → Int64) {P : Int32 → (Nat → Int32) → (Nat → Nat → Int32) → (Nat → Nat → Int64) → Prop} (h : r_isInCommit P x1 v f g) : mMi l yX12_isInCommit cX12_isInCommit 4 (some .boolean) 0 0 false [.int x1] v f g (fun r w => P r w.1 w.2.1 w.2.2) := by
  intro D cI cJ cZ a sz
  refine mg_body (by decide +kernel) rfl (Nat.le_of_ble_eq_true rfl) ?_
  intro p e s m args below meth c hsz C
  clear hsz
  generalize va_A (mW cI cJ cZ a v f g) sz = A at C ⊢
  refine mg_lv (lv' := [(0, .ref (a 0)), (1, .int x1)]) rfl ?_
  unfold r_isInCommit at h
  refine mg_iconst C (x := nI 0) rfl dX12_isInCommit_0 ?_
  refine mg_istore_n C (i := 2) (lv' := [(2, .int ((nI 0))), (0, .ref (a 0)), (1, .int x1)]) rfl (Nat.le_of_ble_eq_true rfl) rfl dX12_isInCommit_1 ?_
  refine mg_iconst C (x := nI 0) rfl dX12_isInCommit_2 ?_
  refine mg_istore_n C (i := 3) (lv' := [(3, .int ((nI 0))), (2, .int ((nI 0))), (0, .ref (a 0)), (1, .int x1)]) rfl (Nat.le_of_ble_eq_true rfl) rfl dX12_isInCommit_3 ?_
  exact mg_sub [2, 3, 1, 0] rfl (sl_isInCommit_4 C  x1 (((nI 0))) (((nI 0))) v f g h)
def r_isInPrepared_38 (Q : Int32 → (Nat → Int32) → (Nat → Nat → Int32) → (Nat → Nat → Int64) → Prop) (R4 : Int32 → Int32 → Int32 → (Nat → Int32) → (Nat → Nat → Int32) → (Nat → Nat → Int64) → Prop) (x1 : Int32) (x3 : Int32) (t0 : Int32) (v : Nat → Int32) (f : Nat → Nat → Int32) (g : Nat → Nat → Int64) : Prop :=
∀ x3_1 : Int32, x3_1 = x3 + nI 1 → R4 x1 t0 x3_1 v f g
def r_isInPrepared_4 (Q : Int32 → (Nat → Int32) → (Nat → Nat → Int32) → (Nat → Nat → Int64) → Prop) (R4 : Int32 → Int32 → Int32 → (Nat → Int32) → (Nat → Nat → Int32) → (Nat → Nat → Int64) → Prop) (x1 : Int32) (x2 : Int32) (x3 : Int32) (v : Nat → Int32) (f : Nat → Nat → Int32) (g : Nat → Nat → Int64) : Prop :=
((((v 40)) = 0 →
  isZ x2 ∧ (Q x2 v f g)) ∧
 (¬ ((v 40)) = 0 →
  ((((v 42)) ≤ x3 →
    isZ x2 ∧ (Q x2 v f g)) ∧
   (¬ ((v 42)) ≤ x3 →
    ((¬ x2 = 0 →
      r_isInPrepared_38 Q R4 x1 x3 ((nI 1)) v f g) ∧
     (x2 = 0 →
      vp_in x3 202 ∧ (((¬ ((f 27 (x3).toNatClampNeg)) = x1 →
        r_isInPrepared_38 Q R4 x1 x3 ((nI 0)) v f g) ∧
       (((f 27 (x3).toNatClampNeg)) = x1 →
        r_isInPrepared_38 Q R4 x1 x3 ((nI 1)) v f g)))))))))
def r_isInPrepared_4L (Q : Int32 → (Nat → Int32) → (Nat → Nat → Int32) → (Nat → Nat → Int64) → Prop)  (x1 : Int32) (x2 : Int32) (x3 : Int32) (v : Nat → Int32) (f : Nat → Nat → Int32) (g : Nat → Nat → Int64) : Prop :=
  lfp (X := Int32 × Int32 × Int32 × (Nat → Int32) × (Nat → Nat → Int32) × (Nat → Nat → Int64)) (fun P y => r_isInPrepared_4 Q  (fun b0 b1 b2 v f g => P (b0, b1, b2, v, f, g)) y.1 y.2.1 y.2.2.1 y.2.2.2.1 y.2.2.2.2.1 y.2.2.2.2.2) (x1, x2, x3, v, f, g)
def r_isInPrepared (Q : Int32 → (Nat → Int32) → (Nat → Nat → Int32) → (Nat → Nat → Int64) → Prop) (x1 : Int32) (v : Nat → Int32) (f : Nat → Nat → Int32) (g : Nat → Nat → Int64) : Prop :=
r_isInPrepared_4L Q  x1 (((nI 0))) (((nI 0))) v f g
section S_isInPrepared
variable {p : Program} {l : Launch} {e : Env} {s : State} {m : MethodId} {args : Array Value} {below : List Frame} {meth : Method} {c : Code} {A : Nat → Prop} {D : va_G} {cI cJ cZ : ClassId} {a : Nat → Nat}
set_option maxRecDepth 20000 in
theorem sb_isInPrepared_38 (C : mC p s m args meth c cX12_isInPrepared 4 (some .boolean) A D cI cJ cZ) {post : Int32 → mS → Prop} {R4 : Int32 → Int32 → Int32 → (Nat → Int32) → (Nat → Nat → Int32) → (Nat → Nat → Int64) → Prop} (hR4 : ∀ (x1 : Int32) (x2 : Int32) (x3 : Int32) (v : Nat → Int32) (f : Nat → Nat → Int32) (g : Nat → Nat → Int64), R4 x1 x2 x3 v f g → mG p l e (mRm 0 0) s m args below meth c A D cI cJ cZ a 4 (MQ below (va_Qi post (mB D cI cJ cZ a) A) args s 0 0 A) 4 [(0, .ref (a 0)), (1, .int x1), (2, .int x2), (3, .int x3)] [] v f g) (x1 : Int32) (x3 : Int32) (t0 : Int32) (v : Nat → Int32) (f : Nat → Nat → Int32) (g : Nat → Nat → Int64) (h : r_isInPrepared_38 (fun r v f g => post r (v, f, g)) R4 x1 x3 t0 v f g) : mG p l e (mRm 0 0) s m args below meth c A D cI cJ cZ a 4 (MQ below (va_Qi post (mB D cI cJ cZ a) A) args s 0 0 A) 38 [(0, .ref (a 0)), (1, .int x1), (3, .int x3)] [.int t0] v f g := by
  unfold r_isInPrepared_38 at h
  refine mg_istore_n C (i := 2) (lv' := [(2, .int t0), (0, .ref (a 0)), (1, .int x1), (3, .int x3)]) rfl (Nat.le_of_ble_eq_true rfl) rfl dX12_isInPrepared_38 ?_
  obtain ⟨x3_1, e_x3_1⟩ : ∃ z : Int32, z = x3 + nI 1 := ⟨_, rfl⟩
  have h := h x3_1 e_x3_1
  refine mg_iinc C (lv' := [(3, .int x3_1), (2, .int t0), (0, .ref (a 0)), (1, .int x1)]) 3 rfl (by rw [e_x3_1]; rfl) (Nat.le_of_ble_eq_true rfl) rfl dX12_isInPrepared_39 ?_
  refine mg_goto C 4 (by decide) dX12_isInPrepared_42 ?_
  exact mg_sub [2, 3, 1, 0] rfl (hR4 x1 t0 x3_1 v f g h)
set_option maxRecDepth 20000 in
theorem sb_isInPrepared_4 (C : mC p s m args meth c cX12_isInPrepared 4 (some .boolean) A D cI cJ cZ) {post : Int32 → mS → Prop} {R4 : Int32 → Int32 → Int32 → (Nat → Int32) → (Nat → Nat → Int32) → (Nat → Nat → Int64) → Prop} (hR4 : ∀ (x1 : Int32) (x2 : Int32) (x3 : Int32) (v : Nat → Int32) (f : Nat → Nat → Int32) (g : Nat → Nat → Int64), R4 x1 x2 x3 v f g → mG p l e (mRm 0 0) s m args below meth c A D cI cJ cZ a 4 (MQ below (va_Qi post (mB D cI cJ cZ a) A) args s 0 0 A) 4 [(0, .ref (a 0)), (1, .int x1), (2, .int x2), (3, .int x3)] [] v f g) (x1 : Int32) (x2 : Int32) (x3 : Int32) (v : Nat → Int32) (f : Nat → Nat → Int32) (g : Nat → Nat → Int64) (h : r_isInPrepared_4 (fun r v f g => post r (v, f, g)) R4 x1 x2 x3 v f g) : mG p l e (mRm 0 0) s m args below meth c A D cI cJ cZ a 4 (MQ below (va_Qi post (mB D cI cJ cZ a) A) args s 0 0 A) 4 [(0, .ref (a 0)), (1, .int x1), (2, .int x2), (3, .int x3)] [] v f g := by
  unfold r_isInPrepared_4 at h
  refine mg_aload_n C (i := 0) rfl 0 rfl dX12_isInPrepared_4 ?_
  refine mg_getI C (k := 40) (by decide) rfl mL_isPrepared rfl dX12_isInPrepared_5 ?_
  refine mg_if_eq C 45 (by decide) dX12_isInPrepared_8 (fun c_ => ?_) (fun c_ => ?_)
  · have h := h.1 c_
    refine mg_iload_n C (i := 2) rfl 2 rfl dX12_isInPrepared_45 ?_
    obtain ⟨hc_46, h⟩ := h
    exact mg_zret C (isZ_nar hc_46) h dX12_isInPrepared_46
  · have h := h.2 c_
    refine mg_iload_n C (i := 3) rfl 3 rfl dX12_isInPrepared_11 ?_
    refine mg_aload_n C (i := 0) rfl 0 rfl dX12_isInPrepared_12 ?_
    refine mg_getI C (k := 42) (by decide) rfl mL_preparedMany rfl dX12_isInPrepared_13 ?_
    refine mg_icmp_ge C 45 (by decide) dX12_isInPrepared_16 (fun c_ => ?_) (fun c_ => ?_)
    · have h := h.1 c_
      refine mg_iload_n C (i := 2) rfl 2 rfl dX12_isInPrepared_45 ?_
      obtain ⟨hc_46, h⟩ := h
      exact mg_zret C (isZ_nar hc_46) h dX12_isInPrepared_46
    · have h := h.2 c_
      refine mg_iload_n C (i := 2) rfl 2 rfl dX12_isInPrepared_19 ?_
      refine mg_if_ne C 33 (by decide) dX12_isInPrepared_20 (fun c_ => ?_) (fun c_ => ?_)
      · have h := h.1 c_
        refine mg_iconst C (x := nI 1) rfl dX12_isInPrepared_33 ?_
        refine mg_goto C 38 (by decide) dX12_isInPrepared_34 ?_
        exact mg_sub [0, 1, 3] rfl (sb_isInPrepared_38 C hR4 x1 x3 ((nI 1)) v f g h)
      · have h := h.2 c_
        refine mg_aload_n C (i := 0) rfl 0 rfl dX12_isInPrepared_23 ?_
        refine mg_arr C 27 (by decide) (by decide) rfl mL_prepared rfl dX12_isInPrepared_24 ?_
        refine mg_iload_n C (i := 3) rfl 3 rfl dX12_isInPrepared_27 ?_
        obtain ⟨hc_28, h⟩ := h
        refine mg_ialoadR C (n := 202) 27 (by decide) (by decide) rfl rfl hc_28 dX12_isInPrepared_28 ?_
        refine mg_iload_n C (i := 1) rfl 1 rfl dX12_isInPrepared_29 ?_
        refine mg_icmp_ne C 37 (by decide) dX12_isInPrepared_30 (fun c_ => ?_) (fun c_ => ?_)
        · have h := h.1 c_
          refine mg_iconst C (x := nI 0) rfl dX12_isInPrepared_37 ?_
          exact mg_sub [0, 1, 3] rfl (sb_isInPrepared_38 C hR4 x1 x3 ((nI 0)) v f g h)
        · have h := h.2 c_
          refine mg_iconst C (x := nI 1) rfl dX12_isInPrepared_33 ?_
          refine mg_goto C 38 (by decide) dX12_isInPrepared_34 ?_
          exact mg_sub [0, 1, 3] rfl (sb_isInPrepared_38 C hR4 x1 x3 ((nI 1)) v f g h)
set_option maxRecDepth 20000 in
theorem sl_isInPrepared_4 (C : mC p s m args meth c cX12_isInPrepared 4 (some .boolean) A D cI cJ cZ) {post : Int32 → mS → Prop}   (x1 : Int32) (x2 : Int32) (x3 : Int32) (v : Nat → Int32) (f : Nat → Nat → Int32) (g : Nat → Nat → Int64) (h : r_isInPrepared_4L (fun r v f g => post r (v, f, g))  x1 x2 x3 v f g) : mG p l e (mRm 0 0) s m args below meth c A D cI cJ cZ a 4 (MQ below (va_Qi post (mB D cI cJ cZ a) A) args s 0 0 A) 4 [(0, .ref (a 0)), (1, .int x1), (2, .int x2), (3, .int x3)] [] v f g :=
  h (fun y => mG p l e (mRm 0 0) s m args below meth c A D cI cJ cZ a 4 (MQ below (va_Qi post (mB D cI cJ cZ a) A) args s 0 0 A) 4 [(0, .ref (a 0)), (1, .int (y.1)), (2, .int (y.2.1)), (3, .int (y.2.2.1))] [] (y.2.2.2.1) (y.2.2.2.2.1) (y.2.2.2.2.2)) (fun y hy => sb_isInPrepared_4 C  (fun b0 b1 b2 v f g z => z) (y.1) (y.2.1) (y.2.2.1) (y.2.2.2.1) (y.2.2.2.2.1) (y.2.2.2.2.2) hy)
end S_isInPrepared
set_option maxHeartbeats 1000000 in
set_option maxRecDepth 20000 in
theorem s_isInPrepared (l : Launch) (x1 : Int32) (v : Nat → Int32) (f : Nat → Nat → Int32) (g : Nat → Nat → Int64) {P : Int32 → (Nat → Int32) → (Nat → Nat → Int32) → (Nat → Nat → Int64) → Prop} (h : r_isInPrepared P x1 v f g) : mMi l yX12_isInPrepared cX12_isInPrepared 4 (some .boolean) 0 0 false [.int x1] v f g (fun r w => P r w.1 w.2.1 w.2.2) := by
  intro D cI cJ cZ a sz
  refine mg_body (by decide +kernel) rfl (Nat.le_of_ble_eq_true rfl) ?_
  intro p e s m args below meth c hsz C
  clear hsz
  generalize va_A (mW cI cJ cZ a v f g) sz = A at C ⊢
  refine mg_lv (lv' := [(0, .ref (a 0)), (1, .int x1)]) rfl ?_
  unfold r_isInPrepared at h
  refine mg_iconst C (x := nI 0) rfl dX12_isInPrepared_0 ?_
  refine mg_istore_n C (i := 2) (lv' := [(2, .int ((nI 0))), (0, .ref (a 0)), (1, .int x1)]) rfl (Nat.le_of_ble_eq_true rfl) rfl dX12_isInPrepared_1 ?_
  refine mg_iconst C (x := nI 0) rfl dX12_isInPrepared_2 ?_
  refine mg_istore_n C (i := 3) (lv' := [(3, .int ((nI 0))), (2, .int ((nI 0))), (0, .ref (a 0)), (1, .int x1)]) rfl (Nat.le_of_ble_eq_true rfl) rfl dX12_isInPrepared_3 ?_
  exact mg_sub [2, 3, 1, 0] rfl (sl_isInPrepared_4 C  x1 (((nI 0))) (((nI 0))) v f g h)
def r_isInLooks_66 (Q : Int32 → (Nat → Int32) → (Nat → Nat → Int32) → (Nat → Nat → Int64) → Prop) (R4 : Int32 → Int32 → Int32 → (Nat → Int32) → (Nat → Nat → Int32) → (Nat → Nat → Int64) → Prop) (x1 : Int32) (x2 : Int32) (x3 : Int32) (v : Nat → Int32) (f : Nat → Nat → Int32) (g : Nat → Nat → Int64) : Prop :=
∀ x3_1 : Int32, x3_1 = x3 + nI 1 → R4 x1 x2 x3_1 v f g
def r_isInLooks_59 (Q : Int32 → (Nat → Int32) → (Nat → Nat → Int32) → (Nat → Nat → Int64) → Prop) (R4 : Int32 → Int32 → Int32 → (Nat → Int32) → (Nat → Nat → Int32) → (Nat → Nat → Int64) → Prop) (R12 : Int32 → Int32 → Int32 → Int32 → (Nat → Int32) → (Nat → Nat → Int32) → (Nat → Nat → Int64) → Prop) (x1 : Int32) (x3 : Int32) (x4 : Int32) (t0 : Int32) (v : Nat → Int32) (f : Nat → Nat → Int32) (g : Nat → Nat → Int64) : Prop :=
∀ x4_2 : Int32, x4_2 = x4 + nI 1 → R12 x1 t0 x3 x4_2 v f g
def r_isInLooks_12 (Q : Int32 → (Nat → Int32) → (Nat → Nat → Int32) → (Nat → Nat → Int64) → Prop) (R4 : Int32 → Int32 → Int32 → (Nat → Int32) → (Nat → Nat → Int32) → (Nat → Nat → Int64) → Prop) (R12 : Int32 → Int32 → Int32 → Int32 → (Nat → Int32) → (Nat → Nat → Int32) → (Nat → Nat → Int64) → Prop) (x1 : Int32) (x2 : Int32) (x3 : Int32) (x4 : Int32) (v : Nat → Int32) (f : Nat → Nat → Int32) (g : Nat → Nat → Int64) : Prop :=
vp_in x3 5 ∧ (((((f 29 (x3).toNatClampNeg)) = (((-1))) →
  r_isInLooks_66 Q R4 x1 x2 x3 v f g) ∧
 (¬ ((f 29 (x3).toNatClampNeg)) = (((-1))) →
  vp_in x3 5 ∧ (((((f 31 (x3).toNatClampNeg)) ≤ x4 →
    r_isInLooks_66 Q R4 x1 x2 x3 v f g) ∧
   (¬ ((f 31 (x3).toNatClampNeg)) ≤ x4 →
    ((¬ x2 = 0 →
      r_isInLooks_59 Q R4 R12 x1 x3 x4 ((nI 1)) v f g) ∧
     (x2 = 0 →
      vp_in ((((((nI 202)) * x3)) + x4)) 1010 ∧ (((¬ ((f 30 ((((((nI 202)) * x3)) + x4)).toNatClampNeg)) = x1 →
        r_isInLooks_59 Q R4 R12 x1 x3 x4 ((nI 0)) v f g) ∧
       (((f 30 ((((((nI 202)) * x3)) + x4)).toNatClampNeg)) = x1 →
        r_isInLooks_59 Q R4 R12 x1 x3 x4 ((nI 1)) v f g)))))))))))
def r_isInLooks_12L (Q : Int32 → (Nat → Int32) → (Nat → Nat → Int32) → (Nat → Nat → Int64) → Prop) (R4 : Int32 → Int32 → Int32 → (Nat → Int32) → (Nat → Nat → Int32) → (Nat → Nat → Int64) → Prop) (x1 : Int32) (x2 : Int32) (x3 : Int32) (x4 : Int32) (v : Nat → Int32) (f : Nat → Nat → Int32) (g : Nat → Nat → Int64) : Prop :=
  lfp (X := Int32 × Int32 × Int32 × Int32 × (Nat → Int32) × (Nat → Nat → Int32) × (Nat → Nat → Int64)) (fun P y => r_isInLooks_12 Q R4 (fun b0 b1 b2 b3 v f g => P (b0, b1, b2, b3, v, f, g)) y.1 y.2.1 y.2.2.1 y.2.2.2.1 y.2.2.2.2.1 y.2.2.2.2.2.1 y.2.2.2.2.2.2) (x1, x2, x3, x4, v, f, g)
def r_isInLooks_4 (Q : Int32 → (Nat → Int32) → (Nat → Nat → Int32) → (Nat → Nat → Int64) → Prop) (R4 : Int32 → Int32 → Int32 → (Nat → Int32) → (Nat → Nat → Int32) → (Nat → Nat → Int64) → Prop) (x1 : Int32) (x2 : Int32) (x3 : Int32) (v : Nat → Int32) (f : Nat → Nat → Int32) (g : Nat → Nat → Int64) : Prop :=
((((nI 5)) ≤ x3 →
  isZ x2 ∧ (Q x2 v f g)) ∧
 (¬ ((nI 5)) ≤ x3 →
  r_isInLooks_12L Q R4 x1 x2 x3 (((nI 0))) v f g))
def r_isInLooks_4L (Q : Int32 → (Nat → Int32) → (Nat → Nat → Int32) → (Nat → Nat → Int64) → Prop)  (x1 : Int32) (x2 : Int32) (x3 : Int32) (v : Nat → Int32) (f : Nat → Nat → Int32) (g : Nat → Nat → Int64) : Prop :=
  lfp (X := Int32 × Int32 × Int32 × (Nat → Int32) × (Nat → Nat → Int32) × (Nat → Nat → Int64)) (fun P y => r_isInLooks_4 Q  (fun b0 b1 b2 v f g => P (b0, b1, b2, v, f, g)) y.1 y.2.1 y.2.2.1 y.2.2.2.1 y.2.2.2.2.1 y.2.2.2.2.2) (x1, x2, x3, v, f, g)
def r_isInLooks (Q : Int32 → (Nat → Int32) → (Nat → Nat → Int32) → (Nat → Nat → Int64) → Prop) (x1 : Int32) (v : Nat → Int32) (f : Nat → Nat → Int32) (g : Nat → Nat → Int64) : Prop :=
r_isInLooks_4L Q  x1 (((nI 0))) (((nI 0))) v f g
section S_isInLooks
variable {p : Program} {l : Launch} {e : Env} {s : State} {m : MethodId} {args : Array Value} {below : List Frame} {meth : Method} {c : Code} {A : Nat → Prop} {D : va_G} {cI cJ cZ : ClassId} {a : Nat → Nat}
set_option maxRecDepth 20000 in
theorem sb_isInLooks_66 (C : mC p s m args meth c cX12_isInLooks 5 (some .boolean) A D cI cJ cZ) {post : Int32 → mS → Prop} {R4 : Int32 → Int32 → Int32 → (Nat → Int32) → (Nat → Nat → Int32) → (Nat → Nat → Int64) → Prop} (hR4 : ∀ (x1 : Int32) (x2 : Int32) (x3 : Int32) (v : Nat → Int32) (f : Nat → Nat → Int32) (g : Nat → Nat → Int64), R4 x1 x2 x3 v f g → mG p l e (mRm 0 0) s m args below meth c A D cI cJ cZ a 5 (MQ below (va_Qi post (mB D cI cJ cZ a) A) args s 0 0 A) 4 [(0, .ref (a 0)), (1, .int x1), (2, .int x2), (3, .int x3)] [] v f g) (x1 : Int32) (x2 : Int32) (x3 : Int32) (v : Nat → Int32) (f : Nat → Nat → Int32) (g : Nat → Nat → Int64) (h : r_isInLooks_66 (fun r v f g => post r (v, f, g)) R4 x1 x2 x3 v f g) : mG p l e (mRm 0 0) s m args below meth c A D cI cJ cZ a 5 (MQ below (va_Qi post (mB D cI cJ cZ a) A) args s 0 0 A) 66 [(0, .ref (a 0)), (1, .int x1), (2, .int x2), (3, .int x3)] [] v f g := by
  unfold r_isInLooks_66 at h
  obtain ⟨x3_1, e_x3_1⟩ : ∃ z : Int32, z = x3 + nI 1 := ⟨_, rfl⟩
  have h := h x3_1 e_x3_1
  refine mg_iinc C (lv' := [(3, .int x3_1), (0, .ref (a 0)), (1, .int x1), (2, .int x2)]) 3 rfl (by rw [e_x3_1]; rfl) (Nat.le_of_ble_eq_true rfl) rfl dX12_isInLooks_66 ?_
  refine mg_goto C 4 (by decide) dX12_isInLooks_69 ?_
  exact mg_sub [1, 2, 3, 0] rfl (hR4 x1 x2 x3_1 v f g h)
set_option maxRecDepth 20000 in
theorem sb_isInLooks_59 (C : mC p s m args meth c cX12_isInLooks 5 (some .boolean) A D cI cJ cZ) {post : Int32 → mS → Prop} {R4 : Int32 → Int32 → Int32 → (Nat → Int32) → (Nat → Nat → Int32) → (Nat → Nat → Int64) → Prop} {R12 : Int32 → Int32 → Int32 → Int32 → (Nat → Int32) → (Nat → Nat → Int32) → (Nat → Nat → Int64) → Prop} (hR4 : ∀ (x1 : Int32) (x2 : Int32) (x3 : Int32) (v : Nat → Int32) (f : Nat → Nat → Int32) (g : Nat → Nat → Int64), R4 x1 x2 x3 v f g → mG p l e (mRm 0 0) s m args below meth c A D cI cJ cZ a 5 (MQ below (va_Qi post (mB D cI cJ cZ a) A) args s 0 0 A) 4 [(0, .ref (a 0)), (1, .int x1), (2, .int x2), (3, .int x3)] [] v f g) (hR12 : ∀ (x1 : Int32) (x2 : Int32) (x3 : Int32) (x4 : Int32) (v : Nat → Int32) (f : Nat → Nat → Int32) (g : Nat → Nat → Int64), R12 x1 x2 x3 x4 v f g → mG p l e (mRm 0 0) s m args below meth c A D cI cJ cZ a 5 (MQ below (va_Qi post (mB D cI cJ cZ a) A) args s 0 0 A) 12 [(0, .ref (a 0)), (1, .int x1), (2, .int x2), (3, .int x3), (4, .int x4)] [] v f g) (x1 : Int32) (x3 : Int32) (x4 : Int32) (t0 : Int32) (v : Nat → Int32) (f : Nat → Nat → Int32) (g : Nat → Nat → Int64) (h : r_isInLooks_59 (fun r v f g => post r (v, f, g)) R4 R12 x1 x3 x4 t0 v f g) : mG p l e (mRm 0 0) s m args below meth c A D cI cJ cZ a 5 (MQ below (va_Qi post (mB D cI cJ cZ a) A) args s 0 0 A) 59 [(0, .ref (a 0)), (1, .int x1), (3, .int x3), (4, .int x4)] [.int t0] v f g := by
  unfold r_isInLooks_59 at h
  refine mg_istore_n C (i := 2) (lv' := [(2, .int t0), (0, .ref (a 0)), (1, .int x1), (3, .int x3), (4, .int x4)]) rfl (Nat.le_of_ble_eq_true rfl) rfl dX12_isInLooks_59 ?_
  obtain ⟨x4_2, e_x4_2⟩ : ∃ z : Int32, z = x4 + nI 1 := ⟨_, rfl⟩
  have h := h x4_2 e_x4_2
  refine mg_iinc C (lv' := [(4, .int x4_2), (2, .int t0), (0, .ref (a 0)), (1, .int x1), (3, .int x3)]) 4 rfl (by rw [e_x4_2]; rfl) (Nat.le_of_ble_eq_true rfl) rfl dX12_isInLooks_60 ?_
  refine mg_goto C 12 (by decide) dX12_isInLooks_63 ?_
  exact mg_sub [2, 3, 1, 4, 0] rfl (hR12 x1 t0 x3 x4_2 v f g h)
set_option maxRecDepth 20000 in
theorem sb_isInLooks_12 (C : mC p s m args meth c cX12_isInLooks 5 (some .boolean) A D cI cJ cZ) {post : Int32 → mS → Prop} {R4 : Int32 → Int32 → Int32 → (Nat → Int32) → (Nat → Nat → Int32) → (Nat → Nat → Int64) → Prop} {R12 : Int32 → Int32 → Int32 → Int32 → (Nat → Int32) → (Nat → Nat → Int32) → (Nat → Nat → Int64) → Prop} (hR4 : ∀ (x1 : Int32) (x2 : Int32) (x3 : Int32) (v : Nat → Int32) (f : Nat → Nat → Int32) (g : Nat → Nat → Int64), R4 x1 x2 x3 v f g → mG p l e (mRm 0 0) s m args below meth c A D cI cJ cZ a 5 (MQ below (va_Qi post (mB D cI cJ cZ a) A) args s 0 0 A) 4 [(0, .ref (a 0)), (1, .int x1), (2, .int x2), (3, .int x3)] [] v f g) (hR12 : ∀ (x1 : Int32) (x2 : Int32) (x3 : Int32) (x4 : Int32) (v : Nat → Int32) (f : Nat → Nat → Int32) (g : Nat → Nat → Int64), R12 x1 x2 x3 x4 v f g → mG p l e (mRm 0 0) s m args below meth c A D cI cJ cZ a 5 (MQ below (va_Qi post (mB D cI cJ cZ a) A) args s 0 0 A) 12 [(0, .ref (a 0)), (1, .int x1), (2, .int x2), (3, .int x3), (4, .int x4)] [] v f g) (x1 : Int32) (x2 : Int32) (x3 : Int32) (x4 : Int32) (v : Nat → Int32) (f : Nat → Nat → Int32) (g : Nat → Nat → Int64) (h : r_isInLooks_12 (fun r v f g => post r (v, f, g)) R4 R12 x1 x2 x3 x4 v f g) : mG p l e (mRm 0 0) s m args below meth c A D cI cJ cZ a 5 (MQ below (va_Qi post (mB D cI cJ cZ a) A) args s 0 0 A) 12 [(0, .ref (a 0)), (1, .int x1), (2, .int x2), (3, .int x3), (4, .int x4)] [] v f g := by
  unfold r_isInLooks_12 at h
  refine mg_aload_n C (i := 0) rfl 0 rfl dX12_isInLooks_12 ?_
  refine mg_arr C 29 (by decide) (by decide) rfl mL_lookNumbers rfl dX12_isInLooks_13 ?_
  refine mg_iload_n C (i := 3) rfl 3 rfl dX12_isInLooks_16 ?_
  obtain ⟨hc_17, h⟩ := h
  refine mg_ialoadR C (n := 5) 29 (by decide) (by decide) rfl rfl hc_17 dX12_isInLooks_17 ?_
  refine mg_iconst C (x := (-1)) rfl dX12_isInLooks_18 ?_
  refine mg_icmp_eq C 66 (by decide) dX12_isInLooks_19 (fun c_ => ?_) (fun c_ => ?_)
  · have h := h.1 c_
    exact mg_sub [0, 1, 2, 3] rfl (sb_isInLooks_66 C hR4 x1 x2 x3 v f g h)
  · have h := h.2 c_
    refine mg_iload C 4 rfl dX12_isInLooks_22 ?_
    refine mg_aload_n C (i := 0) rfl 0 rfl dX12_isInLooks_24 ?_
    refine mg_arr C 31 (by decide) (by decide) rfl mL_lookedMany rfl dX12_isInLooks_25 ?_
    refine mg_iload_n C (i := 3) rfl 3 rfl dX12_isInLooks_28 ?_
    obtain ⟨hc_29, h⟩ := h
    refine mg_ialoadR C (n := 5) 31 (by decide) (by decide) rfl rfl hc_29 dX12_isInLooks_29 ?_
    refine mg_icmp_ge C 66 (by decide) dX12_isInLooks_30 (fun c_ => ?_) (fun c_ => ?_)
    · have h := h.1 c_
      exact mg_sub [0, 1, 2, 3] rfl (sb_isInLooks_66 C hR4 x1 x2 x3 v f g h)
    · have h := h.2 c_
      refine mg_iload_n C (i := 2) rfl 2 rfl dX12_isInLooks_33 ?_
      refine mg_if_ne C 54 (by decide) dX12_isInLooks_34 (fun c_ => ?_) (fun c_ => ?_)
      · have h := h.1 c_
        refine mg_iconst C (x := nI 1) rfl dX12_isInLooks_54 ?_
        refine mg_goto C 59 (by decide) dX12_isInLooks_55 ?_
        exact mg_sub [0, 1, 3, 4] rfl (sb_isInLooks_59 C hR4 hR12 x1 x3 x4 ((nI 1)) v f g h)
      · have h := h.2 c_
        refine mg_aload_n C (i := 0) rfl 0 rfl dX12_isInLooks_37 ?_
        refine mg_arr C 30 (by decide) (by decide) rfl mL_looked rfl dX12_isInLooks_38 ?_
        refine mg_sipush C (x := nI 202) rfl dX12_isInLooks_41 ?_
        refine mg_iload_n C (i := 3) rfl 3 rfl dX12_isInLooks_44 ?_
        refine mg_imul C dX12_isInLooks_45 ?_
        refine mg_iload C 4 rfl dX12_isInLooks_46 ?_
        refine mg_iadd C dX12_isInLooks_48 ?_
        obtain ⟨hc_49, h⟩ := h
        refine mg_ialoadR C (n := 1010) 30 (by decide) (by decide) rfl rfl hc_49 dX12_isInLooks_49 ?_
        refine mg_iload_n C (i := 1) rfl 1 rfl dX12_isInLooks_50 ?_
        refine mg_icmp_ne C 58 (by decide) dX12_isInLooks_51 (fun c_ => ?_) (fun c_ => ?_)
        · have h := h.1 c_
          refine mg_iconst C (x := nI 0) rfl dX12_isInLooks_58 ?_
          exact mg_sub [0, 1, 3, 4] rfl (sb_isInLooks_59 C hR4 hR12 x1 x3 x4 ((nI 0)) v f g h)
        · have h := h.2 c_
          refine mg_iconst C (x := nI 1) rfl dX12_isInLooks_54 ?_
          refine mg_goto C 59 (by decide) dX12_isInLooks_55 ?_
          exact mg_sub [0, 1, 3, 4] rfl (sb_isInLooks_59 C hR4 hR12 x1 x3 x4 ((nI 1)) v f g h)
set_option maxRecDepth 20000 in
theorem sl_isInLooks_12 (C : mC p s m args meth c cX12_isInLooks 5 (some .boolean) A D cI cJ cZ) {post : Int32 → mS → Prop} {R4 : Int32 → Int32 → Int32 → (Nat → Int32) → (Nat → Nat → Int32) → (Nat → Nat → Int64) → Prop} (hR4 : ∀ (x1 : Int32) (x2 : Int32) (x3 : Int32) (v : Nat → Int32) (f : Nat → Nat → Int32) (g : Nat → Nat → Int64), R4 x1 x2 x3 v f g → mG p l e (mRm 0 0) s m args below meth c A D cI cJ cZ a 5 (MQ below (va_Qi post (mB D cI cJ cZ a) A) args s 0 0 A) 4 [(0, .ref (a 0)), (1, .int x1), (2, .int x2), (3, .int x3)] [] v f g) (x1 : Int32) (x2 : Int32) (x3 : Int32) (x4 : Int32) (v : Nat → Int32) (f : Nat → Nat → Int32) (g : Nat → Nat → Int64) (h : r_isInLooks_12L (fun r v f g => post r (v, f, g)) R4 x1 x2 x3 x4 v f g) : mG p l e (mRm 0 0) s m args below meth c A D cI cJ cZ a 5 (MQ below (va_Qi post (mB D cI cJ cZ a) A) args s 0 0 A) 12 [(0, .ref (a 0)), (1, .int x1), (2, .int x2), (3, .int x3), (4, .int x4)] [] v f g :=
  h (fun y => mG p l e (mRm 0 0) s m args below meth c A D cI cJ cZ a 5 (MQ below (va_Qi post (mB D cI cJ cZ a) A) args s 0 0 A) 12 [(0, .ref (a 0)), (1, .int (y.1)), (2, .int (y.2.1)), (3, .int (y.2.2.1)), (4, .int (y.2.2.2.1))] [] (y.2.2.2.2.1) (y.2.2.2.2.2.1) (y.2.2.2.2.2.2)) (fun y hy => sb_isInLooks_12 C hR4 (fun b0 b1 b2 b3 v f g z => z) (y.1) (y.2.1) (y.2.2.1) (y.2.2.2.1) (y.2.2.2.2.1) (y.2.2.2.2.2.1) (y.2.2.2.2.2.2) hy)
set_option maxRecDepth 20000 in
theorem sb_isInLooks_4 (C : mC p s m args meth c cX12_isInLooks 5 (some .boolean) A D cI cJ cZ) {post : Int32 → mS → Prop} {R4 : Int32 → Int32 → Int32 → (Nat → Int32) → (Nat → Nat → Int32) → (Nat → Nat → Int64) → Prop} (hR4 : ∀ (x1 : Int32) (x2 : Int32) (x3 : Int32) (v : Nat → Int32) (f : Nat → Nat → Int32) (g : Nat → Nat → Int64), R4 x1 x2 x3 v f g → mG p l e (mRm 0 0) s m args below meth c A D cI cJ cZ a 5 (MQ below (va_Qi post (mB D cI cJ cZ a) A) args s 0 0 A) 4 [(0, .ref (a 0)), (1, .int x1), (2, .int x2), (3, .int x3)] [] v f g) (x1 : Int32) (x2 : Int32) (x3 : Int32) (v : Nat → Int32) (f : Nat → Nat → Int32) (g : Nat → Nat → Int64) (h : r_isInLooks_4 (fun r v f g => post r (v, f, g)) R4 x1 x2 x3 v f g) : mG p l e (mRm 0 0) s m args below meth c A D cI cJ cZ a 5 (MQ below (va_Qi post (mB D cI cJ cZ a) A) args s 0 0 A) 4 [(0, .ref (a 0)), (1, .int x1), (2, .int x2), (3, .int x3)] [] v f g := by
  unfold r_isInLooks_4 at h
  refine mg_iload_n C (i := 3) rfl 3 rfl dX12_isInLooks_4 ?_
  refine mg_iconst C (x := nI 5) rfl dX12_isInLooks_5 ?_
  refine mg_icmp_ge C 72 (by decide) dX12_isInLooks_6 (fun c_ => ?_) (fun c_ => ?_)
  · have h := h.1 c_
    refine mg_iload_n C (i := 2) rfl 2 rfl dX12_isInLooks_72 ?_
    obtain ⟨hc_73, h⟩ := h
    exact mg_zret C (isZ_nar hc_73) h dX12_isInLooks_73
  · have h := h.2 c_
    refine mg_iconst C (x := nI 0) rfl dX12_isInLooks_9 ?_
    refine mg_istore C (lv' := [(4, .int ((nI 0))), (0, .ref (a 0)), (1, .int x1), (2, .int x2), (3, .int x3)]) (Nat.le_of_ble_eq_true rfl) rfl dX12_isInLooks_10 ?_
    exact mg_sub [1, 2, 3, 4, 0] rfl (sl_isInLooks_12 C hR4 x1 x2 x3 (((nI 0))) v f g h)
set_option maxRecDepth 20000 in
theorem sl_isInLooks_4 (C : mC p s m args meth c cX12_isInLooks 5 (some .boolean) A D cI cJ cZ) {post : Int32 → mS → Prop}   (x1 : Int32) (x2 : Int32) (x3 : Int32) (v : Nat → Int32) (f : Nat → Nat → Int32) (g : Nat → Nat → Int64) (h : r_isInLooks_4L (fun r v f g => post r (v, f, g))  x1 x2 x3 v f g) : mG p l e (mRm 0 0) s m args below meth c A D cI cJ cZ a 5 (MQ below (va_Qi post (mB D cI cJ cZ a) A) args s 0 0 A) 4 [(0, .ref (a 0)), (1, .int x1), (2, .int x2), (3, .int x3)] [] v f g :=
  h (fun y => mG p l e (mRm 0 0) s m args below meth c A D cI cJ cZ a 5 (MQ below (va_Qi post (mB D cI cJ cZ a) A) args s 0 0 A) 4 [(0, .ref (a 0)), (1, .int (y.1)), (2, .int (y.2.1)), (3, .int (y.2.2.1))] [] (y.2.2.2.1) (y.2.2.2.2.1) (y.2.2.2.2.2)) (fun y hy => sb_isInLooks_4 C  (fun b0 b1 b2 v f g z => z) (y.1) (y.2.1) (y.2.2.1) (y.2.2.2.1) (y.2.2.2.2.1) (y.2.2.2.2.2) hy)
end S_isInLooks
set_option maxHeartbeats 1000000 in
set_option maxRecDepth 20000 in
theorem s_isInLooks (l : Launch) (x1 : Int32) (v : Nat → Int32) (f : Nat → Nat → Int32) (g : Nat → Nat → Int64) {P : Int32 → (Nat → Int32) → (Nat → Nat → Int32) → (Nat → Nat → Int64) → Prop} (h : r_isInLooks P x1 v f g) : mMi l yX12_isInLooks cX12_isInLooks 5 (some .boolean) 0 0 false [.int x1] v f g (fun r w => P r w.1 w.2.1 w.2.2) := by
  intro D cI cJ cZ a sz
  refine mg_body (by decide +kernel) rfl (Nat.le_of_ble_eq_true rfl) ?_
  intro p e s m args below meth c hsz C
  clear hsz
  generalize va_A (mW cI cJ cZ a v f g) sz = A at C ⊢
  refine mg_lv (lv' := [(0, .ref (a 0)), (1, .int x1)]) rfl ?_
  unfold r_isInLooks at h
  refine mg_iconst C (x := nI 0) rfl dX12_isInLooks_0 ?_
  refine mg_istore_n C (i := 2) (lv' := [(2, .int ((nI 0))), (0, .ref (a 0)), (1, .int x1)]) rfl (Nat.le_of_ble_eq_true rfl) rfl dX12_isInLooks_1 ?_
  refine mg_iconst C (x := nI 0) rfl dX12_isInLooks_2 ?_
  refine mg_istore_n C (i := 3) (lv' := [(3, .int ((nI 0))), (2, .int ((nI 0))), (0, .ref (a 0)), (1, .int x1)]) rfl (Nat.le_of_ble_eq_true rfl) rfl dX12_isInLooks_3 ?_
  exact mg_sub [2, 3, 1, 0] rfl (sl_isInLooks_4 C  x1 (((nI 0))) (((nI 0))) v f g h)
def r_filesNow_252 (Q : Int32 → (Nat → Int32) → (Nat → Nat → Int32) → (Nat → Nat → Int64) → Prop) (R48 : Int32 → Int32 → (Nat → Int32) → (Nat → Nat → Int32) → (Nat → Nat → Int64) → Prop) (x2 : Int32) (t0 : Int32) (t1 : Int32) (t2 : Int32) (v : Nat → Int32) (f : Nat → Nat → Int32) (g : Nat → Nat → Int64) : Prop :=
∀ x1_6 : Int32, x1_6 = (t2 + ((t1 + t0))) → ∀ x2_7 : Int32, x2_7 = x2 + nI 1 → R48 x1_6 x2_7 v f g
def r_filesNow_251 (Q : Int32 → (Nat → Int32) → (Nat → Nat → Int32) → (Nat → Nat → Int64) → Prop) (R48 : Int32 → Int32 → (Nat → Int32) → (Nat → Nat → Int32) → (Nat → Nat → Int64) → Prop) (x2 : Int32) (t0 : Int32) (t1 : Int32) (v : Nat → Int32) (f : Nat → Nat → Int32) (g : Nat → Nat → Int64) : Prop :=
r_filesNow_252 Q R48 x2 ((nI 0)) t0 t1 v f g
def r_filesNow_232 (Q : Int32 → (Nat → Int32) → (Nat → Nat → Int32) → (Nat → Nat → Int64) → Prop) (R48 : Int32 → Int32 → (Nat → Int32) → (Nat → Nat → Int32) → (Nat → Nat → Int64) → Prop) (x2 : Int32) (x5 : Int32) (x6 : Int32) (x7 : Int32) (t0 : Int32) (t1 : Int32) (v : Nat → Int32) (f : Nat → Nat → Int32) (g : Nat → Nat → Int64) : Prop :=
((x6 = 0 →
  r_filesNow_251 Q R48 x2 t0 t1 v f g) ∧
 (¬ x6 = 0 →
  ((x5 = 0 →
    r_filesNow_252 Q R48 x2 ((nI 1)) t0 t1 v f g) ∧
   (¬ x5 = 0 →
    ((¬ x7 = 0 →
      r_filesNow_251 Q R48 x2 t0 t1 v f g) ∧
     (x7 = 0 →
      r_filesNow_252 Q R48 x2 ((nI 1)) t0 t1 v f g))))))
def r_filesNow_213 (Q : Int32 → (Nat → Int32) → (Nat → Nat → Int32) → (Nat → Nat → Int64) → Prop) (R48 : Int32 → Int32 → (Nat → Int32) → (Nat → Nat → Int32) → (Nat → Nat → Int64) → Prop) (R117 : Int32 → Int32 → Int32 → Int32 → Int32 → Int32 → Int32 → Int32 → (Nat → Int32) → (Nat → Nat → Int32) → (Nat → Nat → Int64) → Prop) (x1 : Int32) (x2 : Int32) (x3 : Int32) (x4 : Int32) (x5 : Int32) (x6 : Int32) (x8 : Int32) (t0 : Int32) (v : Nat → Int32) (f : Nat → Nat → Int32) (g : Nat → Nat → Int64) : Prop :=
∀ x8_8 : Int32, x8_8 = x8 + nI 1 → R117 x1 x2 x3 x4 x5 x6 t0 x8_8 v f g
def r_filesNow_212 (Q : Int32 → (Nat → Int32) → (Nat → Nat → Int32) → (Nat → Nat → Int64) → Prop) (R48 : Int32 → Int32 → (Nat → Int32) → (Nat → Nat → Int32) → (Nat → Nat → Int64) → Prop) (R117 : Int32 → Int32 → Int32 → Int32 → Int32 → Int32 → Int32 → Int32 → (Nat → Int32) → (Nat → Nat → Int32) → (Nat → Nat → Int64) → Prop) (x1 : Int32) (x2 : Int32) (x3 : Int32) (x4 : Int32) (x5 : Int32) (x6 : Int32) (x8 : Int32) (v : Nat → Int32) (f : Nat → Nat → Int32) (g : Nat → Nat → Int64) : Prop :=
r_filesNow_213 Q R48 R117 x1 x2 x3 x4 x5 x6 x8 ((nI 0)) v f g
def r_filesNow_184 (Q : Int32 → (Nat → Int32) → (Nat → Nat → Int32) → (Nat → Nat → Int64) → Prop) (R48 : Int32 → Int32 → (Nat → Int32) → (Nat → Nat → Int32) → (Nat → Nat → Int64) → Prop) (R117 : Int32 → Int32 → Int32 → Int32 → Int32 → Int32 → Int32 → Int32 → (Nat → Int32) → (Nat → Nat → Int32) → (Nat → Nat → Int64) → Prop) (x1 : Int32) (x2 : Int32) (x3 : Int32) (x4 : Int32) (x5 : Int32) (x7 : Int32) (x8 : Int32) (t0 : Int32) (v : Nat → Int32) (f : Nat → Nat → Int32) (g : Nat → Nat → Int64) : Prop :=
((x7 = 0 →
  r_filesNow_212 Q R48 R117 x1 x2 x3 x4 x5 t0 x8 v f g) ∧
 (¬ x7 = 0 →
  vp_in x8 20200 ∧ (vp_in x8 20200 ∧ (((¬ ((f 26 (x8).toNatClampNeg)) = ((f 28 (x8).toNatClampNeg)) →
    r_filesNow_212 Q R48 R117 x1 x2 x3 x4 x5 t0 x8 v f g) ∧
   (((f 26 (x8).toNatClampNeg)) = ((f 28 (x8).toNatClampNeg)) →
    r_filesNow_213 Q R48 R117 x1 x2 x3 x4 x5 t0 x8 ((nI 1)) v f g))))))
def r_filesNow_183 (Q : Int32 → (Nat → Int32) → (Nat → Nat → Int32) → (Nat → Nat → Int64) → Prop) (R48 : Int32 → Int32 → (Nat → Int32) → (Nat → Nat → Int32) → (Nat → Nat → Int64) → Prop) (R117 : Int32 → Int32 → Int32 → Int32 → Int32 → Int32 → Int32 → Int32 → (Nat → Int32) → (Nat → Nat → Int32) → (Nat → Nat → Int64) → Prop) (x1 : Int32) (x2 : Int32) (x3 : Int32) (x4 : Int32) (x5 : Int32) (x7 : Int32) (x8 : Int32) (v : Nat → Int32) (f : Nat → Nat → Int32) (g : Nat → Nat → Int64) : Prop :=
r_filesNow_184 Q R48 R117 x1 x2 x3 x4 x5 x7 x8 ((nI 0)) v f g
def r_filesNow_157 (Q : Int32 → (Nat → Int32) → (Nat → Nat → Int32) → (Nat → Nat → Int64) → Prop) (R48 : Int32 → Int32 → (Nat → Int32) → (Nat → Nat → Int32) → (Nat → Nat → Int64) → Prop) (R117 : Int32 → Int32 → Int32 → Int32 → Int32 → Int32 → Int32 → Int32 → (Nat → Int32) → (Nat → Nat → Int32) → (Nat → Nat → Int64) → Prop) (x1 : Int32) (x2 : Int32) (x3 : Int32) (x4 : Int32) (x6 : Int32) (x7 : Int32) (x8 : Int32) (t0 : Int32) (v : Nat → Int32) (f : Nat → Nat → Int32) (g : Nat → Nat → Int64) : Prop :=
((¬ x6 = 0 →
  r_filesNow_184 Q R48 R117 x1 x2 x3 x4 t0 x7 x8 ((nI 1)) v f g) ∧
 (x6 = 0 →
  ((x4 = 0 →
    r_filesNow_183 Q R48 R117 x1 x2 x3 x4 t0 x7 x8 v f g) ∧
   (¬ x4 = 0 →
    vp_in x8 20200 ∧ (((¬ ((f 28 (x8).toNatClampNeg)) = 0 →
      r_filesNow_183 Q R48 R117 x1 x2 x3 x4 t0 x7 x8 v f g) ∧
     (((f 28 (x8).toNatClampNeg)) = 0 →
      r_filesNow_184 Q R48 R117 x1 x2 x3 x4 t0 x7 x8 ((nI 1)) v f g)))))))
def r_filesNow_156 (Q : Int32 → (Nat → Int32) → (Nat → Nat → Int32) → (Nat → Nat → Int64) → Prop) (R48 : Int32 → Int32 → (Nat → Int32) → (Nat → Nat → Int32) → (Nat → Nat → Int64) → Prop) (R117 : Int32 → Int32 → Int32 → Int32 → Int32 → Int32 → Int32 → Int32 → (Nat → Int32) → (Nat → Nat → Int32) → (Nat → Nat → Int64) → Prop) (x1 : Int32) (x2 : Int32) (x3 : Int32) (x4 : Int32) (x6 : Int32) (x7 : Int32) (x8 : Int32) (v : Nat → Int32) (f : Nat → Nat → Int32) (g : Nat → Nat → Int64) : Prop :=
r_filesNow_157 Q R48 R117 x1 x2 x3 x4 x6 x7 x8 ((nI 0)) v f g
def r_filesNow_117 (Q : Int32 → (Nat → Int32) → (Nat → Nat → Int32) → (Nat → Nat → Int64) → Prop) (R48 : Int32 → Int32 → (Nat → Int32) → (Nat → Nat → Int32) → (Nat → Nat → Int64) → Prop) (R117 : Int32 → Int32 → Int32 → Int32 → Int32 → Int32 → Int32 → Int32 → (Nat → Int32) → (Nat → Nat → Int32) → (Nat → Nat → Int64) → Prop) (x1 : Int32) (x2 : Int32) (x3 : Int32) (x4 : Int32) (x5 : Int32) (x6 : Int32) (x7 : Int32) (x8 : Int32) (v : Nat → Int32) (f : Nat → Nat → Int32) (g : Nat → Nat → Int64) : Prop :=
vp_in x2 202 ∧ (((((((((nI 100)) * x2)) + ((f 20 (x2).toNatClampNeg)))) ≤ x8 →
  ((x5 = 0 →
    r_filesNow_232 Q R48 x2 x5 x6 x7 ((nI 0)) x1 v f g) ∧
   (¬ x5 = 0 →
    r_filesNow_232 Q R48 x2 x5 x6 x7 ((nI 1)) x1 v f g))) ∧
 (¬ ((((((nI 100)) * x2)) + ((f 20 (x2).toNatClampNeg)))) ≤ x8 →
  ((¬ x5 = 0 →
    r_filesNow_157 Q R48 R117 x1 x2 x3 x4 x6 x7 x8 ((nI 1)) v f g) ∧
   (x5 = 0 →
    ((x3 = 0 →
      r_filesNow_156 Q R48 R117 x1 x2 x3 x4 x6 x7 x8 v f g) ∧
     (¬ x3 = 0 →
      vp_in x8 20200 ∧ (((¬ ((f 26 (x8).toNatClampNeg)) = 0 →
        r_filesNow_156 Q R48 R117 x1 x2 x3 x4 x6 x7 x8 v f g) ∧
       (((f 26 (x8).toNatClampNeg)) = 0 →
        r_filesNow_157 Q R48 R117 x1 x2 x3 x4 x6 x7 x8 ((nI 1)) v f g))))))))))
def r_filesNow_117L (Q : Int32 → (Nat → Int32) → (Nat → Nat → Int32) → (Nat → Nat → Int64) → Prop) (R48 : Int32 → Int32 → (Nat → Int32) → (Nat → Nat → Int32) → (Nat → Nat → Int64) → Prop) (x1 : Int32) (x2 : Int32) (x3 : Int32) (x4 : Int32) (x5 : Int32) (x6 : Int32) (x7 : Int32) (x8 : Int32) (v : Nat → Int32) (f : Nat → Nat → Int32) (g : Nat → Nat → Int64) : Prop :=
  lfp (X := Int32 × Int32 × Int32 × Int32 × Int32 × Int32 × Int32 × Int32 × (Nat → Int32) × (Nat → Nat → Int32) × (Nat → Nat → Int64)) (fun P y => r_filesNow_117 Q R48 (fun b0 b1 b2 b3 b4 b5 b6 b7 v f g => P (b0, b1, b2, b3, b4, b5, b6, b7, v, f, g)) y.1 y.2.1 y.2.2.1 y.2.2.2.1 y.2.2.2.2.1 y.2.2.2.2.2.1 y.2.2.2.2.2.2.1 y.2.2.2.2.2.2.2.1 y.2.2.2.2.2.2.2.2.1 y.2.2.2.2.2.2.2.2.2.1 y.2.2.2.2.2.2.2.2.2.2) (x1, x2, x3, x4, x5, x6, x7, x8, v, f, g)
def r_filesNow_100 (Q : Int32 → (Nat → Int32) → (Nat → Nat → Int32) → (Nat → Nat → Int64) → Prop) (R48 : Int32 → Int32 → (Nat → Int32) → (Nat → Nat → Int32) → (Nat → Nat → Int64) → Prop) (x2 : Int32) (x3 : Int32) (x4 : Int32) (t0 : Int32) (t1 : Int32) (v : Nat → Int32) (f : Nat → Nat → Int32) (g : Nat → Nat → Int64) : Prop :=
∀ x1_4 : Int32, x1_4 = (t1 + t0) → ∀ x8_5 : Int32, x8_5 = (((nI 100)) * x2) → r_filesNow_117L Q R48 x1_4 x2 x3 x4 (((nI 0))) (((nI 0))) (((nI 1))) x8_5 v f g
def r_filesNow_48 (Q : Int32 → (Nat → Int32) → (Nat → Nat → Int32) → (Nat → Nat → Int64) → Prop) (R48 : Int32 → Int32 → (Nat → Int32) → (Nat → Nat → Int32) → (Nat → Nat → Int64) → Prop) (x1 : Int32) (x2 : Int32) (v : Nat → Int32) (f : Nat → Nat → Int32) (g : Nat → Nat → Int64) : Prop :=
((((v 29)) ≤ x2 →
  Q x1 v f g) ∧
 (¬ ((v 29)) ≤ x2 →
  r_isInCommit (fun r_2 v_2 f_2 g_2 => 
  r_isInPrepared (fun r_3 v_3 f_3 g_3 => 
  ((¬ r_2 = 0 →
    r_filesNow_100 Q R48 x2 r_2 r_3 ((nI 1)) x1 v_3 f_3 g_3) ∧
   (r_2 = 0 →
    ((¬ r_3 = 0 →
      r_filesNow_100 Q R48 x2 r_2 r_3 ((nI 1)) x1 v_3 f_3 g_3) ∧
     (r_3 = 0 →
      r_isInIndex (fun r_9 v_9 f_9 g_9 => 
      ((¬ r_9 = 0 →
        r_filesNow_100 Q R48 x2 r_2 r_3 ((nI 1)) x1 v_9 f_9 g_9) ∧
       (r_9 = 0 →
        r_isInLooks (fun r_10 v_10 f_10 g_10 => 
        ((r_10 = 0 →
          r_filesNow_100 Q R48 x2 r_2 r_3 ((nI 0)) x1 v_10 f_10 g_10) ∧
         (¬ r_10 = 0 →
          r_filesNow_100 Q R48 x2 r_2 r_3 ((nI 1)) x1 v_10 f_10 g_10))) x2 v_9 f_9 g_9))) x2 v_3 f_3 g_3))))) x2 v_2 f_2 g_2) x2 v f g))
def r_filesNow_48L (Q : Int32 → (Nat → Int32) → (Nat → Nat → Int32) → (Nat → Nat → Int64) → Prop)  (x1 : Int32) (x2 : Int32) (v : Nat → Int32) (f : Nat → Nat → Int32) (g : Nat → Nat → Int64) : Prop :=
  lfp (X := Int32 × Int32 × (Nat → Int32) × (Nat → Nat → Int32) × (Nat → Nat → Int64)) (fun P y => r_filesNow_48 Q  (fun b0 b1 v f g => P (b0, b1, v, f, g)) y.1 y.2.1 y.2.2.1 y.2.2.2.1 y.2.2.2.2) (x1, x2, v, f, g)
def r_filesNow_44 (Q : Int32 → (Nat → Int32) → (Nat → Nat → Int32) → (Nat → Nat → Int64) → Prop)  (t0 : Int32) (t1 : Int32) (v : Nat → Int32) (f : Nat → Nat → Int32) (g : Nat → Nat → Int64) : Prop :=
∀ x1_1 : Int32, x1_1 = (t1 + t0) → r_filesNow_48L Q  x1_1 (((nI 0))) v f g
def r_filesNow_43 (Q : Int32 → (Nat → Int32) → (Nat → Nat → Int32) → (Nat → Nat → Int64) → Prop)  (t0 : Int32) (v : Nat → Int32) (f : Nat → Nat → Int32) (g : Nat → Nat → Int64) : Prop :=
r_filesNow_44 Q  ((nI 0)) t0 v f g
def r_filesNow_24 (Q : Int32 → (Nat → Int32) → (Nat → Nat → Int32) → (Nat → Nat → Int64) → Prop)  (t0 : Int32) (t1 : Int32) (v : Nat → Int32) (f : Nat → Nat → Int32) (g : Nat → Nat → Int64) : Prop :=
((((v 49)) = 0 →
  r_filesNow_43 Q  ((t1 + t0)) v f g) ∧
 (¬ ((v 49)) = 0 →
  ((((v 53)) ≤ 0 →
    r_filesNow_43 Q  ((t1 + t0)) v f g) ∧
   (¬ ((v 53)) ≤ 0 →
    r_filesNow_44 Q  ((nI 1)) ((t1 + t0)) v f g))))
def r_filesNow_12 (Q : Int32 → (Nat → Int32) → (Nat → Nat → Int32) → (Nat → Nat → Int64) → Prop)  (t0 : Int32) (v : Nat → Int32) (f : Nat → Nat → Int32) (g : Nat → Nat → Int64) : Prop :=
((((v 40)) = 0 →
  r_filesNow_24 Q  ((nI 0)) t0 v f g) ∧
 (¬ ((v 40)) = 0 →
  r_filesNow_24 Q  ((nI 1)) t0 v f g))
def r_filesNow (Q : Int32 → (Nat → Int32) → (Nat → Nat → Int32) → (Nat → Nat → Int64) → Prop)  (v : Nat → Int32) (f : Nat → Nat → Int32) (g : Nat → Nat → Int64) : Prop :=
((((v 35)) = 0 →
  r_filesNow_12 Q  ((nI 0)) v f g) ∧
 (¬ ((v 35)) = 0 →
  r_filesNow_12 Q  ((nI 1)) v f g))
section S_filesNow
variable {p : Program} {l : Launch} {e : Env} {s : State} {m : MethodId} {args : Array Value} {below : List Frame} {meth : Method} {c : Code} {A : Nat → Prop} {D : va_G} {cI cJ cZ : ClassId} {a : Nat → Nat}
set_option maxRecDepth 20000 in
theorem sb_filesNow_252 (C : mC p s m args meth c cX12_filesNow 9 (some .int) A D cI cJ cZ) {post : Int32 → mS → Prop} {R48 : Int32 → Int32 → (Nat → Int32) → (Nat → Nat → Int32) → (Nat → Nat → Int64) → Prop} (hR48 : ∀ (x1 : Int32) (x2 : Int32) (v : Nat → Int32) (f : Nat → Nat → Int32) (g : Nat → Nat → Int64), R48 x1 x2 v f g → mG p l e (mRm 1 24) s m args below meth c A D cI cJ cZ a 9 (MQ below (va_Qi post (mB D cI cJ cZ a) A) args s 0 0 A) 48 [(0, .ref (a 0)), (1, .int x1), (2, .int x2)] [] v f g) (x2 : Int32) (t0 : Int32) (t1 : Int32) (t2 : Int32) (v : Nat → Int32) (f : Nat → Nat → Int32) (g : Nat → Nat → Int64) (h : r_filesNow_252 (fun r v f g => post r (v, f, g)) R48 x2 t0 t1 t2 v f g) : mG p l e (mRm 1 24) s m args below meth c A D cI cJ cZ a 9 (MQ below (va_Qi post (mB D cI cJ cZ a) A) args s 0 0 A) 252 [(0, .ref (a 0)), (2, .int x2)] [.int t0, .int t1, .int t2] v f g := by
  unfold r_filesNow_252 at h
  refine mg_iadd C dX12_filesNow_252 ?_
  refine mg_iadd C dX12_filesNow_253 ?_
  refine mg_nmI (fun x1_6 e_x1_6 => ?_)
  have h := h x1_6 e_x1_6
  refine mg_istore_n C (i := 1) (lv' := [(1, .int x1_6), (0, .ref (a 0)), (2, .int x2)]) rfl (Nat.le_of_ble_eq_true rfl) rfl dX12_filesNow_254 ?_
  obtain ⟨x2_7, e_x2_7⟩ : ∃ z : Int32, z = x2 + nI 1 := ⟨_, rfl⟩
  have h := h x2_7 e_x2_7
  refine mg_iinc C (lv' := [(2, .int x2_7), (1, .int x1_6), (0, .ref (a 0))]) 2 rfl (by rw [e_x2_7]; rfl) (Nat.le_of_ble_eq_true rfl) rfl dX12_filesNow_255 ?_
  refine mg_goto C 48 (by decide) dX12_filesNow_258 ?_
  exact mg_sub [2, 1, 0] rfl (hR48 x1_6 x2_7 v f g h)
set_option maxRecDepth 20000 in
theorem sb_filesNow_251 (C : mC p s m args meth c cX12_filesNow 9 (some .int) A D cI cJ cZ) {post : Int32 → mS → Prop} {R48 : Int32 → Int32 → (Nat → Int32) → (Nat → Nat → Int32) → (Nat → Nat → Int64) → Prop} (hR48 : ∀ (x1 : Int32) (x2 : Int32) (v : Nat → Int32) (f : Nat → Nat → Int32) (g : Nat → Nat → Int64), R48 x1 x2 v f g → mG p l e (mRm 1 24) s m args below meth c A D cI cJ cZ a 9 (MQ below (va_Qi post (mB D cI cJ cZ a) A) args s 0 0 A) 48 [(0, .ref (a 0)), (1, .int x1), (2, .int x2)] [] v f g) (x2 : Int32) (t0 : Int32) (t1 : Int32) (v : Nat → Int32) (f : Nat → Nat → Int32) (g : Nat → Nat → Int64) (h : r_filesNow_251 (fun r v f g => post r (v, f, g)) R48 x2 t0 t1 v f g) : mG p l e (mRm 1 24) s m args below meth c A D cI cJ cZ a 9 (MQ below (va_Qi post (mB D cI cJ cZ a) A) args s 0 0 A) 251 [(0, .ref (a 0)), (2, .int x2)] [.int t0, .int t1] v f g := by
  unfold r_filesNow_251 at h
  refine mg_iconst C (x := nI 0) rfl dX12_filesNow_251 ?_
  exact mg_sub [0, 1] rfl (sb_filesNow_252 C hR48 x2 ((nI 0)) t0 t1 v f g h)
set_option maxRecDepth 20000 in
theorem sb_filesNow_232 (C : mC p s m args meth c cX12_filesNow 9 (some .int) A D cI cJ cZ) {post : Int32 → mS → Prop} {R48 : Int32 → Int32 → (Nat → Int32) → (Nat → Nat → Int32) → (Nat → Nat → Int64) → Prop} (hR48 : ∀ (x1 : Int32) (x2 : Int32) (v : Nat → Int32) (f : Nat → Nat → Int32) (g : Nat → Nat → Int64), R48 x1 x2 v f g → mG p l e (mRm 1 24) s m args below meth c A D cI cJ cZ a 9 (MQ below (va_Qi post (mB D cI cJ cZ a) A) args s 0 0 A) 48 [(0, .ref (a 0)), (1, .int x1), (2, .int x2)] [] v f g) (x2 : Int32) (x5 : Int32) (x6 : Int32) (x7 : Int32) (t0 : Int32) (t1 : Int32) (v : Nat → Int32) (f : Nat → Nat → Int32) (g : Nat → Nat → Int64) (h : r_filesNow_232 (fun r v f g => post r (v, f, g)) R48 x2 x5 x6 x7 t0 t1 v f g) : mG p l e (mRm 1 24) s m args below meth c A D cI cJ cZ a 9 (MQ below (va_Qi post (mB D cI cJ cZ a) A) args s 0 0 A) 232 [(0, .ref (a 0)), (2, .int x2), (5, .int x5), (6, .int x6), (7, .int x7)] [.int t0, .int t1] v f g := by
  unfold r_filesNow_232 at h
  refine mg_iload C 3 rfl dX12_filesNow_232 ?_
  refine mg_if_eq C 251 (by decide) dX12_filesNow_234 (fun c_ => ?_) (fun c_ => ?_)
  · have h := h.1 c_
    exact mg_sub [0, 1] rfl (sb_filesNow_251 C hR48 x2 t0 t1 v f g h)
  · have h := h.2 c_
    refine mg_iload C 2 rfl dX12_filesNow_237 ?_
    refine mg_if_eq C 247 (by decide) dX12_filesNow_239 (fun c_ => ?_) (fun c_ => ?_)
    · have h := h.1 c_
      refine mg_iconst C (x := nI 1) rfl dX12_filesNow_247 ?_
      refine mg_goto C 252 (by decide) dX12_filesNow_248 ?_
      exact mg_sub [0, 1] rfl (sb_filesNow_252 C hR48 x2 ((nI 1)) t0 t1 v f g h)
    · have h := h.2 c_
      refine mg_iload C 4 rfl dX12_filesNow_242 ?_
      refine mg_if_ne C 251 (by decide) dX12_filesNow_244 (fun c_ => ?_) (fun c_ => ?_)
      · have h := h.1 c_
        exact mg_sub [0, 1] rfl (sb_filesNow_251 C hR48 x2 t0 t1 v f g h)
      · have h := h.2 c_
        refine mg_iconst C (x := nI 1) rfl dX12_filesNow_247 ?_
        refine mg_goto C 252 (by decide) dX12_filesNow_248 ?_
        exact mg_sub [0, 1] rfl (sb_filesNow_252 C hR48 x2 ((nI 1)) t0 t1 v f g h)
set_option maxRecDepth 20000 in
theorem sb_filesNow_213 (C : mC p s m args meth c cX12_filesNow 9 (some .int) A D cI cJ cZ) {post : Int32 → mS → Prop} {R48 : Int32 → Int32 → (Nat → Int32) → (Nat → Nat → Int32) → (Nat → Nat → Int64) → Prop} {R117 : Int32 → Int32 → Int32 → Int32 → Int32 → Int32 → Int32 → Int32 → (Nat → Int32) → (Nat → Nat → Int32) → (Nat → Nat → Int64) → Prop} (hR48 : ∀ (x1 : Int32) (x2 : Int32) (v : Nat → Int32) (f : Nat → Nat → Int32) (g : Nat → Nat → Int64), R48 x1 x2 v f g → mG p l e (mRm 1 24) s m args below meth c A D cI cJ cZ a 9 (MQ below (va_Qi post (mB D cI cJ cZ a) A) args s 0 0 A) 48 [(0, .ref (a 0)), (1, .int x1), (2, .int x2)] [] v f g) (hR117 : ∀ (x1 : Int32) (x2 : Int32) (x3 : Int32) (x4 : Int32) (x5 : Int32) (x6 : Int32) (x7 : Int32) (x8 : Int32) (v : Nat → Int32) (f : Nat → Nat → Int32) (g : Nat → Nat → Int64), R117 x1 x2 x3 x4 x5 x6 x7 x8 v f g → mG p l e (mRm 1 24) s m args below meth c A D cI cJ cZ a 9 (MQ below (va_Qi post (mB D cI cJ cZ a) A) args s 0 0 A) 117 [(0, .ref (a 0)), (1, .int x1), (2, .int x2), (3, .int x3), (4, .int x4), (5, .int x5), (6, .int x6), (7, .int x7), (8, .int x8)] [] v f g) (x1 : Int32) (x2 : Int32) (x3 : Int32) (x4 : Int32) (x5 : Int32) (x6 : Int32) (x8 : Int32) (t0 : Int32) (v : Nat → Int32) (f : Nat → Nat → Int32) (g : Nat → Nat → Int64) (h : r_filesNow_213 (fun r v f g => post r (v, f, g)) R48 R117 x1 x2 x3 x4 x5 x6 x8 t0 v f g) : mG p l e (mRm 1 24) s m args below meth c A D cI cJ cZ a 9 (MQ below (va_Qi post (mB D cI cJ cZ a) A) args s 0 0 A) 213 [(0, .ref (a 0)), (1, .int x1), (2, .int x2), (3, .int x3), (4, .int x4), (5, .int x5), (6, .int x6), (8, .int x8)] [.int t0] v f g := by
  unfold r_filesNow_213 at h
  refine mg_istore C (lv' := [(7, .int t0), (0, .ref (a 0)), (1, .int x1), (2, .int x2), (3, .int x3), (4, .int x4), (5, .int x5), (6, .int x6), (8, .int x8)]) (Nat.le_of_ble_eq_true rfl) rfl dX12_filesNow_213 ?_
  obtain ⟨x8_8, e_x8_8⟩ : ∃ z : Int32, z = x8 + nI 1 := ⟨_, rfl⟩
  have h := h x8_8 e_x8_8
  refine mg_iinc C (lv' := [(8, .int x8_8), (7, .int t0), (0, .ref (a 0)), (1, .int x1), (2, .int x2), (3, .int x3), (4, .int x4), (5, .int x5), (6, .int x6)]) 8 rfl (by rw [e_x8_8]; rfl) (Nat.le_of_ble_eq_true rfl) rfl dX12_filesNow_215 ?_
  refine mg_goto C 117 (by decide) dX12_filesNow_218 ?_
  exact mg_sub [2, 3, 4, 5, 6, 7, 8, 1, 0] rfl (hR117 x1 x2 x3 x4 x5 x6 t0 x8_8 v f g h)
set_option maxRecDepth 20000 in
theorem sb_filesNow_212 (C : mC p s m args meth c cX12_filesNow 9 (some .int) A D cI cJ cZ) {post : Int32 → mS → Prop} {R48 : Int32 → Int32 → (Nat → Int32) → (Nat → Nat → Int32) → (Nat → Nat → Int64) → Prop} {R117 : Int32 → Int32 → Int32 → Int32 → Int32 → Int32 → Int32 → Int32 → (Nat → Int32) → (Nat → Nat → Int32) → (Nat → Nat → Int64) → Prop} (hR48 : ∀ (x1 : Int32) (x2 : Int32) (v : Nat → Int32) (f : Nat → Nat → Int32) (g : Nat → Nat → Int64), R48 x1 x2 v f g → mG p l e (mRm 1 24) s m args below meth c A D cI cJ cZ a 9 (MQ below (va_Qi post (mB D cI cJ cZ a) A) args s 0 0 A) 48 [(0, .ref (a 0)), (1, .int x1), (2, .int x2)] [] v f g) (hR117 : ∀ (x1 : Int32) (x2 : Int32) (x3 : Int32) (x4 : Int32) (x5 : Int32) (x6 : Int32) (x7 : Int32) (x8 : Int32) (v : Nat → Int32) (f : Nat → Nat → Int32) (g : Nat → Nat → Int64), R117 x1 x2 x3 x4 x5 x6 x7 x8 v f g → mG p l e (mRm 1 24) s m args below meth c A D cI cJ cZ a 9 (MQ below (va_Qi post (mB D cI cJ cZ a) A) args s 0 0 A) 117 [(0, .ref (a 0)), (1, .int x1), (2, .int x2), (3, .int x3), (4, .int x4), (5, .int x5), (6, .int x6), (7, .int x7), (8, .int x8)] [] v f g) (x1 : Int32) (x2 : Int32) (x3 : Int32) (x4 : Int32) (x5 : Int32) (x6 : Int32) (x8 : Int32) (v : Nat → Int32) (f : Nat → Nat → Int32) (g : Nat → Nat → Int64) (h : r_filesNow_212 (fun r v f g => post r (v, f, g)) R48 R117 x1 x2 x3 x4 x5 x6 x8 v f g) : mG p l e (mRm 1 24) s m args below meth c A D cI cJ cZ a 9 (MQ below (va_Qi post (mB D cI cJ cZ a) A) args s 0 0 A) 212 [(0, .ref (a 0)), (1, .int x1), (2, .int x2), (3, .int x3), (4, .int x4), (5, .int x5), (6, .int x6), (8, .int x8)] [] v f g := by
  unfold r_filesNow_212 at h
  refine mg_iconst C (x := nI 0) rfl dX12_filesNow_212 ?_
  exact mg_sub [0, 1, 2, 3, 4, 5, 6, 7] rfl (sb_filesNow_213 C hR48 hR117 x1 x2 x3 x4 x5 x6 x8 ((nI 0)) v f g h)
set_option maxRecDepth 20000 in
theorem sb_filesNow_184 (C : mC p s m args meth c cX12_filesNow 9 (some .int) A D cI cJ cZ) {post : Int32 → mS → Prop} {R48 : Int32 → Int32 → (Nat → Int32) → (Nat → Nat → Int32) → (Nat → Nat → Int64) → Prop} {R117 : Int32 → Int32 → Int32 → Int32 → Int32 → Int32 → Int32 → Int32 → (Nat → Int32) → (Nat → Nat → Int32) → (Nat → Nat → Int64) → Prop} (hR48 : ∀ (x1 : Int32) (x2 : Int32) (v : Nat → Int32) (f : Nat → Nat → Int32) (g : Nat → Nat → Int64), R48 x1 x2 v f g → mG p l e (mRm 1 24) s m args below meth c A D cI cJ cZ a 9 (MQ below (va_Qi post (mB D cI cJ cZ a) A) args s 0 0 A) 48 [(0, .ref (a 0)), (1, .int x1), (2, .int x2)] [] v f g) (hR117 : ∀ (x1 : Int32) (x2 : Int32) (x3 : Int32) (x4 : Int32) (x5 : Int32) (x6 : Int32) (x7 : Int32) (x8 : Int32) (v : Nat → Int32) (f : Nat → Nat → Int32) (g : Nat → Nat → Int64), R117 x1 x2 x3 x4 x5 x6 x7 x8 v f g → mG p l e (mRm 1 24) s m args below meth c A D cI cJ cZ a 9 (MQ below (va_Qi post (mB D cI cJ cZ a) A) args s 0 0 A) 117 [(0, .ref (a 0)), (1, .int x1), (2, .int x2), (3, .int x3), (4, .int x4), (5, .int x5), (6, .int x6), (7, .int x7), (8, .int x8)] [] v f g) (x1 : Int32) (x2 : Int32) (x3 : Int32) (x4 : Int32) (x5 : Int32) (x7 : Int32) (x8 : Int32) (t0 : Int32) (v : Nat → Int32) (f : Nat → Nat → Int32) (g : Nat → Nat → Int64) (h : r_filesNow_184 (fun r v f g => post r (v, f, g)) R48 R117 x1 x2 x3 x4 x5 x7 x8 t0 v f g) : mG p l e (mRm 1 24) s m args below meth c A D cI cJ cZ a 9 (MQ below (va_Qi post (mB D cI cJ cZ a) A) args s 0 0 A) 184 [(0, .ref (a 0)), (1, .int x1), (2, .int x2), (3, .int x3), (4, .int x4), (5, .int x5), (7, .int x7), (8, .int x8)] [.int t0] v f g := by
  unfold r_filesNow_184 at h
  refine mg_istore C (lv' := [(6, .int t0), (0, .ref (a 0)), (1, .int x1), (2, .int x2), (3, .int x3), (4, .int x4), (5, .int x5), (7, .int x7), (8, .int x8)]) (Nat.le_of_ble_eq_true rfl) rfl dX12_filesNow_184 ?_
  refine mg_iload C 7 rfl dX12_filesNow_186 ?_
  refine mg_if_eq C 212 (by decide) dX12_filesNow_188 (fun c_ => ?_) (fun c_ => ?_)
  · have h := h.1 c_
    exact mg_sub [1, 2, 3, 4, 5, 6, 0, 8] rfl (sb_filesNow_212 C hR48 hR117 x1 x2 x3 x4 x5 t0 x8 v f g h)
  · have h := h.2 c_
    refine mg_aload_n C (i := 0) rfl 1 rfl dX12_filesNow_191 ?_
    refine mg_arr C 26 (by decide) (by decide) rfl mL_committedLive rfl dX12_filesNow_192 ?_
    refine mg_iload C 8 rfl dX12_filesNow_195 ?_
    obtain ⟨hc_197, h⟩ := h
    refine mg_baloadR C (n := 20200) 26 (by decide) (by decide) rfl rfl hc_197 dX12_filesNow_197 ?_
    refine mg_aload_n C (i := 0) rfl 1 rfl dX12_filesNow_198 ?_
    refine mg_arr C 28 (by decide) (by decide) rfl mL_preparedLive rfl dX12_filesNow_199 ?_
    refine mg_iload C 8 rfl dX12_filesNow_202 ?_
    obtain ⟨hc_204, h⟩ := h
    refine mg_baloadR C (n := 20200) 28 (by decide) (by decide) rfl rfl hc_204 dX12_filesNow_204 ?_
    refine mg_icmp_ne C 212 (by decide) dX12_filesNow_205 (fun c_ => ?_) (fun c_ => ?_)
    · have h := h.1 c_
      exact mg_sub [1, 2, 3, 4, 5, 6, 0, 8] rfl (sb_filesNow_212 C hR48 hR117 x1 x2 x3 x4 x5 t0 x8 v f g h)
    · have h := h.2 c_
      refine mg_iconst C (x := nI 1) rfl dX12_filesNow_208 ?_
      refine mg_goto C 213 (by decide) dX12_filesNow_209 ?_
      exact mg_sub [1, 2, 3, 4, 5, 6, 0, 8] rfl (sb_filesNow_213 C hR48 hR117 x1 x2 x3 x4 x5 t0 x8 ((nI 1)) v f g h)
set_option maxRecDepth 20000 in
theorem sb_filesNow_183 (C : mC p s m args meth c cX12_filesNow 9 (some .int) A D cI cJ cZ) {post : Int32 → mS → Prop} {R48 : Int32 → Int32 → (Nat → Int32) → (Nat → Nat → Int32) → (Nat → Nat → Int64) → Prop} {R117 : Int32 → Int32 → Int32 → Int32 → Int32 → Int32 → Int32 → Int32 → (Nat → Int32) → (Nat → Nat → Int32) → (Nat → Nat → Int64) → Prop} (hR48 : ∀ (x1 : Int32) (x2 : Int32) (v : Nat → Int32) (f : Nat → Nat → Int32) (g : Nat → Nat → Int64), R48 x1 x2 v f g → mG p l e (mRm 1 24) s m args below meth c A D cI cJ cZ a 9 (MQ below (va_Qi post (mB D cI cJ cZ a) A) args s 0 0 A) 48 [(0, .ref (a 0)), (1, .int x1), (2, .int x2)] [] v f g) (hR117 : ∀ (x1 : Int32) (x2 : Int32) (x3 : Int32) (x4 : Int32) (x5 : Int32) (x6 : Int32) (x7 : Int32) (x8 : Int32) (v : Nat → Int32) (f : Nat → Nat → Int32) (g : Nat → Nat → Int64), R117 x1 x2 x3 x4 x5 x6 x7 x8 v f g → mG p l e (mRm 1 24) s m args below meth c A D cI cJ cZ a 9 (MQ below (va_Qi post (mB D cI cJ cZ a) A) args s 0 0 A) 117 [(0, .ref (a 0)), (1, .int x1), (2, .int x2), (3, .int x3), (4, .int x4), (5, .int x5), (6, .int x6), (7, .int x7), (8, .int x8)] [] v f g) (x1 : Int32) (x2 : Int32) (x3 : Int32) (x4 : Int32) (x5 : Int32) (x7 : Int32) (x8 : Int32) (v : Nat → Int32) (f : Nat → Nat → Int32) (g : Nat → Nat → Int64) (h : r_filesNow_183 (fun r v f g => post r (v, f, g)) R48 R117 x1 x2 x3 x4 x5 x7 x8 v f g) : mG p l e (mRm 1 24) s m args below meth c A D cI cJ cZ a 9 (MQ below (va_Qi post (mB D cI cJ cZ a) A) args s 0 0 A) 183 [(0, .ref (a 0)), (1, .int x1), (2, .int x2), (3, .int x3), (4, .int x4), (5, .int x5), (7, .int x7), (8, .int x8)] [] v f g := by
  unfold r_filesNow_183 at h
  refine mg_iconst C (x := nI 0) rfl dX12_filesNow_183 ?_
  exact mg_sub [0, 1, 2, 3, 4, 5, 6, 7] rfl (sb_filesNow_184 C hR48 hR117 x1 x2 x3 x4 x5 x7 x8 ((nI 0)) v f g h)
set_option maxRecDepth 20000 in
theorem sb_filesNow_157 (C : mC p s m args meth c cX12_filesNow 9 (some .int) A D cI cJ cZ) {post : Int32 → mS → Prop} {R48 : Int32 → Int32 → (Nat → Int32) → (Nat → Nat → Int32) → (Nat → Nat → Int64) → Prop} {R117 : Int32 → Int32 → Int32 → Int32 → Int32 → Int32 → Int32 → Int32 → (Nat → Int32) → (Nat → Nat → Int32) → (Nat → Nat → Int64) → Prop} (hR48 : ∀ (x1 : Int32) (x2 : Int32) (v : Nat → Int32) (f : Nat → Nat → Int32) (g : Nat → Nat → Int64), R48 x1 x2 v f g → mG p l e (mRm 1 24) s m args below meth c A D cI cJ cZ a 9 (MQ below (va_Qi post (mB D cI cJ cZ a) A) args s 0 0 A) 48 [(0, .ref (a 0)), (1, .int x1), (2, .int x2)] [] v f g) (hR117 : ∀ (x1 : Int32) (x2 : Int32) (x3 : Int32) (x4 : Int32) (x5 : Int32) (x6 : Int32) (x7 : Int32) (x8 : Int32) (v : Nat → Int32) (f : Nat → Nat → Int32) (g : Nat → Nat → Int64), R117 x1 x2 x3 x4 x5 x6 x7 x8 v f g → mG p l e (mRm 1 24) s m args below meth c A D cI cJ cZ a 9 (MQ below (va_Qi post (mB D cI cJ cZ a) A) args s 0 0 A) 117 [(0, .ref (a 0)), (1, .int x1), (2, .int x2), (3, .int x3), (4, .int x4), (5, .int x5), (6, .int x6), (7, .int x7), (8, .int x8)] [] v f g) (x1 : Int32) (x2 : Int32) (x3 : Int32) (x4 : Int32) (x6 : Int32) (x7 : Int32) (x8 : Int32) (t0 : Int32) (v : Nat → Int32) (f : Nat → Nat → Int32) (g : Nat → Nat → Int64) (h : r_filesNow_157 (fun r v f g => post r (v, f, g)) R48 R117 x1 x2 x3 x4 x6 x7 x8 t0 v f g) : mG p l e (mRm 1 24) s m args below meth c A D cI cJ cZ a 9 (MQ below (va_Qi post (mB D cI cJ cZ a) A) args s 0 0 A) 157 [(0, .ref (a 0)), (1, .int x1), (2, .int x2), (3, .int x3), (4, .int x4), (6, .int x6), (7, .int x7), (8, .int x8)] [.int t0] v f g := by
  unfold r_filesNow_157 at h
  refine mg_istore C (lv' := [(5, .int t0), (0, .ref (a 0)), (1, .int x1), (2, .int x2), (3, .int x3), (4, .int x4), (6, .int x6), (7, .int x7), (8, .int x8)]) (Nat.le_of_ble_eq_true rfl) rfl dX12_filesNow_157 ?_
  refine mg_iload C 6 rfl dX12_filesNow_159 ?_
  refine mg_if_ne C 179 (by decide) dX12_filesNow_161 (fun c_ => ?_) (fun c_ => ?_)
  · have h := h.1 c_
    refine mg_iconst C (x := nI 1) rfl dX12_filesNow_179 ?_
    refine mg_goto C 184 (by decide) dX12_filesNow_180 ?_
    exact mg_sub [1, 2, 3, 4, 5, 0, 7, 8] rfl (sb_filesNow_184 C hR48 hR117 x1 x2 x3 x4 t0 x7 x8 ((nI 1)) v f g h)
  · have h := h.2 c_
    refine mg_iload C 5 rfl dX12_filesNow_164 ?_
    refine mg_if_eq C 183 (by decide) dX12_filesNow_166 (fun c_ => ?_) (fun c_ => ?_)
    · have h := h.1 c_
      exact mg_sub [1, 2, 3, 4, 5, 0, 7, 8] rfl (sb_filesNow_183 C hR48 hR117 x1 x2 x3 x4 t0 x7 x8 v f g h)
    · have h := h.2 c_
      refine mg_aload_n C (i := 0) rfl 1 rfl dX12_filesNow_169 ?_
      refine mg_arr C 28 (by decide) (by decide) rfl mL_preparedLive rfl dX12_filesNow_170 ?_
      refine mg_iload C 8 rfl dX12_filesNow_173 ?_
      obtain ⟨hc_175, h⟩ := h
      refine mg_baloadR C (n := 20200) 28 (by decide) (by decide) rfl rfl hc_175 dX12_filesNow_175 ?_
      refine mg_if_ne C 183 (by decide) dX12_filesNow_176 (fun c_ => ?_) (fun c_ => ?_)
      · have h := h.1 c_
        exact mg_sub [1, 2, 3, 4, 5, 0, 7, 8] rfl (sb_filesNow_183 C hR48 hR117 x1 x2 x3 x4 t0 x7 x8 v f g h)
      · have h := h.2 c_
        refine mg_iconst C (x := nI 1) rfl dX12_filesNow_179 ?_
        refine mg_goto C 184 (by decide) dX12_filesNow_180 ?_
        exact mg_sub [1, 2, 3, 4, 5, 0, 7, 8] rfl (sb_filesNow_184 C hR48 hR117 x1 x2 x3 x4 t0 x7 x8 ((nI 1)) v f g h)
set_option maxRecDepth 20000 in
theorem sb_filesNow_156 (C : mC p s m args meth c cX12_filesNow 9 (some .int) A D cI cJ cZ) {post : Int32 → mS → Prop} {R48 : Int32 → Int32 → (Nat → Int32) → (Nat → Nat → Int32) → (Nat → Nat → Int64) → Prop} {R117 : Int32 → Int32 → Int32 → Int32 → Int32 → Int32 → Int32 → Int32 → (Nat → Int32) → (Nat → Nat → Int32) → (Nat → Nat → Int64) → Prop} (hR48 : ∀ (x1 : Int32) (x2 : Int32) (v : Nat → Int32) (f : Nat → Nat → Int32) (g : Nat → Nat → Int64), R48 x1 x2 v f g → mG p l e (mRm 1 24) s m args below meth c A D cI cJ cZ a 9 (MQ below (va_Qi post (mB D cI cJ cZ a) A) args s 0 0 A) 48 [(0, .ref (a 0)), (1, .int x1), (2, .int x2)] [] v f g) (hR117 : ∀ (x1 : Int32) (x2 : Int32) (x3 : Int32) (x4 : Int32) (x5 : Int32) (x6 : Int32) (x7 : Int32) (x8 : Int32) (v : Nat → Int32) (f : Nat → Nat → Int32) (g : Nat → Nat → Int64), R117 x1 x2 x3 x4 x5 x6 x7 x8 v f g → mG p l e (mRm 1 24) s m args below meth c A D cI cJ cZ a 9 (MQ below (va_Qi post (mB D cI cJ cZ a) A) args s 0 0 A) 117 [(0, .ref (a 0)), (1, .int x1), (2, .int x2), (3, .int x3), (4, .int x4), (5, .int x5), (6, .int x6), (7, .int x7), (8, .int x8)] [] v f g) (x1 : Int32) (x2 : Int32) (x3 : Int32) (x4 : Int32) (x6 : Int32) (x7 : Int32) (x8 : Int32) (v : Nat → Int32) (f : Nat → Nat → Int32) (g : Nat → Nat → Int64) (h : r_filesNow_156 (fun r v f g => post r (v, f, g)) R48 R117 x1 x2 x3 x4 x6 x7 x8 v f g) : mG p l e (mRm 1 24) s m args below meth c A D cI cJ cZ a 9 (MQ below (va_Qi post (mB D cI cJ cZ a) A) args s 0 0 A) 156 [(0, .ref (a 0)), (1, .int x1), (2, .int x2), (3, .int x3), (4, .int x4), (6, .int x6), (7, .int x7), (8, .int x8)] [] v f g := by
  unfold r_filesNow_156 at h
  refine mg_iconst C (x := nI 0) rfl dX12_filesNow_156 ?_
  exact mg_sub [0, 1, 2, 3, 4, 5, 6, 7] rfl (sb_filesNow_157 C hR48 hR117 x1 x2 x3 x4 x6 x7 x8 ((nI 0)) v f g h)
set_option maxRecDepth 20000 in
theorem sb_filesNow_117 (C : mC p s m args meth c cX12_filesNow 9 (some .int) A D cI cJ cZ) {post : Int32 → mS → Prop} {R48 : Int32 → Int32 → (Nat → Int32) → (Nat → Nat → Int32) → (Nat → Nat → Int64) → Prop} {R117 : Int32 → Int32 → Int32 → Int32 → Int32 → Int32 → Int32 → Int32 → (Nat → Int32) → (Nat → Nat → Int32) → (Nat → Nat → Int64) → Prop} (hR48 : ∀ (x1 : Int32) (x2 : Int32) (v : Nat → Int32) (f : Nat → Nat → Int32) (g : Nat → Nat → Int64), R48 x1 x2 v f g → mG p l e (mRm 1 24) s m args below meth c A D cI cJ cZ a 9 (MQ below (va_Qi post (mB D cI cJ cZ a) A) args s 0 0 A) 48 [(0, .ref (a 0)), (1, .int x1), (2, .int x2)] [] v f g) (hR117 : ∀ (x1 : Int32) (x2 : Int32) (x3 : Int32) (x4 : Int32) (x5 : Int32) (x6 : Int32) (x7 : Int32) (x8 : Int32) (v : Nat → Int32) (f : Nat → Nat → Int32) (g : Nat → Nat → Int64), R117 x1 x2 x3 x4 x5 x6 x7 x8 v f g → mG p l e (mRm 1 24) s m args below meth c A D cI cJ cZ a 9 (MQ below (va_Qi post (mB D cI cJ cZ a) A) args s 0 0 A) 117 [(0, .ref (a 0)), (1, .int x1), (2, .int x2), (3, .int x3), (4, .int x4), (5, .int x5), (6, .int x6), (7, .int x7), (8, .int x8)] [] v f g) (x1 : Int32) (x2 : Int32) (x3 : Int32) (x4 : Int32) (x5 : Int32) (x6 : Int32) (x7 : Int32) (x8 : Int32) (v : Nat → Int32) (f : Nat → Nat → Int32) (g : Nat → Nat → Int64) (h : r_filesNow_117 (fun r v f g => post r (v, f, g)) R48 R117 x1 x2 x3 x4 x5 x6 x7 x8 v f g) : mG p l e (mRm 1 24) s m args below meth c A D cI cJ cZ a 9 (MQ below (va_Qi post (mB D cI cJ cZ a) A) args s 0 0 A) 117 [(0, .ref (a 0)), (1, .int x1), (2, .int x2), (3, .int x3), (4, .int x4), (5, .int x5), (6, .int x6), (7, .int x7), (8, .int x8)] [] v f g := by
  unfold r_filesNow_117 at h
  refine mg_iload C 8 rfl dX12_filesNow_117 ?_
  refine mg_bipush C (x := nI 100) rfl dX12_filesNow_119 ?_
  refine mg_iload_n C (i := 2) rfl 2 rfl dX12_filesNow_121 ?_
  refine mg_imul C dX12_filesNow_122 ?_
  refine mg_aload_n C (i := 0) rfl 0 rfl dX12_filesNow_123 ?_
  refine mg_arr C 20 (by decide) (by decide) rfl mL_sizes rfl dX12_filesNow_124 ?_
  refine mg_iload_n C (i := 2) rfl 2 rfl dX12_filesNow_127 ?_
  obtain ⟨hc_128, h⟩ := h
  refine mg_ialoadR C (n := 202) 20 (by decide) (by decide) rfl rfl hc_128 dX12_filesNow_128 ?_
  refine mg_iadd C dX12_filesNow_129 ?_
  refine mg_icmp_ge C 221 (by decide) dX12_filesNow_130 (fun c_ => ?_) (fun c_ => ?_)
  · have h := h.1 c_
    refine mg_iload_n C (i := 1) rfl 1 rfl dX12_filesNow_221 ?_
    refine mg_iload C 5 rfl dX12_filesNow_222 ?_
    refine mg_if_eq C 231 (by decide) dX12_filesNow_224 (fun c_ => ?_) (fun c_ => ?_)
    · have h := h.1 c_
      refine mg_iconst C (x := nI 0) rfl dX12_filesNow_231 ?_
      exact mg_sub [0, 2, 5, 6, 7] rfl (sb_filesNow_232 C hR48 x2 x5 x6 x7 ((nI 0)) x1 v f g h)
    · have h := h.2 c_
      refine mg_iconst C (x := nI 1) rfl dX12_filesNow_227 ?_
      refine mg_goto C 232 (by decide) dX12_filesNow_228 ?_
      exact mg_sub [0, 2, 5, 6, 7] rfl (sb_filesNow_232 C hR48 x2 x5 x6 x7 ((nI 1)) x1 v f g h)
  · have h := h.2 c_
    refine mg_iload C 5 rfl dX12_filesNow_133 ?_
    refine mg_if_ne C 152 (by decide) dX12_filesNow_135 (fun c_ => ?_) (fun c_ => ?_)
    · have h := h.1 c_
      refine mg_iconst C (x := nI 1) rfl dX12_filesNow_152 ?_
      refine mg_goto C 157 (by decide) dX12_filesNow_153 ?_
      exact mg_sub [0, 1, 2, 3, 4, 6, 7, 8] rfl (sb_filesNow_157 C hR48 hR117 x1 x2 x3 x4 x6 x7 x8 ((nI 1)) v f g h)
    · have h := h.2 c_
      refine mg_iload_n C (i := 3) rfl 3 rfl dX12_filesNow_138 ?_
      refine mg_if_eq C 156 (by decide) dX12_filesNow_139 (fun c_ => ?_) (fun c_ => ?_)
      · have h := h.1 c_
        exact mg_sub [0, 1, 2, 3, 4, 6, 7, 8] rfl (sb_filesNow_156 C hR48 hR117 x1 x2 x3 x4 x6 x7 x8 v f g h)
      · have h := h.2 c_
        refine mg_aload_n C (i := 0) rfl 0 rfl dX12_filesNow_142 ?_
        refine mg_arr C 26 (by decide) (by decide) rfl mL_committedLive rfl dX12_filesNow_143 ?_
        refine mg_iload C 8 rfl dX12_filesNow_146 ?_
        obtain ⟨hc_148, h⟩ := h
        refine mg_baloadR C (n := 20200) 26 (by decide) (by decide) rfl rfl hc_148 dX12_filesNow_148 ?_
        refine mg_if_ne C 156 (by decide) dX12_filesNow_149 (fun c_ => ?_) (fun c_ => ?_)
        · have h := h.1 c_
          exact mg_sub [0, 1, 2, 3, 4, 6, 7, 8] rfl (sb_filesNow_156 C hR48 hR117 x1 x2 x3 x4 x6 x7 x8 v f g h)
        · have h := h.2 c_
          refine mg_iconst C (x := nI 1) rfl dX12_filesNow_152 ?_
          refine mg_goto C 157 (by decide) dX12_filesNow_153 ?_
          exact mg_sub [0, 1, 2, 3, 4, 6, 7, 8] rfl (sb_filesNow_157 C hR48 hR117 x1 x2 x3 x4 x6 x7 x8 ((nI 1)) v f g h)
set_option maxRecDepth 20000 in
theorem sl_filesNow_117 (C : mC p s m args meth c cX12_filesNow 9 (some .int) A D cI cJ cZ) {post : Int32 → mS → Prop} {R48 : Int32 → Int32 → (Nat → Int32) → (Nat → Nat → Int32) → (Nat → Nat → Int64) → Prop} (hR48 : ∀ (x1 : Int32) (x2 : Int32) (v : Nat → Int32) (f : Nat → Nat → Int32) (g : Nat → Nat → Int64), R48 x1 x2 v f g → mG p l e (mRm 1 24) s m args below meth c A D cI cJ cZ a 9 (MQ below (va_Qi post (mB D cI cJ cZ a) A) args s 0 0 A) 48 [(0, .ref (a 0)), (1, .int x1), (2, .int x2)] [] v f g) (x1 : Int32) (x2 : Int32) (x3 : Int32) (x4 : Int32) (x5 : Int32) (x6 : Int32) (x7 : Int32) (x8 : Int32) (v : Nat → Int32) (f : Nat → Nat → Int32) (g : Nat → Nat → Int64) (h : r_filesNow_117L (fun r v f g => post r (v, f, g)) R48 x1 x2 x3 x4 x5 x6 x7 x8 v f g) : mG p l e (mRm 1 24) s m args below meth c A D cI cJ cZ a 9 (MQ below (va_Qi post (mB D cI cJ cZ a) A) args s 0 0 A) 117 [(0, .ref (a 0)), (1, .int x1), (2, .int x2), (3, .int x3), (4, .int x4), (5, .int x5), (6, .int x6), (7, .int x7), (8, .int x8)] [] v f g :=
  h (fun y => mG p l e (mRm 1 24) s m args below meth c A D cI cJ cZ a 9 (MQ below (va_Qi post (mB D cI cJ cZ a) A) args s 0 0 A) 117 [(0, .ref (a 0)), (1, .int (y.1)), (2, .int (y.2.1)), (3, .int (y.2.2.1)), (4, .int (y.2.2.2.1)), (5, .int (y.2.2.2.2.1)), (6, .int (y.2.2.2.2.2.1)), (7, .int (y.2.2.2.2.2.2.1)), (8, .int (y.2.2.2.2.2.2.2.1))] [] (y.2.2.2.2.2.2.2.2.1) (y.2.2.2.2.2.2.2.2.2.1) (y.2.2.2.2.2.2.2.2.2.2)) (fun y hy => sb_filesNow_117 C hR48 (fun b0 b1 b2 b3 b4 b5 b6 b7 v f g z => z) (y.1) (y.2.1) (y.2.2.1) (y.2.2.2.1) (y.2.2.2.2.1) (y.2.2.2.2.2.1) (y.2.2.2.2.2.2.1) (y.2.2.2.2.2.2.2.1) (y.2.2.2.2.2.2.2.2.1) (y.2.2.2.2.2.2.2.2.2.1) (y.2.2.2.2.2.2.2.2.2.2) hy)
set_option maxRecDepth 20000 in
theorem sb_filesNow_100 (C : mC p s m args meth c cX12_filesNow 9 (some .int) A D cI cJ cZ) {post : Int32 → mS → Prop} {R48 : Int32 → Int32 → (Nat → Int32) → (Nat → Nat → Int32) → (Nat → Nat → Int64) → Prop} (hR48 : ∀ (x1 : Int32) (x2 : Int32) (v : Nat → Int32) (f : Nat → Nat → Int32) (g : Nat → Nat → Int64), R48 x1 x2 v f g → mG p l e (mRm 1 24) s m args below meth c A D cI cJ cZ a 9 (MQ below (va_Qi post (mB D cI cJ cZ a) A) args s 0 0 A) 48 [(0, .ref (a 0)), (1, .int x1), (2, .int x2)] [] v f g) (x2 : Int32) (x3 : Int32) (x4 : Int32) (t0 : Int32) (t1 : Int32) (v : Nat → Int32) (f : Nat → Nat → Int32) (g : Nat → Nat → Int64) (h : r_filesNow_100 (fun r v f g => post r (v, f, g)) R48 x2 x3 x4 t0 t1 v f g) : mG p l e (mRm 1 24) s m args below meth c A D cI cJ cZ a 9 (MQ below (va_Qi post (mB D cI cJ cZ a) A) args s 0 0 A) 100 [(0, .ref (a 0)), (2, .int x2), (3, .int x3), (4, .int x4)] [.int t0, .int t1] v f g := by
  unfold r_filesNow_100 at h
  refine mg_iadd C dX12_filesNow_100 ?_
  refine mg_nmI (fun x1_4 e_x1_4 => ?_)
  have h := h x1_4 e_x1_4
  refine mg_istore_n C (i := 1) (lv' := [(1, .int x1_4), (0, .ref (a 0)), (2, .int x2), (3, .int x3), (4, .int x4)]) rfl (Nat.le_of_ble_eq_true rfl) rfl dX12_filesNow_101 ?_
  refine mg_iconst C (x := nI 0) rfl dX12_filesNow_102 ?_
  refine mg_istore C (lv' := [(5, .int ((nI 0))), (1, .int x1_4), (0, .ref (a 0)), (2, .int x2), (3, .int x3), (4, .int x4)]) (Nat.le_of_ble_eq_true rfl) rfl dX12_filesNow_103 ?_
  refine mg_iconst C (x := nI 0) rfl dX12_filesNow_105 ?_
  refine mg_istore C (lv' := [(6, .int ((nI 0))), (5, .int ((nI 0))), (1, .int x1_4), (0, .ref (a 0)), (2, .int x2), (3, .int x3), (4, .int x4)]) (Nat.le_of_ble_eq_true rfl) rfl dX12_filesNow_106 ?_
  refine mg_iconst C (x := nI 1) rfl dX12_filesNow_108 ?_
  refine mg_istore C (lv' := [(7, .int ((nI 1))), (6, .int ((nI 0))), (5, .int ((nI 0))), (1, .int x1_4), (0, .ref (a 0)), (2, .int x2), (3, .int x3), (4, .int x4)]) (Nat.le_of_ble_eq_true rfl) rfl dX12_filesNow_109 ?_
  refine mg_bipush C (x := nI 100) rfl dX12_filesNow_111 ?_
  refine mg_iload_n C (i := 2) rfl 5 rfl dX12_filesNow_113 ?_
  refine mg_imul C dX12_filesNow_114 ?_
  refine mg_nmI (fun x8_5 e_x8_5 => ?_)
  have h := h x8_5 e_x8_5
  refine mg_istore C (lv' := [(8, .int x8_5), (7, .int ((nI 1))), (6, .int ((nI 0))), (5, .int ((nI 0))), (1, .int x1_4), (0, .ref (a 0)), (2, .int x2), (3, .int x3), (4, .int x4)]) (Nat.le_of_ble_eq_true rfl) rfl dX12_filesNow_115 ?_
  exact mg_sub [5, 4, 6, 7, 8, 3, 2, 1, 0] rfl (sl_filesNow_117 C hR48 x1_4 x2 x3 x4 (((nI 0))) (((nI 0))) (((nI 1))) x8_5 v f g h)
set_option maxRecDepth 20000 in
theorem sb_filesNow_48 (C : mC p s m args meth c cX12_filesNow 9 (some .int) A D cI cJ cZ) {post : Int32 → mS → Prop} {R48 : Int32 → Int32 → (Nat → Int32) → (Nat → Nat → Int32) → (Nat → Nat → Int64) → Prop} (hR48 : ∀ (x1 : Int32) (x2 : Int32) (v : Nat → Int32) (f : Nat → Nat → Int32) (g : Nat → Nat → Int64), R48 x1 x2 v f g → mG p l e (mRm 1 24) s m args below meth c A D cI cJ cZ a 9 (MQ below (va_Qi post (mB D cI cJ cZ a) A) args s 0 0 A) 48 [(0, .ref (a 0)), (1, .int x1), (2, .int x2)] [] v f g) (x1 : Int32) (x2 : Int32) (v : Nat → Int32) (f : Nat → Nat → Int32) (g : Nat → Nat → Int64) (h : r_filesNow_48 (fun r v f g => post r (v, f, g)) R48 x1 x2 v f g) : mG p l e (mRm 1 24) s m args below meth c A D cI cJ cZ a 9 (MQ below (va_Qi post (mB D cI cJ cZ a) A) args s 0 0 A) 48 [(0, .ref (a 0)), (1, .int x1), (2, .int x2)] [] v f g := by
  unfold r_filesNow_48 at h
  refine mg_iload_n C (i := 2) rfl 2 rfl dX12_filesNow_48 ?_
  refine mg_aload_n C (i := 0) rfl 0 rfl dX12_filesNow_49 ?_
  refine mg_getI C (k := 29) (by decide) rfl mL_made rfl dX12_filesNow_50 ?_
  refine mg_icmp_ge C 261 (by decide) dX12_filesNow_53 (fun c_ => ?_) (fun c_ => ?_)
  · have h := h.1 c_
    refine mg_iload_n C (i := 1) rfl 1 rfl dX12_filesNow_261 ?_
    exact mg_iret C h dX12_filesNow_262
  · have h := h.2 c_
    refine mg_aload_n C (i := 0) rfl 0 rfl dX12_filesNow_56 ?_
    refine mg_iload_n C (i := 2) rfl 2 rfl dX12_filesNow_57 ?_
    refine mg_calliW C (s_isInCommit l x2 v f g h) mCal_isInCommit rfl ⟨by decide, by decide⟩ rfl (Nat.le_of_ble_eq_true rfl) dX12_filesNow_58 (fun r_2 v_2 f_2 g_2 h => ?_)
    refine mg_istore_n C (i := 3) (lv' := [(3, .int r_2), (0, .ref (a 0)), (1, .int x1), (2, .int x2)]) rfl (Nat.le_of_ble_eq_true rfl) rfl dX12_filesNow_61 ?_
    refine mg_aload_n C (i := 0) rfl 1 rfl dX12_filesNow_62 ?_
    refine mg_iload_n C (i := 2) rfl 3 rfl dX12_filesNow_63 ?_
    refine mg_calliW C (s_isInPrepared l x2 v_2 f_2 g_2 h) mCal_isInPrepared rfl ⟨by decide, by decide⟩ rfl (Nat.le_of_ble_eq_true rfl) dX12_filesNow_64 (fun r_3 v_3 f_3 g_3 h => ?_)
    refine mg_istore C (lv' := [(4, .int r_3), (3, .int r_2), (0, .ref (a 0)), (1, .int x1), (2, .int x2)]) (Nat.le_of_ble_eq_true rfl) rfl dX12_filesNow_67 ?_
    refine mg_iload_n C (i := 1) rfl 3 rfl dX12_filesNow_69 ?_
    refine mg_iload_n C (i := 3) rfl 1 rfl dX12_filesNow_70 ?_
    refine mg_if_ne C 95 (by decide) dX12_filesNow_71 (fun c_ => ?_) (fun c_ => ?_)
    · have h := h.1 c_
      refine mg_iconst C (x := nI 1) rfl dX12_filesNow_95 ?_
      refine mg_goto C 100 (by decide) dX12_filesNow_96 ?_
      exact mg_sub [2, 4, 1, 0] rfl (sb_filesNow_100 C hR48 x2 r_2 r_3 ((nI 1)) x1 v_3 f_3 g_3 h)
    · have h := h.2 c_
      refine mg_iload C 0 rfl dX12_filesNow_74 ?_
      refine mg_if_ne C 95 (by decide) dX12_filesNow_76 (fun c_ => ?_) (fun c_ => ?_)
      · have h := h.1 c_
        refine mg_iconst C (x := nI 1) rfl dX12_filesNow_95 ?_
        refine mg_goto C 100 (by decide) dX12_filesNow_96 ?_
        exact mg_sub [2, 4, 1, 0] rfl (sb_filesNow_100 C hR48 x2 r_2 r_3 ((nI 1)) x1 v_3 f_3 g_3 h)
      · have h := h.2 c_
        refine mg_aload_n C (i := 0) rfl 2 rfl dX12_filesNow_79 ?_
        refine mg_iload_n C (i := 2) rfl 4 rfl dX12_filesNow_80 ?_
        refine mg_calliW C (s_isInIndex l x2 v_3 f_3 g_3 h) mCal_isInIndex rfl ⟨by decide, by decide⟩ rfl (Nat.le_of_ble_eq_true rfl) dX12_filesNow_81 (fun r_9 v_9 f_9 g_9 h => ?_)
        refine mg_if_ne C 95 (by decide) dX12_filesNow_84 (fun c_ => ?_) (fun c_ => ?_)
        · have h := h.1 c_
          refine mg_iconst C (x := nI 1) rfl dX12_filesNow_95 ?_
          refine mg_goto C 100 (by decide) dX12_filesNow_96 ?_
          exact mg_sub [2, 4, 1, 0] rfl (sb_filesNow_100 C hR48 x2 r_2 r_3 ((nI 1)) x1 v_9 f_9 g_9 h)
        · have h := h.2 c_
          refine mg_aload_n C (i := 0) rfl 2 rfl dX12_filesNow_87 ?_
          refine mg_iload_n C (i := 2) rfl 4 rfl dX12_filesNow_88 ?_
          refine mg_calliW C (s_isInLooks l x2 v_9 f_9 g_9 h) mCal_isInLooks rfl ⟨by decide, by decide⟩ rfl (Nat.le_of_ble_eq_true rfl) dX12_filesNow_89 (fun r_10 v_10 f_10 g_10 h => ?_)
          refine mg_if_eq C 99 (by decide) dX12_filesNow_92 (fun c_ => ?_) (fun c_ => ?_)
          · have h := h.1 c_
            refine mg_iconst C (x := nI 0) rfl dX12_filesNow_99 ?_
            exact mg_sub [2, 4, 1, 0] rfl (sb_filesNow_100 C hR48 x2 r_2 r_3 ((nI 0)) x1 v_10 f_10 g_10 h)
          · have h := h.2 c_
            refine mg_iconst C (x := nI 1) rfl dX12_filesNow_95 ?_
            refine mg_goto C 100 (by decide) dX12_filesNow_96 ?_
            exact mg_sub [2, 4, 1, 0] rfl (sb_filesNow_100 C hR48 x2 r_2 r_3 ((nI 1)) x1 v_10 f_10 g_10 h)
set_option maxRecDepth 20000 in
theorem sl_filesNow_48 (C : mC p s m args meth c cX12_filesNow 9 (some .int) A D cI cJ cZ) {post : Int32 → mS → Prop}   (x1 : Int32) (x2 : Int32) (v : Nat → Int32) (f : Nat → Nat → Int32) (g : Nat → Nat → Int64) (h : r_filesNow_48L (fun r v f g => post r (v, f, g))  x1 x2 v f g) : mG p l e (mRm 1 24) s m args below meth c A D cI cJ cZ a 9 (MQ below (va_Qi post (mB D cI cJ cZ a) A) args s 0 0 A) 48 [(0, .ref (a 0)), (1, .int x1), (2, .int x2)] [] v f g :=
  h (fun y => mG p l e (mRm 1 24) s m args below meth c A D cI cJ cZ a 9 (MQ below (va_Qi post (mB D cI cJ cZ a) A) args s 0 0 A) 48 [(0, .ref (a 0)), (1, .int (y.1)), (2, .int (y.2.1))] [] (y.2.2.1) (y.2.2.2.1) (y.2.2.2.2)) (fun y hy => sb_filesNow_48 C  (fun b0 b1 v f g z => z) (y.1) (y.2.1) (y.2.2.1) (y.2.2.2.1) (y.2.2.2.2) hy)
set_option maxRecDepth 20000 in
theorem sb_filesNow_44 (C : mC p s m args meth c cX12_filesNow 9 (some .int) A D cI cJ cZ) {post : Int32 → mS → Prop}   (t0 : Int32) (t1 : Int32) (v : Nat → Int32) (f : Nat → Nat → Int32) (g : Nat → Nat → Int64) (h : r_filesNow_44 (fun r v f g => post r (v, f, g))  t0 t1 v f g) : mG p l e (mRm 1 24) s m args below meth c A D cI cJ cZ a 9 (MQ below (va_Qi post (mB D cI cJ cZ a) A) args s 0 0 A) 44 [(0, .ref (a 0))] [.int t0, .int t1] v f g := by
  unfold r_filesNow_44 at h
  refine mg_iadd C dX12_filesNow_44 ?_
  refine mg_nmI (fun x1_1 e_x1_1 => ?_)
  have h := h x1_1 e_x1_1
  refine mg_istore_n C (i := 1) (lv' := [(1, .int x1_1), (0, .ref (a 0))]) rfl (Nat.le_of_ble_eq_true rfl) rfl dX12_filesNow_45 ?_
  refine mg_iconst C (x := nI 0) rfl dX12_filesNow_46 ?_
  refine mg_istore_n C (i := 2) (lv' := [(2, .int ((nI 0))), (1, .int x1_1), (0, .ref (a 0))]) rfl (Nat.le_of_ble_eq_true rfl) rfl dX12_filesNow_47 ?_
  exact mg_sub [2, 1, 0] rfl (sl_filesNow_48 C  x1_1 (((nI 0))) v f g h)
set_option maxRecDepth 20000 in
theorem sb_filesNow_43 (C : mC p s m args meth c cX12_filesNow 9 (some .int) A D cI cJ cZ) {post : Int32 → mS → Prop}   (t0 : Int32) (v : Nat → Int32) (f : Nat → Nat → Int32) (g : Nat → Nat → Int64) (h : r_filesNow_43 (fun r v f g => post r (v, f, g))  t0 v f g) : mG p l e (mRm 1 24) s m args below meth c A D cI cJ cZ a 9 (MQ below (va_Qi post (mB D cI cJ cZ a) A) args s 0 0 A) 43 [(0, .ref (a 0))] [.int t0] v f g := by
  unfold r_filesNow_43 at h
  refine mg_iconst C (x := nI 0) rfl dX12_filesNow_43 ?_
  exact mg_sub [0] rfl (sb_filesNow_44 C  ((nI 0)) t0 v f g h)
set_option maxRecDepth 20000 in
theorem sb_filesNow_24 (C : mC p s m args meth c cX12_filesNow 9 (some .int) A D cI cJ cZ) {post : Int32 → mS → Prop}   (t0 : Int32) (t1 : Int32) (v : Nat → Int32) (f : Nat → Nat → Int32) (g : Nat → Nat → Int64) (h : r_filesNow_24 (fun r v f g => post r (v, f, g))  t0 t1 v f g) : mG p l e (mRm 1 24) s m args below meth c A D cI cJ cZ a 9 (MQ below (va_Qi post (mB D cI cJ cZ a) A) args s 0 0 A) 24 [(0, .ref (a 0))] [.int t0, .int t1] v f g := by
  unfold r_filesNow_24 at h
  refine mg_iadd C dX12_filesNow_24 ?_
  refine mg_aload_n C (i := 0) rfl 0 rfl dX12_filesNow_25 ?_
  refine mg_getI C (k := 49) (by decide) rfl mL_merging rfl dX12_filesNow_26 ?_
  refine mg_if_eq C 43 (by decide) dX12_filesNow_29 (fun c_ => ?_) (fun c_ => ?_)
  · have h := h.1 c_
    exact mg_sub [0] rfl (sb_filesNow_43 C  ((t1 + t0)) v f g h)
  · have h := h.2 c_
    refine mg_aload_n C (i := 0) rfl 0 rfl dX12_filesNow_32 ?_
    refine mg_getI C (k := 53) (by decide) rfl mL_copied rfl dX12_filesNow_33 ?_
    refine mg_if_le C 43 (by decide) dX12_filesNow_36 (fun c_ => ?_) (fun c_ => ?_)
    · have h := h.1 c_
      exact mg_sub [0] rfl (sb_filesNow_43 C  ((t1 + t0)) v f g h)
    · have h := h.2 c_
      refine mg_iconst C (x := nI 1) rfl dX12_filesNow_39 ?_
      refine mg_goto C 44 (by decide) dX12_filesNow_40 ?_
      exact mg_sub [0] rfl (sb_filesNow_44 C  ((nI 1)) ((t1 + t0)) v f g h)
set_option maxRecDepth 20000 in
theorem sb_filesNow_12 (C : mC p s m args meth c cX12_filesNow 9 (some .int) A D cI cJ cZ) {post : Int32 → mS → Prop}   (t0 : Int32) (v : Nat → Int32) (f : Nat → Nat → Int32) (g : Nat → Nat → Int64) (h : r_filesNow_12 (fun r v f g => post r (v, f, g))  t0 v f g) : mG p l e (mRm 1 24) s m args below meth c A D cI cJ cZ a 9 (MQ below (va_Qi post (mB D cI cJ cZ a) A) args s 0 0 A) 12 [(0, .ref (a 0))] [.int t0] v f g := by
  unfold r_filesNow_12 at h
  refine mg_aload_n C (i := 0) rfl 0 rfl dX12_filesNow_12 ?_
  refine mg_getI C (k := 40) (by decide) rfl mL_isPrepared rfl dX12_filesNow_13 ?_
  refine mg_if_eq C 23 (by decide) dX12_filesNow_16 (fun c_ => ?_) (fun c_ => ?_)
  · have h := h.1 c_
    refine mg_iconst C (x := nI 0) rfl dX12_filesNow_23 ?_
    exact mg_sub [0] rfl (sb_filesNow_24 C  ((nI 0)) t0 v f g h)
  · have h := h.2 c_
    refine mg_iconst C (x := nI 1) rfl dX12_filesNow_19 ?_
    refine mg_goto C 24 (by decide) dX12_filesNow_20 ?_
    exact mg_sub [0] rfl (sb_filesNow_24 C  ((nI 1)) t0 v f g h)
end S_filesNow
set_option maxHeartbeats 1000000 in
set_option maxRecDepth 20000 in
theorem s_filesNow (l : Launch)  (v : Nat → Int32) (f : Nat → Nat → Int32) (g : Nat → Nat → Int64) {P : Int32 → (Nat → Int32) → (Nat → Nat → Int32) → (Nat → Nat → Int64) → Prop} (h : r_filesNow P  v f g) : mMi l yX12_filesNow cX12_filesNow 9 (some .int) 1 24 false [] v f g (fun r w => P r w.1 w.2.1 w.2.2) := by
  intro D cI cJ cZ a sz
  refine mg_body (by decide +kernel) rfl (Nat.le_of_ble_eq_true rfl) ?_
  intro p e s m args below meth c hsz C
  clear hsz
  generalize va_A (mW cI cJ cZ a v f g) sz = A at C ⊢
  refine mg_lv (lv' := [(0, .ref (a 0))]) rfl ?_
  unfold r_filesNow at h
  refine mg_aload_n C (i := 0) rfl 0 rfl dX12_filesNow_0 ?_
  refine mg_getI C (k := 35) (by decide) rfl mL_isCommitted rfl dX12_filesNow_1 ?_
  refine mg_if_eq C 11 (by decide) dX12_filesNow_4 (fun c_ => ?_) (fun c_ => ?_)
  · have h := h.1 c_
    refine mg_iconst C (x := nI 0) rfl dX12_filesNow_11 ?_
    exact mg_sub [0] rfl (sb_filesNow_12 C  ((nI 0)) v f g h)
  · have h := h.2 c_
    refine mg_iconst C (x := nI 1) rfl dX12_filesNow_7 ?_
    refine mg_goto C 12 (by decide) dX12_filesNow_8 ?_
    exact mg_sub [0] rfl (sb_filesNow_12 C  ((nI 1)) v f g h)
def r_files_13 (Q : Int32 → (Nat → Int32) → (Nat → Nat → Int32) → (Nat → Nat → Int64) → Prop)  (t0 : Int32) (v : Nat → Int32) (f : Nat → Nat → Int32) (g : Nat → Nat → Int64) : Prop :=
r_goes (fun r_1 v_1 f_1 g_1 => 
((r_1 = 0 →
  Q ((nI 0)) v_1 f_1 g_1) ∧
 (¬ r_1 = 0 →
  r_filesNow (fun r_2 v_2 f_2 g_2 => 
  Q r_2 v_2 f_2 g_2)  v_1 f_1 g_1))) t0 ((nI 1)) ((nI 1)) v f g
def r_files (Q : Int32 → (Nat → Int32) → (Nat → Nat → Int32) → (Nat → Nat → Int64) → Prop)  (v : Nat → Int32) (f : Nat → Nat → Int32) (g : Nat → Nat → Int64) : Prop :=
((¬ ((v 98)) = 0 →
  r_files_13 Q  ((nI 0)) v f g) ∧
 (((v 98)) = 0 →
  r_files_13 Q  ((nI 1)) v f g))
section S_files
variable {p : Program} {l : Launch} {e : Env} {s : State} {m : MethodId} {args : Array Value} {below : List Frame} {meth : Method} {c : Code} {A : Nat → Prop} {D : va_G} {cI cJ cZ : ClassId} {a : Nat → Nat}
set_option maxRecDepth 20000 in
theorem sb_files_13 (C : mC p s m args meth c cX12_files 1 (some .int) A D cI cJ cZ) {post : Int32 → mS → Prop}   (t0 : Int32) (v : Nat → Int32) (f : Nat → Nat → Int32) (g : Nat → Nat → Int64) (h : r_files_13 (fun r v f g => post r (v, f, g))  t0 v f g) : mG p l e (mRm 2 52) s m args below meth c A D cI cJ cZ a 1 (MQ below (va_Qi post (mB D cI cJ cZ a) A) args s 0 0 A) 13 [(0, .ref (a 0))] [.int t0, .ref (a 0)] v f g := by
  unfold r_files_13 at h
  refine mg_iconst C (x := nI 1) rfl dX12_files_13 ?_
  refine mg_iconst C (x := nI 1) rfl dX12_files_14 ?_
  refine mg_calliW C (s_goes l t0 ((nI 1)) ((nI 1)) v f g h) mCal_goes rfl ⟨by decide, by decide⟩ rfl (Nat.le_of_ble_eq_true rfl) dX12_files_15 (fun r_1 v_1 f_1 g_1 h => ?_)
  refine mg_if_eq C 28 (by decide) dX12_files_18 (fun c_ => ?_) (fun c_ => ?_)
  · have h := h.1 c_
    refine mg_iconst C (x := nI 0) rfl dX12_files_28 ?_
    exact mg_iret C h dX12_files_29
  · have h := h.2 c_
    refine mg_aload_n C (i := 0) rfl 0 rfl dX12_files_21 ?_
    refine mg_calliW C (s_filesNow l  v_1 f_1 g_1 h) mCal_filesNow rfl ⟨by decide, by decide⟩ rfl (Nat.le_of_ble_eq_true rfl) dX12_files_22 (fun r_2 v_2 f_2 g_2 h => ?_)
    refine mg_goto C 29 (by decide) dX12_files_25 ?_
    exact mg_iret C h dX12_files_29
end S_files
set_option maxHeartbeats 1000000 in
set_option maxRecDepth 20000 in
theorem s_files (l : Launch)  (v : Nat → Int32) (f : Nat → Nat → Int32) (g : Nat → Nat → Int64) {P : Int32 → (Nat → Int32) → (Nat → Nat → Int32) → (Nat → Nat → Int64) → Prop} (h : r_files P  v f g) : mMi l yX12_files cX12_files 1 (some .int) 2 52 false [] v f g (fun r w => P r w.1 w.2.1 w.2.2) := by
  intro D cI cJ cZ a sz
  refine mg_body (by decide +kernel) rfl (Nat.le_of_ble_eq_true rfl) ?_
  intro p e s m args below meth c hsz C
  clear hsz
  generalize va_A (mW cI cJ cZ a v f g) sz = A at C ⊢
  refine mg_lv (lv' := [(0, .ref (a 0))]) rfl ?_
  unfold r_files at h
  refine mg_aload_n C (i := 0) rfl 0 rfl dX12_files_0 ?_
  refine mg_aload_n C (i := 0) rfl 0 rfl dX12_files_1 ?_
  refine mg_getI C (k := 98) (by decide) rfl mL_down rfl dX12_files_2 ?_
  refine mg_if_ne C 12 (by decide) dX12_files_5 (fun c_ => ?_) (fun c_ => ?_)
  · have h := h.1 c_
    refine mg_iconst C (x := nI 0) rfl dX12_files_12 ?_
    exact mg_sub [0] rfl (sb_files_13 C  ((nI 0)) v f g h)
  · have h := h.2 c_
    refine mg_iconst C (x := nI 1) rfl dX12_files_8 ?_
    refine mg_goto C 13 (by decide) dX12_files_9 ?_
    exact mg_sub [0] rfl (sb_files_13 C  ((nI 1)) v f g h)
def r_writes (Q : Int32 → (Nat → Int32) → (Nat → Nat → Int32) → (Nat → Nat → Int64) → Prop)  (v : Nat → Int32) (f : Nat → Nat → Int32) (g : Nat → Nat → Int64) : Prop :=
∀ v1 : Nat → Int32, v1 = upd v 99 ((nI 0)) → Q ((v1 96)) v1 f g
set_option maxHeartbeats 1000000 in
set_option maxRecDepth 20000 in
theorem s_writes (l : Launch)  (v : Nat → Int32) (f : Nat → Nat → Int32) (g : Nat → Nat → Int64) {P : Int32 → (Nat → Int32) → (Nat → Nat → Int32) → (Nat → Nat → Int64) → Prop} (h : r_writes P  v f g) : mMi l yX12_writes cX12_writes 1 (some .int) 0 0 false [] v f g (fun r w => P r w.1 w.2.1 w.2.2) := by
  intro D cI cJ cZ a sz
  refine mg_body (by decide +kernel) rfl (Nat.le_of_ble_eq_true rfl) ?_
  intro p e s m args below meth c hsz C
  clear hsz
  generalize va_A (mW cI cJ cZ a v f g) sz = A at C ⊢
  refine mg_lv (lv' := [(0, .ref (a 0))]) rfl ?_
  unfold r_writes at h
  refine mg_aload_n C (i := 0) rfl 0 rfl dX12_writes_0 ?_
  refine mg_iconst C (x := nI 0) rfl dX12_writes_1 ?_
  refine mg_put C (k := 99) (by decide) rfl mL_last rfl (by decide +kernel) mT_last rfl rfl dX12_writes_2 ?_
  refine mg_nmV (fun v1 e_v1 => ?_)
  have h := h v1 e_v1
  refine mg_aload_n C (i := 0) rfl 0 rfl dX12_writes_5 ?_
  refine mg_getI C (k := 96) (by decide) rfl mL_writes rfl dX12_writes_6 ?_
  exact mg_iret C h dX12_writes_9
def r_isPlace (Q : Int32 → (Nat → Int32) → (Nat → Nat → Int32) → (Nat → Nat → Int64) → Prop) (x1 : Int32) (v : Nat → Int32) (f : Nat → Nat → Int32) (g : Nat → Nat → Int64) : Prop :=
((¬ ((v 98)) = 0 →
  Q ((bI false)) v f g) ∧
 (((v 98)) = 0 →
  r_in (fun r_1 v_1 f_1 g_1 => 
  ((r_1 = 0 →
    Q ((bI false)) v_1 f_1 g_1) ∧
   (¬ r_1 = 0 →
    Q ((bI true)) v_1 f_1 g_1))) x1 ((nI 0)) ((((v 34)) - ((nI 1)))) v f g))
set_option maxHeartbeats 1000000 in
set_option maxRecDepth 20000 in
theorem s_isPlace (l : Launch) (x1 : Int32) (v : Nat → Int32) (f : Nat → Nat → Int32) (g : Nat → Nat → Int64) {P : Int32 → (Nat → Int32) → (Nat → Nat → Int32) → (Nat → Nat → Int64) → Prop} (h : r_isPlace P x1 v f g) : mMi l yX12_isPlace cX12_isPlace 2 (some .boolean) 1 22 false [.int x1] v f g (fun r w => P r w.1 w.2.1 w.2.2) := by
  intro D cI cJ cZ a sz
  refine mg_body (by decide +kernel) rfl (Nat.le_of_ble_eq_true rfl) ?_
  intro p e s m args below meth c hsz C
  clear hsz
  generalize va_A (mW cI cJ cZ a v f g) sz = A at C ⊢
  refine mg_lv (lv' := [(0, .ref (a 0)), (1, .int x1)]) rfl ?_
  unfold r_isPlace at h
  refine mg_aload_n C (i := 0) rfl 0 rfl dX12_isPlace_0 ?_
  refine mg_getI C (k := 98) (by decide) rfl mL_down rfl dX12_isPlace_1 ?_
  refine mg_if_ne C 25 (by decide) dX12_isPlace_4 (fun c_ => ?_) (fun c_ => ?_)
  · have h := h.1 c_
    refine mg_iconst C (x := nI 0) rfl dX12_isPlace_25 ?_
    refine mg_cast (bI false) rfl ?_
    exact mg_zret C (bI_nar _) h dX12_isPlace_26
  · have h := h.2 c_
    refine mg_iload_n C (i := 1) rfl 1 rfl dX12_isPlace_7 ?_
    refine mg_iconst C (x := nI 0) rfl dX12_isPlace_8 ?_
    refine mg_aload_n C (i := 0) rfl 0 rfl dX12_isPlace_9 ?_
    refine mg_getI C (k := 34) (by decide) rfl mL_indexed rfl dX12_isPlace_10 ?_
    refine mg_iconst C (x := nI 1) rfl dX12_isPlace_13 ?_
    refine mg_isub C dX12_isPlace_14 ?_
    refine mg_callsiW C (s_in l x1 ((nI 0)) ((((v 34)) - ((nI 1)))) v f g h) mCal_in rfl ⟨by decide, by decide⟩ rfl (Nat.le_of_ble_eq_true rfl) dX12_isPlace_15 (fun r_1 v_1 f_1 g_1 h => ?_)
    refine mg_if_eq C 25 (by decide) dX12_isPlace_18 (fun c_ => ?_) (fun c_ => ?_)
    · have h := h.1 c_
      refine mg_iconst C (x := nI 0) rfl dX12_isPlace_25 ?_
      refine mg_cast (bI false) rfl ?_
      exact mg_zret C (bI_nar _) h dX12_isPlace_26
    · have h := h.2 c_
      refine mg_iconst C (x := nI 1) rfl dX12_isPlace_21 ?_
      refine mg_goto C 26 (by decide) dX12_isPlace_22 ?_
      refine mg_cast (bI true) rfl ?_
      exact mg_zret C (bI_nar _) h dX12_isPlace_26
def r_segments_13 (Q : Int32 → (Nat → Int32) → (Nat → Nat → Int32) → (Nat → Nat → Int64) → Prop)  (t0 : Int32) (v : Nat → Int32) (f : Nat → Nat → Int32) (g : Nat → Nat → Int64) : Prop :=
r_goes (fun r_1 v_1 f_1 g_1 => 
((r_1 = 0 →
  Q ((nI 0)) v_1 f_1 g_1) ∧
 (¬ r_1 = 0 →
  Q ((v_1 34)) v_1 f_1 g_1))) t0 ((nI 1)) ((nI 1)) v f g
def r_segments (Q : Int32 → (Nat → Int32) → (Nat → Nat → Int32) → (Nat → Nat → Int64) → Prop)  (v : Nat → Int32) (f : Nat → Nat → Int32) (g : Nat → Nat → Int64) : Prop :=
((¬ ((v 98)) = 0 →
  r_segments_13 Q  ((nI 0)) v f g) ∧
 (((v 98)) = 0 →
  r_segments_13 Q  ((nI 1)) v f g))
section S_segments
variable {p : Program} {l : Launch} {e : Env} {s : State} {m : MethodId} {args : Array Value} {below : List Frame} {meth : Method} {c : Code} {A : Nat → Prop} {D : va_G} {cI cJ cZ : ClassId} {a : Nat → Nat}
set_option maxRecDepth 20000 in
theorem sb_segments_13 (C : mC p s m args meth c cX12_segments 1 (some .int) A D cI cJ cZ) {post : Int32 → mS → Prop}   (t0 : Int32) (v : Nat → Int32) (f : Nat → Nat → Int32) (g : Nat → Nat → Int64) (h : r_segments_13 (fun r v f g => post r (v, f, g))  t0 v f g) : mG p l e (mRm 1 23) s m args below meth c A D cI cJ cZ a 1 (MQ below (va_Qi post (mB D cI cJ cZ a) A) args s 0 0 A) 13 [(0, .ref (a 0))] [.int t0, .ref (a 0)] v f g := by
  unfold r_segments_13 at h
  refine mg_iconst C (x := nI 1) rfl dX12_segments_13 ?_
  refine mg_iconst C (x := nI 1) rfl dX12_segments_14 ?_
  refine mg_calliW C (s_goes l t0 ((nI 1)) ((nI 1)) v f g h) mCal_goes rfl ⟨by decide, by decide⟩ rfl (Nat.le_of_ble_eq_true rfl) dX12_segments_15 (fun r_1 v_1 f_1 g_1 h => ?_)
  refine mg_if_eq C 28 (by decide) dX12_segments_18 (fun c_ => ?_) (fun c_ => ?_)
  · have h := h.1 c_
    refine mg_iconst C (x := nI 0) rfl dX12_segments_28 ?_
    exact mg_iret C h dX12_segments_29
  · have h := h.2 c_
    refine mg_aload_n C (i := 0) rfl 0 rfl dX12_segments_21 ?_
    refine mg_getI C (k := 34) (by decide) rfl mL_indexed rfl dX12_segments_22 ?_
    refine mg_goto C 29 (by decide) dX12_segments_25 ?_
    exact mg_iret C h dX12_segments_29
end S_segments
set_option maxHeartbeats 1000000 in
set_option maxRecDepth 20000 in
theorem s_segments (l : Launch)  (v : Nat → Int32) (f : Nat → Nat → Int32) (g : Nat → Nat → Int64) {P : Int32 → (Nat → Int32) → (Nat → Nat → Int32) → (Nat → Nat → Int64) → Prop} (h : r_segments P  v f g) : mMi l yX12_segments cX12_segments 1 (some .int) 1 23 false [] v f g (fun r w => P r w.1 w.2.1 w.2.2) := by
  intro D cI cJ cZ a sz
  refine mg_body (by decide +kernel) rfl (Nat.le_of_ble_eq_true rfl) ?_
  intro p e s m args below meth c hsz C
  clear hsz
  generalize va_A (mW cI cJ cZ a v f g) sz = A at C ⊢
  refine mg_lv (lv' := [(0, .ref (a 0))]) rfl ?_
  unfold r_segments at h
  refine mg_aload_n C (i := 0) rfl 0 rfl dX12_segments_0 ?_
  refine mg_aload_n C (i := 0) rfl 0 rfl dX12_segments_1 ?_
  refine mg_getI C (k := 98) (by decide) rfl mL_down rfl dX12_segments_2 ?_
  refine mg_if_ne C 12 (by decide) dX12_segments_5 (fun c_ => ?_) (fun c_ => ?_)
  · have h := h.1 c_
    refine mg_iconst C (x := nI 0) rfl dX12_segments_12 ?_
    exact mg_sub [0] rfl (sb_segments_13 C  ((nI 0)) v f g h)
  · have h := h.2 c_
    refine mg_iconst C (x := nI 1) rfl dX12_segments_8 ?_
    refine mg_goto C 13 (by decide) dX12_segments_9 ?_
    exact mg_sub [0] rfl (sb_segments_13 C  ((nI 1)) v f g h)
def r_segmentAt (Q : Int32 → (Nat → Int32) → (Nat → Nat → Int32) → (Nat → Nat → Int64) → Prop) (x1 : Int32) (v : Nat → Int32) (f : Nat → Nat → Int32) (g : Nat → Nat → Int64) : Prop :=
r_isPlace (fun r_1 v_1 f_1 g_1 => 
r_goes (fun r_2 v_2 f_2 g_2 => 
((r_2 = 0 →
  Q ((nI 0)) v_2 f_2 g_2) ∧
 (¬ r_2 = 0 →
  vp_in x1 202 ∧ (Q ((f_2 24 (x1).toNatClampNeg)) v_2 f_2 g_2)))) r_1 ((nI 1)) ((nI 1)) v_1 f_1 g_1) x1 v f g
set_option maxHeartbeats 1000000 in
set_option maxRecDepth 20000 in
theorem s_segmentAt (l : Launch) (x1 : Int32) (v : Nat → Int32) (f : Nat → Nat → Int32) (g : Nat → Nat → Int64) {P : Int32 → (Nat → Int32) → (Nat → Nat → Int32) → (Nat → Nat → Int64) → Prop} (h : r_segmentAt P x1 v f g) : mMi l yX12_segmentAt cX12_segmentAt 2 (some .int) 2 43 false [.int x1] v f g (fun r w => P r w.1 w.2.1 w.2.2) := by
  intro D cI cJ cZ a sz
  refine mg_body (by decide +kernel) rfl (Nat.le_of_ble_eq_true rfl) ?_
  intro p e s m args below meth c hsz C
  clear hsz
  generalize va_A (mW cI cJ cZ a v f g) sz = A at C ⊢
  refine mg_lv (lv' := [(0, .ref (a 0)), (1, .int x1)]) rfl ?_
  unfold r_segmentAt at h
  refine mg_aload_n C (i := 0) rfl 0 rfl dX12_segmentAt_0 ?_
  refine mg_aload_n C (i := 0) rfl 0 rfl dX12_segmentAt_1 ?_
  refine mg_iload_n C (i := 1) rfl 1 rfl dX12_segmentAt_2 ?_
  refine mg_calliW C (s_isPlace l x1 v f g h) mCal_isPlace rfl ⟨by decide, by decide⟩ rfl (Nat.le_of_ble_eq_true rfl) dX12_segmentAt_3 (fun r_1 v_1 f_1 g_1 h => ?_)
  refine mg_iconst C (x := nI 1) rfl dX12_segmentAt_6 ?_
  refine mg_iconst C (x := nI 1) rfl dX12_segmentAt_7 ?_
  refine mg_calliW C (s_goes l r_1 ((nI 1)) ((nI 1)) v_1 f_1 g_1 h) mCal_goes rfl ⟨by decide, by decide⟩ rfl (Nat.le_of_ble_eq_true rfl) dX12_segmentAt_8 (fun r_2 v_2 f_2 g_2 h => ?_)
  refine mg_if_eq C 23 (by decide) dX12_segmentAt_11 (fun c_ => ?_) (fun c_ => ?_)
  · have h := h.1 c_
    refine mg_iconst C (x := nI 0) rfl dX12_segmentAt_23 ?_
    exact mg_iret C h dX12_segmentAt_24
  · have h := h.2 c_
    refine mg_aload_n C (i := 0) rfl 0 rfl dX12_segmentAt_14 ?_
    refine mg_arr C 24 (by decide) (by decide) rfl mL_index rfl dX12_segmentAt_15 ?_
    refine mg_iload_n C (i := 1) rfl 1 rfl dX12_segmentAt_18 ?_
    obtain ⟨hc_19, h⟩ := h
    refine mg_ialoadR C (n := 202) 24 (by decide) (by decide) rfl rfl hc_19 dX12_segmentAt_19 ?_
    refine mg_goto C 24 (by decide) dX12_segmentAt_20 ?_
    exact mg_iret C h dX12_segmentAt_24
def r_live_63 (Q : Int32 → (Nat → Int32) → (Nat → Nat → Int32) → (Nat → Nat → Int64) → Prop) (R17 : Int32 → Int32 → Int32 → Int32 → (Nat → Int32) → (Nat → Nat → Int32) → (Nat → Nat → Int64) → Prop) (x1 : Int32) (x3 : Int32) (x4 : Int32) (t0 : Int32) (t1 : Int32) (v : Nat → Int32) (f : Nat → Nat → Int32) (g : Nat → Nat → Int64) : Prop :=
∀ x2_3 : Int32, x2_3 = (t1 + t0) → ∀ x4_4 : Int32, x4_4 = x4 + nI 1 → R17 x1 x2_3 x3 x4_4 v f g
def r_live_17 (Q : Int32 → (Nat → Int32) → (Nat → Nat → Int32) → (Nat → Nat → Int64) → Prop) (R17 : Int32 → Int32 → Int32 → Int32 → (Nat → Int32) → (Nat → Nat → Int32) → (Nat → Nat → Int64) → Prop) (x1 : Int32) (x2 : Int32) (x3 : Int32) (x4 : Int32) (v : Nat → Int32) (f : Nat → Nat → Int32) (g : Nat → Nat → Int64) : Prop :=
((x3 = 0 →
  Q x2 v f g) ∧
 (¬ x3 = 0 →
  vp_in x1 202 ∧ (vp_in ((f 24 (x1).toNatClampNeg)) 202 ∧ (((((f 20 ((f 24 (x1).toNatClampNeg)).toNatClampNeg)) ≤ x4 →
    Q x2 v f g) ∧
   (¬ ((f 20 ((f 24 (x1).toNatClampNeg)).toNatClampNeg)) ≤ x4 →
    vp_in x1 202 ∧ (vp_in ((((((nI 100)) * ((f 24 (x1).toNatClampNeg)))) + x4)) 20200 ∧ (((((f 21 ((((((nI 100)) * ((f 24 (x1).toNatClampNeg)))) + x4)).toNatClampNeg)) = 0 →
      r_live_63 Q R17 x1 x3 x4 ((nI 0)) x2 v f g) ∧
     (¬ ((f 21 ((((((nI 100)) * ((f 24 (x1).toNatClampNeg)))) + x4)).toNatClampNeg)) = 0 →
      r_live_63 Q R17 x1 x3 x4 ((nI 1)) x2 v f g))))))))))
def r_live_17L (Q : Int32 → (Nat → Int32) → (Nat → Nat → Int32) → (Nat → Nat → Int64) → Prop)  (x1 : Int32) (x2 : Int32) (x3 : Int32) (x4 : Int32) (v : Nat → Int32) (f : Nat → Nat → Int32) (g : Nat → Nat → Int64) : Prop :=
  lfp (X := Int32 × Int32 × Int32 × Int32 × (Nat → Int32) × (Nat → Nat → Int32) × (Nat → Nat → Int64)) (fun P y => r_live_17 Q  (fun b0 b1 b2 b3 v f g => P (b0, b1, b2, b3, v, f, g)) y.1 y.2.1 y.2.2.1 y.2.2.2.1 y.2.2.2.2.1 y.2.2.2.2.2.1 y.2.2.2.2.2.2) (x1, x2, x3, x4, v, f, g)
def r_live (Q : Int32 → (Nat → Int32) → (Nat → Nat → Int32) → (Nat → Nat → Int64) → Prop) (x1 : Int32) (v : Nat → Int32) (f : Nat → Nat → Int32) (g : Nat → Nat → Int64) : Prop :=
r_isPlace (fun r_1 v_1 f_1 g_1 => 
r_goes (fun r_2 v_2 f_2 g_2 => 
r_live_17L Q  x1 (((nI 0))) r_2 (((nI 0))) v_2 f_2 g_2) r_1 ((nI 1)) ((nI 1)) v_1 f_1 g_1) x1 v f g
section S_live
variable {p : Program} {l : Launch} {e : Env} {s : State} {m : MethodId} {args : Array Value} {below : List Frame} {meth : Method} {c : Code} {A : Nat → Prop} {D : va_G} {cI cJ cZ : ClassId} {a : Nat → Nat}
set_option maxRecDepth 20000 in
theorem sb_live_63 (C : mC p s m args meth c cX12_live 5 (some .int) A D cI cJ cZ) {post : Int32 → mS → Prop} {R17 : Int32 → Int32 → Int32 → Int32 → (Nat → Int32) → (Nat → Nat → Int32) → (Nat → Nat → Int64) → Prop} (hR17 : ∀ (x1 : Int32) (x2 : Int32) (x3 : Int32) (x4 : Int32) (v : Nat → Int32) (f : Nat → Nat → Int32) (g : Nat → Nat → Int64), R17 x1 x2 x3 x4 v f g → mG p l e (mRm 2 43) s m args below meth c A D cI cJ cZ a 5 (MQ below (va_Qi post (mB D cI cJ cZ a) A) args s 0 0 A) 17 [(0, .ref (a 0)), (1, .int x1), (2, .int x2), (3, .int x3), (4, .int x4)] [] v f g) (x1 : Int32) (x3 : Int32) (x4 : Int32) (t0 : Int32) (t1 : Int32) (v : Nat → Int32) (f : Nat → Nat → Int32) (g : Nat → Nat → Int64) (h : r_live_63 (fun r v f g => post r (v, f, g)) R17 x1 x3 x4 t0 t1 v f g) : mG p l e (mRm 2 43) s m args below meth c A D cI cJ cZ a 5 (MQ below (va_Qi post (mB D cI cJ cZ a) A) args s 0 0 A) 63 [(0, .ref (a 0)), (1, .int x1), (3, .int x3), (4, .int x4)] [.int t0, .int t1] v f g := by
  unfold r_live_63 at h
  refine mg_iadd C dX12_live_63 ?_
  refine mg_nmI (fun x2_3 e_x2_3 => ?_)
  have h := h x2_3 e_x2_3
  refine mg_istore_n C (i := 2) (lv' := [(2, .int x2_3), (0, .ref (a 0)), (1, .int x1), (3, .int x3), (4, .int x4)]) rfl (Nat.le_of_ble_eq_true rfl) rfl dX12_live_64 ?_
  obtain ⟨x4_4, e_x4_4⟩ : ∃ z : Int32, z = x4 + nI 1 := ⟨_, rfl⟩
  have h := h x4_4 e_x4_4
  refine mg_iinc C (lv' := [(4, .int x4_4), (2, .int x2_3), (0, .ref (a 0)), (1, .int x1), (3, .int x3)]) 4 rfl (by rw [e_x4_4]; rfl) (Nat.le_of_ble_eq_true rfl) rfl dX12_live_65 ?_
  refine mg_goto C 17 (by decide) dX12_live_68 ?_
  exact mg_sub [2, 3, 1, 4, 0] rfl (hR17 x1 x2_3 x3 x4_4 v f g h)
set_option maxRecDepth 20000 in
theorem sb_live_17 (C : mC p s m args meth c cX12_live 5 (some .int) A D cI cJ cZ) {post : Int32 → mS → Prop} {R17 : Int32 → Int32 → Int32 → Int32 → (Nat → Int32) → (Nat → Nat → Int32) → (Nat → Nat → Int64) → Prop} (hR17 : ∀ (x1 : Int32) (x2 : Int32) (x3 : Int32) (x4 : Int32) (v : Nat → Int32) (f : Nat → Nat → Int32) (g : Nat → Nat → Int64), R17 x1 x2 x3 x4 v f g → mG p l e (mRm 2 43) s m args below meth c A D cI cJ cZ a 5 (MQ below (va_Qi post (mB D cI cJ cZ a) A) args s 0 0 A) 17 [(0, .ref (a 0)), (1, .int x1), (2, .int x2), (3, .int x3), (4, .int x4)] [] v f g) (x1 : Int32) (x2 : Int32) (x3 : Int32) (x4 : Int32) (v : Nat → Int32) (f : Nat → Nat → Int32) (g : Nat → Nat → Int64) (h : r_live_17 (fun r v f g => post r (v, f, g)) R17 x1 x2 x3 x4 v f g) : mG p l e (mRm 2 43) s m args below meth c A D cI cJ cZ a 5 (MQ below (va_Qi post (mB D cI cJ cZ a) A) args s 0 0 A) 17 [(0, .ref (a 0)), (1, .int x1), (2, .int x2), (3, .int x3), (4, .int x4)] [] v f g := by
  unfold r_live_17 at h
  refine mg_iload_n C (i := 3) rfl 3 rfl dX12_live_17 ?_
  refine mg_if_eq C 71 (by decide) dX12_live_18 (fun c_ => ?_) (fun c_ => ?_)
  · have h := h.1 c_
    refine mg_iload_n C (i := 2) rfl 2 rfl dX12_live_71 ?_
    exact mg_iret C h dX12_live_72
  · have h := h.2 c_
    refine mg_iload C 4 rfl dX12_live_21 ?_
    refine mg_aload_n C (i := 0) rfl 0 rfl dX12_live_23 ?_
    refine mg_arr C 20 (by decide) (by decide) rfl mL_sizes rfl dX12_live_24 ?_
    refine mg_aload_n C (i := 0) rfl 0 rfl dX12_live_27 ?_
    refine mg_arr C 24 (by decide) (by decide) rfl mL_index rfl dX12_live_28 ?_
    refine mg_iload_n C (i := 1) rfl 1 rfl dX12_live_31 ?_
    obtain ⟨hc_32, h⟩ := h
    refine mg_ialoadR C (n := 202) 24 (by decide) (by decide) rfl rfl hc_32 dX12_live_32 ?_
    obtain ⟨hc_33, h⟩ := h
    refine mg_ialoadR C (n := 202) 20 (by decide) (by decide) rfl rfl hc_33 dX12_live_33 ?_
    refine mg_icmp_ge C 71 (by decide) dX12_live_34 (fun c_ => ?_) (fun c_ => ?_)
    · have h := h.1 c_
      refine mg_iload_n C (i := 2) rfl 2 rfl dX12_live_71 ?_
      exact mg_iret C h dX12_live_72
    · have h := h.2 c_
      refine mg_iload_n C (i := 2) rfl 2 rfl dX12_live_37 ?_
      refine mg_aload_n C (i := 0) rfl 0 rfl dX12_live_38 ?_
      refine mg_arr C 21 (by decide) (by decide) rfl mL_live rfl dX12_live_39 ?_
      refine mg_bipush C (x := nI 100) rfl dX12_live_42 ?_
      refine mg_aload_n C (i := 0) rfl 0 rfl dX12_live_44 ?_
      refine mg_arr C 24 (by decide) (by decide) rfl mL_index rfl dX12_live_45 ?_
      refine mg_iload_n C (i := 1) rfl 1 rfl dX12_live_48 ?_
      obtain ⟨hc_49, h⟩ := h
      refine mg_ialoadR C (n := 202) 24 (by decide) (by decide) rfl rfl hc_49 dX12_live_49 ?_
      refine mg_imul C dX12_live_50 ?_
      refine mg_iload C 4 rfl dX12_live_51 ?_
      refine mg_iadd C dX12_live_53 ?_
      obtain ⟨hc_54, h⟩ := h
      refine mg_baloadR C (n := 20200) 21 (by decide) (by decide) rfl rfl hc_54 dX12_live_54 ?_
      refine mg_if_eq C 62 (by decide) dX12_live_55 (fun c_ => ?_) (fun c_ => ?_)
      · have h := h.1 c_
        refine mg_iconst C (x := nI 0) rfl dX12_live_62 ?_
        exact mg_sub [0, 1, 3, 4] rfl (sb_live_63 C hR17 x1 x3 x4 ((nI 0)) x2 v f g h)
      · have h := h.2 c_
        refine mg_iconst C (x := nI 1) rfl dX12_live_58 ?_
        refine mg_goto C 63 (by decide) dX12_live_59 ?_
        exact mg_sub [0, 1, 3, 4] rfl (sb_live_63 C hR17 x1 x3 x4 ((nI 1)) x2 v f g h)
set_option maxRecDepth 20000 in
theorem sl_live_17 (C : mC p s m args meth c cX12_live 5 (some .int) A D cI cJ cZ) {post : Int32 → mS → Prop}   (x1 : Int32) (x2 : Int32) (x3 : Int32) (x4 : Int32) (v : Nat → Int32) (f : Nat → Nat → Int32) (g : Nat → Nat → Int64) (h : r_live_17L (fun r v f g => post r (v, f, g))  x1 x2 x3 x4 v f g) : mG p l e (mRm 2 43) s m args below meth c A D cI cJ cZ a 5 (MQ below (va_Qi post (mB D cI cJ cZ a) A) args s 0 0 A) 17 [(0, .ref (a 0)), (1, .int x1), (2, .int x2), (3, .int x3), (4, .int x4)] [] v f g :=
  h (fun y => mG p l e (mRm 2 43) s m args below meth c A D cI cJ cZ a 5 (MQ below (va_Qi post (mB D cI cJ cZ a) A) args s 0 0 A) 17 [(0, .ref (a 0)), (1, .int (y.1)), (2, .int (y.2.1)), (3, .int (y.2.2.1)), (4, .int (y.2.2.2.1))] [] (y.2.2.2.2.1) (y.2.2.2.2.2.1) (y.2.2.2.2.2.2)) (fun y hy => sb_live_17 C  (fun b0 b1 b2 b3 v f g z => z) (y.1) (y.2.1) (y.2.2.1) (y.2.2.2.1) (y.2.2.2.2.1) (y.2.2.2.2.2.1) (y.2.2.2.2.2.2) hy)
end S_live
set_option maxHeartbeats 1000000 in
set_option maxRecDepth 20000 in
theorem s_live (l : Launch) (x1 : Int32) (v : Nat → Int32) (f : Nat → Nat → Int32) (g : Nat → Nat → Int64) {P : Int32 → (Nat → Int32) → (Nat → Nat → Int32) → (Nat → Nat → Int64) → Prop} (h : r_live P x1 v f g) : mMi l yX12_live cX12_live 5 (some .int) 2 43 false [.int x1] v f g (fun r w => P r w.1 w.2.1 w.2.2) := by
  intro D cI cJ cZ a sz
  refine mg_body (by decide +kernel) rfl (Nat.le_of_ble_eq_true rfl) ?_
  intro p e s m args below meth c hsz C
  clear hsz
  generalize va_A (mW cI cJ cZ a v f g) sz = A at C ⊢
  refine mg_lv (lv' := [(0, .ref (a 0)), (1, .int x1)]) rfl ?_
  unfold r_live at h
  refine mg_iconst C (x := nI 0) rfl dX12_live_0 ?_
  refine mg_istore_n C (i := 2) (lv' := [(2, .int ((nI 0))), (0, .ref (a 0)), (1, .int x1)]) rfl (Nat.le_of_ble_eq_true rfl) rfl dX12_live_1 ?_
  refine mg_aload_n C (i := 0) rfl 1 rfl dX12_live_2 ?_
  refine mg_aload_n C (i := 0) rfl 1 rfl dX12_live_3 ?_
  refine mg_iload_n C (i := 1) rfl 2 rfl dX12_live_4 ?_
  refine mg_calliW C (s_isPlace l x1 v f g h) mCal_isPlace rfl ⟨by decide, by decide⟩ rfl (Nat.le_of_ble_eq_true rfl) dX12_live_5 (fun r_1 v_1 f_1 g_1 h => ?_)
  refine mg_iconst C (x := nI 1) rfl dX12_live_8 ?_
  refine mg_iconst C (x := nI 1) rfl dX12_live_9 ?_
  refine mg_calliW C (s_goes l r_1 ((nI 1)) ((nI 1)) v_1 f_1 g_1 h) mCal_goes rfl ⟨by decide, by decide⟩ rfl (Nat.le_of_ble_eq_true rfl) dX12_live_10 (fun r_2 v_2 f_2 g_2 h => ?_)
  refine mg_istore_n C (i := 3) (lv' := [(3, .int r_2), (2, .int ((nI 0))), (0, .ref (a 0)), (1, .int x1)]) rfl (Nat.le_of_ble_eq_true rfl) rfl dX12_live_13 ?_
  refine mg_iconst C (x := nI 0) rfl dX12_live_14 ?_
  refine mg_istore C (lv' := [(4, .int ((nI 0))), (3, .int r_2), (2, .int ((nI 0))), (0, .ref (a 0)), (1, .int x1)]) (Nat.le_of_ble_eq_true rfl) rfl dX12_live_15 ?_
  exact mg_sub [3, 4, 2, 1, 0] rfl (sl_live_17 C  x1 (((nI 0))) r_2 (((nI 0))) v_2 f_2 g_2 h)
def r_keyAt_45 (Q : Int32 → (Nat → Int32) → (Nat → Nat → Int32) → (Nat → Nat → Int64) → Prop)  (x1 : Int32) (x2 : Int32) (t0 : Int32) (v : Nat → Int32) (f : Nat → Nat → Int32) (g : Nat → Nat → Int64) : Prop :=
r_goes (fun r_2 v_2 f_2 g_2 => 
((r_2 = 0 →
  Q ((nI 0)) v_2 f_2 g_2) ∧
 (¬ r_2 = 0 →
  vp_in x1 202 ∧ (vp_in ((((((nI 100)) * ((f_2 24 (x1).toNatClampNeg)))) + x2)) 20200 ∧ (vp_in ((f_2 19 ((((((nI 100)) * ((f_2 24 (x1).toNatClampNeg)))) + x2)).toNatClampNeg)) 2424 ∧ (Q ((f_2 14 ((f_2 19 ((((((nI 100)) * ((f_2 24 (x1).toNatClampNeg)))) + x2)).toNatClampNeg)).toNatClampNeg)) v_2 f_2 g_2)))))) t0 ((nI 1)) ((nI 1)) v f g
def r_keyAt_44 (Q : Int32 → (Nat → Int32) → (Nat → Nat → Int32) → (Nat → Nat → Int64) → Prop)  (x1 : Int32) (x2 : Int32) (v : Nat → Int32) (f : Nat → Nat → Int32) (g : Nat → Nat → Int64) : Prop :=
r_keyAt_45 Q  x1 x2 ((nI 0)) v f g
def r_keyAt_34 (Q : Int32 → (Nat → Int32) → (Nat → Nat → Int32) → (Nat → Nat → Int64) → Prop)  (x1 : Int32) (x2 : Int32) (t0 : Int32) (t1 : Int32) (t2 : Int32) (v : Nat → Int32) (f : Nat → Nat → Int32) (g : Nat → Nat → Int64) : Prop :=
r_in (fun r_3 v_3 f_3 g_3 => 
((r_3 = 0 →
  r_keyAt_44 Q  x1 x2 v_3 f_3 g_3) ∧
 (¬ r_3 = 0 →
  r_keyAt_45 Q  x1 x2 ((nI 1)) v_3 f_3 g_3))) t2 t1 t0 v f g
def r_keyAt (Q : Int32 → (Nat → Int32) → (Nat → Nat → Int32) → (Nat → Nat → Int64) → Prop) (x1 : Int32) (x2 : Int32) (v : Nat → Int32) (f : Nat → Nat → Int32) (g : Nat → Nat → Int64) : Prop :=
r_isPlace (fun r_1 v_1 f_1 g_1 => 
((r_1 = 0 →
  r_keyAt_44 Q  x1 x2 v_1 f_1 g_1) ∧
 (¬ r_1 = 0 →
  ((r_1 = 0 →
    r_keyAt_34 Q  x1 x2 ((nI 0)) ((nI 0)) x2 v_1 f_1 g_1) ∧
   (¬ r_1 = 0 →
    vp_in x1 202 ∧ (vp_in ((f_1 24 (x1).toNatClampNeg)) 202 ∧ (r_keyAt_34 Q  x1 x2 ((((f_1 20 ((f_1 24 (x1).toNatClampNeg)).toNatClampNeg)) - ((nI 1)))) ((nI 0)) x2 v_1 f_1 g_1))))))) x1 v f g
section S_keyAt
variable {p : Program} {l : Launch} {e : Env} {s : State} {m : MethodId} {args : Array Value} {below : List Frame} {meth : Method} {c : Code} {A : Nat → Prop} {D : va_G} {cI cJ cZ : ClassId} {a : Nat → Nat}
set_option maxRecDepth 20000 in
theorem sb_keyAt_45 (C : mC p s m args meth c cX12_keyAt 4 (some .int) A D cI cJ cZ) {post : Int32 → mS → Prop}   (x1 : Int32) (x2 : Int32) (t0 : Int32) (v : Nat → Int32) (f : Nat → Nat → Int32) (g : Nat → Nat → Int64) (h : r_keyAt_45 (fun r v f g => post r (v, f, g))  x1 x2 t0 v f g) : mG p l e (mRm 2 43) s m args below meth c A D cI cJ cZ a 4 (MQ below (va_Qi post (mB D cI cJ cZ a) A) args s 0 0 A) 45 [(0, .ref (a 0)), (1, .int x1), (2, .int x2)] [.int t0, .ref (a 0)] v f g := by
  unfold r_keyAt_45 at h
  refine mg_iconst C (x := nI 1) rfl dX12_keyAt_45 ?_
  refine mg_iconst C (x := nI 1) rfl dX12_keyAt_46 ?_
  refine mg_calliW C (s_goes l t0 ((nI 1)) ((nI 1)) v f g h) mCal_goes rfl ⟨by decide, by decide⟩ rfl (Nat.le_of_ble_eq_true rfl) dX12_keyAt_47 (fun r_2 v_2 f_2 g_2 h => ?_)
  refine mg_if_eq C 77 (by decide) dX12_keyAt_50 (fun c_ => ?_) (fun c_ => ?_)
  · have h := h.1 c_
    refine mg_iconst C (x := nI 0) rfl dX12_keyAt_77 ?_
    exact mg_iret C h dX12_keyAt_78
  · have h := h.2 c_
    refine mg_aload_n C (i := 0) rfl 0 rfl dX12_keyAt_53 ?_
    refine mg_arr C 14 (by decide) (by decide) rfl mL_keys rfl dX12_keyAt_54 ?_
    refine mg_aload_n C (i := 0) rfl 0 rfl dX12_keyAt_57 ?_
    refine mg_arr C 19 (by decide) (by decide) rfl mL_held rfl dX12_keyAt_58 ?_
    refine mg_bipush C (x := nI 100) rfl dX12_keyAt_61 ?_
    refine mg_aload_n C (i := 0) rfl 0 rfl dX12_keyAt_63 ?_
    refine mg_arr C 24 (by decide) (by decide) rfl mL_index rfl dX12_keyAt_64 ?_
    refine mg_iload_n C (i := 1) rfl 1 rfl dX12_keyAt_67 ?_
    obtain ⟨hc_68, h⟩ := h
    refine mg_ialoadR C (n := 202) 24 (by decide) (by decide) rfl rfl hc_68 dX12_keyAt_68 ?_
    refine mg_imul C dX12_keyAt_69 ?_
    refine mg_iload_n C (i := 2) rfl 2 rfl dX12_keyAt_70 ?_
    refine mg_iadd C dX12_keyAt_71 ?_
    obtain ⟨hc_72, h⟩ := h
    refine mg_ialoadR C (n := 20200) 19 (by decide) (by decide) rfl rfl hc_72 dX12_keyAt_72 ?_
    obtain ⟨hc_73, h⟩ := h
    refine mg_ialoadR C (n := 2424) 14 (by decide) (by decide) rfl rfl hc_73 dX12_keyAt_73 ?_
    refine mg_goto C 78 (by decide) dX12_keyAt_74 ?_
    exact mg_iret C h dX12_keyAt_78
set_option maxRecDepth 20000 in
theorem sb_keyAt_44 (C : mC p s m args meth c cX12_keyAt 4 (some .int) A D cI cJ cZ) {post : Int32 → mS → Prop}   (x1 : Int32) (x2 : Int32) (v : Nat → Int32) (f : Nat → Nat → Int32) (g : Nat → Nat → Int64) (h : r_keyAt_44 (fun r v f g => post r (v, f, g))  x1 x2 v f g) : mG p l e (mRm 2 43) s m args below meth c A D cI cJ cZ a 4 (MQ below (va_Qi post (mB D cI cJ cZ a) A) args s 0 0 A) 44 [(0, .ref (a 0)), (1, .int x1), (2, .int x2)] [.ref (a 0)] v f g := by
  unfold r_keyAt_44 at h
  refine mg_iconst C (x := nI 0) rfl dX12_keyAt_44 ?_
  exact mg_sub [0, 1, 2] rfl (sb_keyAt_45 C  x1 x2 ((nI 0)) v f g h)
set_option maxRecDepth 20000 in
theorem sb_keyAt_34 (C : mC p s m args meth c cX12_keyAt 4 (some .int) A D cI cJ cZ) {post : Int32 → mS → Prop}   (x1 : Int32) (x2 : Int32) (t0 : Int32) (t1 : Int32) (t2 : Int32) (v : Nat → Int32) (f : Nat → Nat → Int32) (g : Nat → Nat → Int64) (h : r_keyAt_34 (fun r v f g => post r (v, f, g))  x1 x2 t0 t1 t2 v f g) : mG p l e (mRm 2 43) s m args below meth c A D cI cJ cZ a 4 (MQ below (va_Qi post (mB D cI cJ cZ a) A) args s 0 0 A) 34 [(0, .ref (a 0)), (1, .int x1), (2, .int x2)] [.int t0, .int t1, .int t2, .ref (a 0)] v f g := by
  unfold r_keyAt_34 at h
  refine mg_callsiW C (s_in l t2 t1 t0 v f g h) mCal_in rfl ⟨by decide, by decide⟩ rfl (Nat.le_of_ble_eq_true rfl) dX12_keyAt_34 (fun r_3 v_3 f_3 g_3 h => ?_)
  refine mg_if_eq C 44 (by decide) dX12_keyAt_37 (fun c_ => ?_) (fun c_ => ?_)
  · have h := h.1 c_
    exact mg_sub [0, 1, 2] rfl (sb_keyAt_44 C  x1 x2 v_3 f_3 g_3 h)
  · have h := h.2 c_
    refine mg_iconst C (x := nI 1) rfl dX12_keyAt_40 ?_
    refine mg_goto C 45 (by decide) dX12_keyAt_41 ?_
    exact mg_sub [0, 1, 2] rfl (sb_keyAt_45 C  x1 x2 ((nI 1)) v_3 f_3 g_3 h)
end S_keyAt
set_option maxHeartbeats 1000000 in
set_option maxRecDepth 20000 in
theorem s_keyAt (l : Launch) (x1 : Int32) (x2 : Int32) (v : Nat → Int32) (f : Nat → Nat → Int32) (g : Nat → Nat → Int64) {P : Int32 → (Nat → Int32) → (Nat → Nat → Int32) → (Nat → Nat → Int64) → Prop} (h : r_keyAt P x1 x2 v f g) : mMi l yX12_keyAt cX12_keyAt 4 (some .int) 2 43 false [.int x1, .int x2] v f g (fun r w => P r w.1 w.2.1 w.2.2) := by
  intro D cI cJ cZ a sz
  refine mg_body (by decide +kernel) rfl (Nat.le_of_ble_eq_true rfl) ?_
  intro p e s m args below meth c hsz C
  clear hsz
  generalize va_A (mW cI cJ cZ a v f g) sz = A at C ⊢
  refine mg_lv (lv' := [(0, .ref (a 0)), (1, .int x1), (2, .int x2)]) rfl ?_
  unfold r_keyAt at h
  refine mg_aload_n C (i := 0) rfl 0 rfl dX12_keyAt_0 ?_
  refine mg_iload_n C (i := 1) rfl 1 rfl dX12_keyAt_1 ?_
  refine mg_calliW C (s_isPlace l x1 v f g h) mCal_isPlace rfl ⟨by decide, by decide⟩ rfl (Nat.le_of_ble_eq_true rfl) dX12_keyAt_2 (fun r_1 v_1 f_1 g_1 h => ?_)
  refine mg_istore_n C (i := 3) (lv' := [(3, .int r_1), (0, .ref (a 0)), (1, .int x1), (2, .int x2)]) rfl (Nat.le_of_ble_eq_true rfl) rfl dX12_keyAt_5 ?_
  refine mg_aload_n C (i := 0) rfl 1 rfl dX12_keyAt_6 ?_
  refine mg_iload_n C (i := 3) rfl 0 rfl dX12_keyAt_7 ?_
  refine mg_if_eq C 44 (by decide) dX12_keyAt_8 (fun c_ => ?_) (fun c_ => ?_)
  · have h := h.1 c_
    exact mg_sub [1, 2, 3] rfl (sb_keyAt_44 C  x1 x2 v_1 f_1 g_1 h)
  · have h := h.2 c_
    refine mg_iload_n C (i := 2) rfl 3 rfl dX12_keyAt_11 ?_
    refine mg_iconst C (x := nI 0) rfl dX12_keyAt_12 ?_
    refine mg_iload_n C (i := 3) rfl 0 rfl dX12_keyAt_13 ?_
    refine mg_if_eq C 33 (by decide) dX12_keyAt_14 (fun c_ => ?_) (fun c_ => ?_)
    · have h := h.1 c_
      refine mg_iconst C (x := nI 0) rfl dX12_keyAt_33 ?_
      exact mg_sub [1, 2, 3] rfl (sb_keyAt_34 C  x1 x2 ((nI 0)) ((nI 0)) x2 v_1 f_1 g_1 h)
    · have h := h.2 c_
      refine mg_aload_n C (i := 0) rfl 1 rfl dX12_keyAt_17 ?_
      refine mg_arr C 20 (by decide) (by decide) rfl mL_sizes rfl dX12_keyAt_18 ?_
      refine mg_aload_n C (i := 0) rfl 1 rfl dX12_keyAt_21 ?_
      refine mg_arr C 24 (by decide) (by decide) rfl mL_index rfl dX12_keyAt_22 ?_
      refine mg_iload_n C (i := 1) rfl 2 rfl dX12_keyAt_25 ?_
      obtain ⟨hc_26, h⟩ := h
      refine mg_ialoadR C (n := 202) 24 (by decide) (by decide) rfl rfl hc_26 dX12_keyAt_26 ?_
      obtain ⟨hc_27, h⟩ := h
      refine mg_ialoadR C (n := 202) 20 (by decide) (by decide) rfl rfl hc_27 dX12_keyAt_27 ?_
      refine mg_iconst C (x := nI 1) rfl dX12_keyAt_28 ?_
      refine mg_isub C dX12_keyAt_29 ?_
      refine mg_goto C 34 (by decide) dX12_keyAt_30 ?_
      exact mg_sub [1, 2, 3] rfl (sb_keyAt_34 C  x1 x2 ((((f_1 20 ((f_1 24 (x1).toNatClampNeg)).toNatClampNeg)) - ((nI 1)))) ((nI 0)) x2 v_1 f_1 g_1 h)
def r_hasAt_81 (Q : Int32 → (Nat → Int32) → (Nat → Nat → Int32) → (Nat → Nat → Int64) → Prop) (R36 : Int64 → Int64 → Int32 → Int32 → (Nat → Int32) → (Nat → Nat → Int32) → (Nat → Nat → Int64) → Prop) (x4 : Int64) (x6 : Int64) (x9 : Int32) (t0 : Int32) (v : Nat → Int32) (f : Nat → Nat → Int32) (g : Nat → Nat → Int64) : Prop :=
∀ x9_3 : Int32, x9_3 = x9 + nI 1 → R36 x4 x6 t0 x9_3 v f g
def r_hasAt_80 (Q : Int32 → (Nat → Int32) → (Nat → Nat → Int32) → (Nat → Nat → Int64) → Prop) (R36 : Int64 → Int64 → Int32 → Int32 → (Nat → Int32) → (Nat → Nat → Int32) → (Nat → Nat → Int64) → Prop) (x4 : Int64) (x6 : Int64) (x9 : Int32) (v : Nat → Int32) (f : Nat → Nat → Int32) (g : Nat → Nat → Int64) : Prop :=
r_hasAt_81 Q R36 x4 x6 x9 ((nI 0)) v f g
def r_hasAt_36 (Q : Int32 → (Nat → Int32) → (Nat → Nat → Int32) → (Nat → Nat → Int64) → Prop) (R36 : Int64 → Int64 → Int32 → Int32 → (Nat → Int32) → (Nat → Nat → Int32) → (Nat → Nat → Int64) → Prop) (x4 : Int64) (x6 : Int64) (x8 : Int32) (x9 : Int32) (v : Nat → Int32) (f : Nat → Nat → Int32) (g : Nat → Nat → Int64) : Prop :=
((((v 9)) ≤ x9 →
  ((x8 = 0 →
    Q ((bI false)) v f g) ∧
   (¬ x8 = 0 →
    r_isStop (fun r_2 v_2 f_2 g_2 => 
    ((¬ r_2 = 0 →
      Q ((bI false)) v_2 f_2 g_2) ∧
     (r_2 = 0 →
      Q ((bI true)) v_2 f_2 g_2))) x6 v f g))) ∧
 (¬ ((v 9)) ≤ x9 →
  ((¬ x8 = 0 →
    r_hasAt_81 Q R36 x4 x6 x9 ((nI 1)) v f g) ∧
   (x8 = 0 →
    vp_in x9 10 ∧ (((¬ (g 5 (x9).toNatClampNeg) = x6 →
      r_hasAt_80 Q R36 x4 x6 x9 v f g) ∧
     ((g 5 (x9).toNatClampNeg) = x6 →
      vp_in x9 10 ∧ (((¬ (g 6 (x9).toNatClampNeg) = x4 →
        r_hasAt_80 Q R36 x4 x6 x9 v f g) ∧
       ((g 6 (x9).toNatClampNeg) = x4 →
        r_hasAt_81 Q R36 x4 x6 x9 ((nI 1)) v f g))))))))))
def r_hasAt_36L (Q : Int32 → (Nat → Int32) → (Nat → Nat → Int32) → (Nat → Nat → Int64) → Prop)  (x4 : Int64) (x6 : Int64) (x8 : Int32) (x9 : Int32) (v : Nat → Int32) (f : Nat → Nat → Int32) (g : Nat → Nat → Int64) : Prop :=
  lfp (X := Int64 × Int64 × Int32 × Int32 × (Nat → Int32) × (Nat → Nat → Int32) × (Nat → Nat → Int64)) (fun P y => r_hasAt_36 Q  (fun b0 b1 b2 b3 v f g => P (b0, b1, b2, b3, v, f, g)) y.1 y.2.1 y.2.2.1 y.2.2.2.1 y.2.2.2.2.1 y.2.2.2.2.2.1 y.2.2.2.2.2.2) (x4, x6, x8, x9, v, f, g)
def r_hasAt_31 (Q : Int32 → (Nat → Int32) → (Nat → Nat → Int32) → (Nat → Nat → Int64) → Prop)  (x4 : Int64) (x6 : Int64) (t0 : Int32) (v : Nat → Int32) (f : Nat → Nat → Int32) (g : Nat → Nat → Int64) : Prop :=
r_hasAt_36L Q  x4 x6 t0 (((nI 0))) v f g
def r_hasAt (Q : Int32 → (Nat → Int32) → (Nat → Nat → Int32) → (Nat → Nat → Int64) → Prop) (x1 : Int32) (x2 : Int32) (x3 : Int32) (x4 : Int64) (v : Nat → Int32) (f : Nat → Nat → Int32) (g : Nat → Nat → Int64) : Prop :=
vp_in ((((((((nI 40)) * x1)) + ((((nI 20)) * x2)))) + x3)) 96960 ∧ (∀ x6_1 : Int64, x6_1 = g 17 ((((((((nI 40)) * x1)) + ((((nI 20)) * x2)))) + x3)).toNatClampNeg → ((¬ x6_1 = x4 →
  r_hasAt_31 Q  x4 x6_1 ((nI 0)) v f g) ∧
 (x6_1 = x4 →
  r_hasAt_31 Q  x4 x6_1 ((nI 1)) v f g)))
section S_hasAt
variable {p : Program} {l : Launch} {e : Env} {s : State} {m : MethodId} {args : Array Value} {below : List Frame} {meth : Method} {c : Code} {A : Nat → Prop} {D : va_G} {cI cJ cZ : ClassId} {a : Nat → Nat}
set_option maxRecDepth 20000 in
theorem sb_hasAt_81 (C : mC p s m args meth c cX12_hasAt 10 (some .boolean) A D cI cJ cZ) {post : Int32 → mS → Prop} {R36 : Int64 → Int64 → Int32 → Int32 → (Nat → Int32) → (Nat → Nat → Int32) → (Nat → Nat → Int64) → Prop} (hR36 : ∀ (x4 : Int64) (x6 : Int64) (x8 : Int32) (x9 : Int32) (v : Nat → Int32) (f : Nat → Nat → Int32) (g : Nat → Nat → Int64), R36 x4 x6 x8 x9 v f g → mG p l e (mRm 1 24) s m args below meth c A D cI cJ cZ a 10 (MQ below (va_Qi post (mB D cI cJ cZ a) A) args s 0 0 A) 36 [(0, .ref (a 0)), (4, .long x4), (6, .long x6), (8, .int x8), (9, .int x9)] [] v f g) (x4 : Int64) (x6 : Int64) (x9 : Int32) (t0 : Int32) (v : Nat → Int32) (f : Nat → Nat → Int32) (g : Nat → Nat → Int64) (h : r_hasAt_81 (fun r v f g => post r (v, f, g)) R36 x4 x6 x9 t0 v f g) : mG p l e (mRm 1 24) s m args below meth c A D cI cJ cZ a 10 (MQ below (va_Qi post (mB D cI cJ cZ a) A) args s 0 0 A) 81 [(0, .ref (a 0)), (4, .long x4), (6, .long x6), (9, .int x9)] [.int t0] v f g := by
  unfold r_hasAt_81 at h
  refine mg_istore C (lv' := [(8, .int t0), (0, .ref (a 0)), (4, .long x4), (6, .long x6), (9, .int x9)]) (Nat.le_of_ble_eq_true rfl) rfl dX12_hasAt_81 ?_
  obtain ⟨x9_3, e_x9_3⟩ : ∃ z : Int32, z = x9 + nI 1 := ⟨_, rfl⟩
  have h := h x9_3 e_x9_3
  refine mg_iinc C (lv' := [(9, .int x9_3), (8, .int t0), (0, .ref (a 0)), (4, .long x4), (6, .long x6)]) 4 rfl (by rw [e_x9_3]; rfl) (Nat.le_of_ble_eq_true rfl) rfl dX12_hasAt_83 ?_
  refine mg_goto C 36 (by decide) dX12_hasAt_86 ?_
  exact mg_sub [2, 3, 4, 1, 0] rfl (hR36 x4 x6 t0 x9_3 v f g h)
set_option maxRecDepth 20000 in
theorem sb_hasAt_80 (C : mC p s m args meth c cX12_hasAt 10 (some .boolean) A D cI cJ cZ) {post : Int32 → mS → Prop} {R36 : Int64 → Int64 → Int32 → Int32 → (Nat → Int32) → (Nat → Nat → Int32) → (Nat → Nat → Int64) → Prop} (hR36 : ∀ (x4 : Int64) (x6 : Int64) (x8 : Int32) (x9 : Int32) (v : Nat → Int32) (f : Nat → Nat → Int32) (g : Nat → Nat → Int64), R36 x4 x6 x8 x9 v f g → mG p l e (mRm 1 24) s m args below meth c A D cI cJ cZ a 10 (MQ below (va_Qi post (mB D cI cJ cZ a) A) args s 0 0 A) 36 [(0, .ref (a 0)), (4, .long x4), (6, .long x6), (8, .int x8), (9, .int x9)] [] v f g) (x4 : Int64) (x6 : Int64) (x9 : Int32) (v : Nat → Int32) (f : Nat → Nat → Int32) (g : Nat → Nat → Int64) (h : r_hasAt_80 (fun r v f g => post r (v, f, g)) R36 x4 x6 x9 v f g) : mG p l e (mRm 1 24) s m args below meth c A D cI cJ cZ a 10 (MQ below (va_Qi post (mB D cI cJ cZ a) A) args s 0 0 A) 80 [(0, .ref (a 0)), (4, .long x4), (6, .long x6), (9, .int x9)] [] v f g := by
  unfold r_hasAt_80 at h
  refine mg_iconst C (x := nI 0) rfl dX12_hasAt_80 ?_
  exact mg_sub [0, 1, 2, 3] rfl (sb_hasAt_81 C hR36 x4 x6 x9 ((nI 0)) v f g h)
set_option maxRecDepth 20000 in
theorem sb_hasAt_36 (C : mC p s m args meth c cX12_hasAt 10 (some .boolean) A D cI cJ cZ) {post : Int32 → mS → Prop} {R36 : Int64 → Int64 → Int32 → Int32 → (Nat → Int32) → (Nat → Nat → Int32) → (Nat → Nat → Int64) → Prop} (hR36 : ∀ (x4 : Int64) (x6 : Int64) (x8 : Int32) (x9 : Int32) (v : Nat → Int32) (f : Nat → Nat → Int32) (g : Nat → Nat → Int64), R36 x4 x6 x8 x9 v f g → mG p l e (mRm 1 24) s m args below meth c A D cI cJ cZ a 10 (MQ below (va_Qi post (mB D cI cJ cZ a) A) args s 0 0 A) 36 [(0, .ref (a 0)), (4, .long x4), (6, .long x6), (8, .int x8), (9, .int x9)] [] v f g) (x4 : Int64) (x6 : Int64) (x8 : Int32) (x9 : Int32) (v : Nat → Int32) (f : Nat → Nat → Int32) (g : Nat → Nat → Int64) (h : r_hasAt_36 (fun r v f g => post r (v, f, g)) R36 x4 x6 x8 x9 v f g) : mG p l e (mRm 1 24) s m args below meth c A D cI cJ cZ a 10 (MQ below (va_Qi post (mB D cI cJ cZ a) A) args s 0 0 A) 36 [(0, .ref (a 0)), (4, .long x4), (6, .long x6), (8, .int x8), (9, .int x9)] [] v f g := by
  unfold r_hasAt_36 at h
  refine mg_iload C 4 rfl dX12_hasAt_36 ?_
  refine mg_aload_n C (i := 0) rfl 0 rfl dX12_hasAt_38 ?_
  refine mg_getI C (k := 9) (by decide) rfl mL_synonyms rfl dX12_hasAt_39 ?_
  refine mg_icmp_ge C 89 (by decide) dX12_hasAt_42 (fun c_ => ?_) (fun c_ => ?_)
  · have h := h.1 c_
    refine mg_iload C 3 rfl dX12_hasAt_89 ?_
    refine mg_if_eq C 107 (by decide) dX12_hasAt_91 (fun c_ => ?_) (fun c_ => ?_)
    · have h := h.1 c_
      refine mg_iconst C (x := nI 0) rfl dX12_hasAt_107 ?_
      refine mg_cast (bI false) rfl ?_
      exact mg_zret C (bI_nar _) h dX12_hasAt_108
    · have h := h.2 c_
      refine mg_aload_n C (i := 0) rfl 0 rfl dX12_hasAt_94 ?_
      refine mg_lload C 2 rfl dX12_hasAt_95 ?_
      refine mg_calliW C (s_isStop l x6 v f g h) mCal_isStop rfl ⟨by decide, by decide⟩ rfl (Nat.le_of_ble_eq_true rfl) dX12_hasAt_97 (fun r_2 v_2 f_2 g_2 h => ?_)
      refine mg_if_ne C 107 (by decide) dX12_hasAt_100 (fun c_ => ?_) (fun c_ => ?_)
      · have h := h.1 c_
        refine mg_iconst C (x := nI 0) rfl dX12_hasAt_107 ?_
        refine mg_cast (bI false) rfl ?_
        exact mg_zret C (bI_nar _) h dX12_hasAt_108
      · have h := h.2 c_
        refine mg_iconst C (x := nI 1) rfl dX12_hasAt_103 ?_
        refine mg_goto C 108 (by decide) dX12_hasAt_104 ?_
        refine mg_cast (bI true) rfl ?_
        exact mg_zret C (bI_nar _) h dX12_hasAt_108
  · have h := h.2 c_
    refine mg_iload C 3 rfl dX12_hasAt_45 ?_
    refine mg_if_ne C 76 (by decide) dX12_hasAt_47 (fun c_ => ?_) (fun c_ => ?_)
    · have h := h.1 c_
      refine mg_iconst C (x := nI 1) rfl dX12_hasAt_76 ?_
      refine mg_goto C 81 (by decide) dX12_hasAt_77 ?_
      exact mg_sub [0, 1, 2, 4] rfl (sb_hasAt_81 C hR36 x4 x6 x9 ((nI 1)) v f g h)
    · have h := h.2 c_
      refine mg_aload_n C (i := 0) rfl 0 rfl dX12_hasAt_50 ?_
      refine mg_arr C 5 (by decide) (by decide) rfl mL_firsts rfl dX12_hasAt_51 ?_
      refine mg_iload C 4 rfl dX12_hasAt_54 ?_
      obtain ⟨hc_56, h⟩ := h
      refine mg_laloadR C (n := 10) 5 (by decide) (by decide) rfl rfl hc_56 dX12_hasAt_56 ?_
      refine mg_lload C 2 rfl dX12_hasAt_57 ?_
      refine mg_lcmp C dX12_hasAt_59 ?_
      refine mg_if_neL C 80 (by decide) dX12_hasAt_60 (fun c_ => ?_) (fun c_ => ?_)
      · have h := h.1 c_
        exact mg_sub [0, 1, 2, 4] rfl (sb_hasAt_80 C hR36 x4 x6 x9 v f g h)
      · have h := h.2 c_
        refine mg_aload_n C (i := 0) rfl 0 rfl dX12_hasAt_63 ?_
        refine mg_arr C 6 (by decide) (by decide) rfl mL_seconds rfl dX12_hasAt_64 ?_
        refine mg_iload C 4 rfl dX12_hasAt_67 ?_
        obtain ⟨hc_69, h⟩ := h
        refine mg_laloadR C (n := 10) 6 (by decide) (by decide) rfl rfl hc_69 dX12_hasAt_69 ?_
        refine mg_lload C 1 rfl dX12_hasAt_70 ?_
        refine mg_lcmp C dX12_hasAt_72 ?_
        refine mg_if_neL C 80 (by decide) dX12_hasAt_73 (fun c_ => ?_) (fun c_ => ?_)
        · have h := h.1 c_
          exact mg_sub [0, 1, 2, 4] rfl (sb_hasAt_80 C hR36 x4 x6 x9 v f g h)
        · have h := h.2 c_
          refine mg_iconst C (x := nI 1) rfl dX12_hasAt_76 ?_
          refine mg_goto C 81 (by decide) dX12_hasAt_77 ?_
          exact mg_sub [0, 1, 2, 4] rfl (sb_hasAt_81 C hR36 x4 x6 x9 ((nI 1)) v f g h)
set_option maxRecDepth 20000 in
theorem sl_hasAt_36 (C : mC p s m args meth c cX12_hasAt 10 (some .boolean) A D cI cJ cZ) {post : Int32 → mS → Prop}   (x4 : Int64) (x6 : Int64) (x8 : Int32) (x9 : Int32) (v : Nat → Int32) (f : Nat → Nat → Int32) (g : Nat → Nat → Int64) (h : r_hasAt_36L (fun r v f g => post r (v, f, g))  x4 x6 x8 x9 v f g) : mG p l e (mRm 1 24) s m args below meth c A D cI cJ cZ a 10 (MQ below (va_Qi post (mB D cI cJ cZ a) A) args s 0 0 A) 36 [(0, .ref (a 0)), (4, .long x4), (6, .long x6), (8, .int x8), (9, .int x9)] [] v f g :=
  h (fun y => mG p l e (mRm 1 24) s m args below meth c A D cI cJ cZ a 10 (MQ below (va_Qi post (mB D cI cJ cZ a) A) args s 0 0 A) 36 [(0, .ref (a 0)), (4, .long (y.1)), (6, .long (y.2.1)), (8, .int (y.2.2.1)), (9, .int (y.2.2.2.1))] [] (y.2.2.2.2.1) (y.2.2.2.2.2.1) (y.2.2.2.2.2.2)) (fun y hy => sb_hasAt_36 C  (fun b0 b1 b2 b3 v f g z => z) (y.1) (y.2.1) (y.2.2.1) (y.2.2.2.1) (y.2.2.2.2.1) (y.2.2.2.2.2.1) (y.2.2.2.2.2.2) hy)
set_option maxRecDepth 20000 in
theorem sb_hasAt_31 (C : mC p s m args meth c cX12_hasAt 10 (some .boolean) A D cI cJ cZ) {post : Int32 → mS → Prop}   (x4 : Int64) (x6 : Int64) (t0 : Int32) (v : Nat → Int32) (f : Nat → Nat → Int32) (g : Nat → Nat → Int64) (h : r_hasAt_31 (fun r v f g => post r (v, f, g))  x4 x6 t0 v f g) : mG p l e (mRm 1 24) s m args below meth c A D cI cJ cZ a 10 (MQ below (va_Qi post (mB D cI cJ cZ a) A) args s 0 0 A) 31 [(0, .ref (a 0)), (4, .long x4), (6, .long x6)] [.int t0] v f g := by
  unfold r_hasAt_31 at h
  refine mg_istore C (lv' := [(8, .int t0), (0, .ref (a 0)), (4, .long x4), (6, .long x6)]) (Nat.le_of_ble_eq_true rfl) rfl dX12_hasAt_31 ?_
  refine mg_iconst C (x := nI 0) rfl dX12_hasAt_33 ?_
  refine mg_istore C (lv' := [(9, .int ((nI 0))), (8, .int t0), (0, .ref (a 0)), (4, .long x4), (6, .long x6)]) (Nat.le_of_ble_eq_true rfl) rfl dX12_hasAt_34 ?_
  exact mg_sub [2, 3, 4, 1, 0] rfl (sl_hasAt_36 C  x4 x6 t0 (((nI 0))) v f g h)
end S_hasAt
set_option maxHeartbeats 1000000 in
set_option maxRecDepth 20000 in
theorem s_hasAt (l : Launch) (x1 : Int32) (x2 : Int32) (x3 : Int32) (x4 : Int64) (v : Nat → Int32) (f : Nat → Nat → Int32) (g : Nat → Nat → Int64) {P : Int32 → (Nat → Int32) → (Nat → Nat → Int32) → (Nat → Nat → Int64) → Prop} (h : r_hasAt P x1 x2 x3 x4 v f g) : mMi l yX12_hasAt cX12_hasAt 10 (some .boolean) 1 24 false [.int x1, .int x2, .int x3, .long x4] v f g (fun r w => P r w.1 w.2.1 w.2.2) := by
  intro D cI cJ cZ a sz
  refine mg_body (by decide +kernel) rfl (Nat.le_of_ble_eq_true rfl) ?_
  intro p e s m args below meth c hsz C
  clear hsz
  generalize va_A (mW cI cJ cZ a v f g) sz = A at C ⊢
  refine mg_lv (lv' := [(0, .ref (a 0)), (1, .int x1), (2, .int x2), (3, .int x3), (4, .long x4)]) rfl ?_
  unfold r_hasAt at h
  refine mg_aload_n C (i := 0) rfl 0 rfl dX12_hasAt_0 ?_
  refine mg_arr C 17 (by decide) (by decide) rfl mL_stems rfl dX12_hasAt_1 ?_
  refine mg_bipush C (x := nI 40) rfl dX12_hasAt_4 ?_
  refine mg_iload_n C (i := 1) rfl 1 rfl dX12_hasAt_6 ?_
  refine mg_imul C dX12_hasAt_7 ?_
  refine mg_bipush C (x := nI 20) rfl dX12_hasAt_8 ?_
  refine mg_iload_n C (i := 2) rfl 2 rfl dX12_hasAt_10 ?_
  refine mg_imul C dX12_hasAt_11 ?_
  refine mg_iadd C dX12_hasAt_12 ?_
  refine mg_iload_n C (i := 3) rfl 3 rfl dX12_hasAt_13 ?_
  refine mg_iadd C dX12_hasAt_14 ?_
  obtain ⟨hc_15, h⟩ := h
  refine mg_laloadR C (n := 96960) 17 (by decide) (by decide) rfl rfl hc_15 dX12_hasAt_15 ?_
  refine mg_nmL (fun x6_1 e_x6_1 => ?_)
  have h := h x6_1 e_x6_1
  refine mg_lstore C (lv' := [(6, .long x6_1), (0, .ref (a 0)), (1, .int x1), (2, .int x2), (3, .int x3), (4, .long x4)]) (Nat.le_of_ble_eq_true rfl) rfl dX12_hasAt_16 ?_
  refine mg_lload C 0 rfl dX12_hasAt_18 ?_
  refine mg_lload C 5 rfl dX12_hasAt_20 ?_
  refine mg_lcmp C dX12_hasAt_22 ?_
  refine mg_if_neL C 30 (by decide) dX12_hasAt_23 (fun c_ => ?_) (fun c_ => ?_)
  · have h := h.1 c_
    refine mg_iconst C (x := nI 0) rfl dX12_hasAt_30 ?_
    exact mg_sub [1, 5, 0] rfl (sb_hasAt_31 C  x4 x6_1 ((nI 0)) v f g h)
  · have h := h.2 c_
    refine mg_iconst C (x := nI 1) rfl dX12_hasAt_26 ?_
    refine mg_goto C 31 (by decide) dX12_hasAt_27 ?_
    exact mg_sub [1, 5, 0] rfl (sb_hasAt_31 C  x4 x6_1 ((nI 1)) v f g h)
def r_puts_53 (Q : (Nat → Int32) → (Nat → Nat → Int32) → (Nat → Nat → Int64) → Prop) (R53 : Int64 → Int32 → Int32 → (Nat → Int32) → (Nat → Nat → Int32) → (Nat → Nat → Int64) → Prop) (x1 : Int64) (x3 : Int32) (x4 : Int32) (v : Nat → Int32) (f : Nat → Nat → Int32) (g : Nat → Nat → Int64) : Prop :=
((x4 ≤ x3 →
  vp_in x3 2200 ∧ (∀ g2 : Nat → Nat → Int64, g2 = mU g 35 (x3).toNatClampNeg x1 → ∀ v3 : Nat → Int32, v3 = upd v 55 ((((v 55)) + ((nI 1)))) → Q v3 f g2)) ∧
 (¬ x4 ≤ x3 →
  vp_in ((x4 - ((nI 1)))) 2200 ∧ (vp_in x4 2200 ∧ (∀ g4 : Nat → Nat → Int64, g4 = mU g 35 (x4).toNatClampNeg (g 35 ((x4 - ((nI 1)))).toNatClampNeg) → ∀ x4_5 : Int32, x4_5 = x4 + (-1) → R53 x1 x3 x4_5 v f g4))))
def r_puts_53L (Q : (Nat → Int32) → (Nat → Nat → Int32) → (Nat → Nat → Int64) → Prop)  (x1 : Int64) (x3 : Int32) (x4 : Int32) (v : Nat → Int32) (f : Nat → Nat → Int32) (g : Nat → Nat → Int64) : Prop :=
  lfp (X := Int64 × Int32 × Int32 × (Nat → Int32) × (Nat → Nat → Int32) × (Nat → Nat → Int64)) (fun P y => r_puts_53 Q  (fun b0 b1 b2 v f g => P (b0, b1, b2, v, f, g)) y.1 y.2.1 y.2.2.1 y.2.2.2.1 y.2.2.2.2.1 y.2.2.2.2.2) (x1, x3, x4, v, f, g)
def r_puts_47 (Q : (Nat → Int32) → (Nat → Nat → Int32) → (Nat → Nat → Int64) → Prop)  (x1 : Int64) (x3 : Int32) (v : Nat → Int32) (f : Nat → Nat → Int32) (g : Nat → Nat → Int64) : Prop :=
∀ x4_1 : Int32, x4_1 = (v 55) → r_puts_53L Q  x1 x3 x4_1 v f g
def r_puts_27 (Q : (Nat → Int32) → (Nat → Nat → Int32) → (Nat → Nat → Int64) → Prop)  (x1 : Int64) (x3 : Int32) (v : Nat → Int32) (f : Nat → Nat → Int32) (g : Nat → Nat → Int64) : Prop :=
((((v 55)) ≤ x3 →
  r_puts_47 Q  x1 x3 v f g) ∧
 (¬ ((v 55)) ≤ x3 →
  vp_in x3 2200 ∧ (((¬ (g 35 (x3).toNatClampNeg) = x1 →
    r_puts_47 Q  x1 x3 v f g) ∧
   ((g 35 (x3).toNatClampNeg) = x1 →
    Q v f g)))))
def r_puts_2 (Q : (Nat → Int32) → (Nat → Nat → Int32) → (Nat → Nat → Int64) → Prop) (R2 : Int64 → Int32 → (Nat → Int32) → (Nat → Nat → Int32) → (Nat → Nat → Int64) → Prop) (x1 : Int64) (x3 : Int32) (v : Nat → Int32) (f : Nat → Nat → Int32) (g : Nat → Nat → Int64) : Prop :=
((((v 55)) ≤ x3 →
  r_puts_27 Q  x1 x3 v f g) ∧
 (¬ ((v 55)) ≤ x3 →
  vp_in x3 2200 ∧ (((x1 ≤ (g 35 (x3).toNatClampNeg) →
    r_puts_27 Q  x1 x3 v f g) ∧
   (¬ x1 ≤ (g 35 (x3).toNatClampNeg) →
    ∀ x3_6 : Int32, x3_6 = x3 + nI 1 → R2 x1 x3_6 v f g)))))
def r_puts_2L (Q : (Nat → Int32) → (Nat → Nat → Int32) → (Nat → Nat → Int64) → Prop)  (x1 : Int64) (x3 : Int32) (v : Nat → Int32) (f : Nat → Nat → Int32) (g : Nat → Nat → Int64) : Prop :=
  lfp (X := Int64 × Int32 × (Nat → Int32) × (Nat → Nat → Int32) × (Nat → Nat → Int64)) (fun P y => r_puts_2 Q  (fun b0 b1 v f g => P (b0, b1, v, f, g)) y.1 y.2.1 y.2.2.1 y.2.2.2.1 y.2.2.2.2) (x1, x3, v, f, g)
def r_puts (Q : (Nat → Int32) → (Nat → Nat → Int32) → (Nat → Nat → Int64) → Prop) (x1 : Int64) (v : Nat → Int32) (f : Nat → Nat → Int32) (g : Nat → Nat → Int64) : Prop :=
r_puts_2L Q  x1 (((nI 0))) v f g
section S_puts
variable {p : Program} {l : Launch} {e : Env} {s : State} {m : MethodId} {args : Array Value} {below : List Frame} {meth : Method} {c : Code} {A : Nat → Prop} {D : va_G} {cI cJ cZ : ClassId} {a : Nat → Nat}
set_option maxRecDepth 20000 in
theorem sb_puts_53 (C : mC p s m args meth c cX12_puts 5 none A D cI cJ cZ) {post : mS → Prop} {R53 : Int64 → Int32 → Int32 → (Nat → Int32) → (Nat → Nat → Int32) → (Nat → Nat → Int64) → Prop} (hR53 : ∀ (x1 : Int64) (x3 : Int32) (x4 : Int32) (v : Nat → Int32) (f : Nat → Nat → Int32) (g : Nat → Nat → Int64), R53 x1 x3 x4 v f g → mG p l e (mRm 0 0) s m args below meth c A D cI cJ cZ a 5 (MQ below (va_Qv post (mB D cI cJ cZ a) A) args s 0 0 A) 53 [(0, .ref (a 0)), (1, .long x1), (3, .int x3), (4, .int x4)] [] v f g) (x1 : Int64) (x3 : Int32) (x4 : Int32) (v : Nat → Int32) (f : Nat → Nat → Int32) (g : Nat → Nat → Int64) (h : r_puts_53 (fun v f g => post (v, f, g)) R53 x1 x3 x4 v f g) : mG p l e (mRm 0 0) s m args below meth c A D cI cJ cZ a 5 (MQ below (va_Qv post (mB D cI cJ cZ a) A) args s 0 0 A) 53 [(0, .ref (a 0)), (1, .long x1), (3, .int x3), (4, .int x4)] [] v f g := by
  unfold r_puts_53 at h
  refine mg_iload C 3 rfl dX12_puts_53 ?_
  refine mg_iload_n C (i := 3) rfl 2 rfl dX12_puts_55 ?_
  refine mg_icmp_le C 81 (by decide) dX12_puts_56 (fun c_ => ?_) (fun c_ => ?_)
  · have h := h.1 c_
    refine mg_aload_n C (i := 0) rfl 0 rfl dX12_puts_81 ?_
    refine mg_arr C 35 (by decide) (by decide) rfl mL_found rfl dX12_puts_82 ?_
    refine mg_iload_n C (i := 3) rfl 2 rfl dX12_puts_85 ?_
    refine mg_lload_n C (i := 1) rfl 1 rfl dX12_puts_86 ?_
    obtain ⟨hc_87, h⟩ := h
    refine mg_lastoreR C (n := 2200) 35 (by decide) (by decide) rfl rfl hc_87 dX12_puts_87 ?_
    refine mg_nmG (fun g2 e_g2 => ?_)
    have h := h g2 e_g2
    refine mg_aload_n C (i := 0) rfl 0 rfl dX12_puts_88 ?_
    refine mg_dup C rfl dX12_puts_89 ?_
    refine mg_getI C (k := 55) (by decide) rfl mL_foundMany rfl dX12_puts_90 ?_
    refine mg_iconst C (x := nI 1) rfl dX12_puts_93 ?_
    refine mg_iadd C dX12_puts_94 ?_
    refine mg_put C (k := 55) (by decide) rfl mL_foundMany rfl (by decide +kernel) mT_foundMany rfl rfl dX12_puts_95 ?_
    refine mg_nmV (fun v3 e_v3 => ?_)
    have h := h v3 e_v3
    exact mg_vret C h dX12_puts_98
  · have h := h.2 c_
    refine mg_aload_n C (i := 0) rfl 0 rfl dX12_puts_59 ?_
    refine mg_arr C 35 (by decide) (by decide) rfl mL_found rfl dX12_puts_60 ?_
    refine mg_iload C 3 rfl dX12_puts_63 ?_
    refine mg_aload_n C (i := 0) rfl 0 rfl dX12_puts_65 ?_
    refine mg_arr C 35 (by decide) (by decide) rfl mL_found rfl dX12_puts_66 ?_
    refine mg_iload C 3 rfl dX12_puts_69 ?_
    refine mg_iconst C (x := nI 1) rfl dX12_puts_71 ?_
    refine mg_isub C dX12_puts_72 ?_
    obtain ⟨hc_73, h⟩ := h
    refine mg_laloadR C (n := 2200) 35 (by decide) (by decide) rfl rfl hc_73 dX12_puts_73 ?_
    obtain ⟨hc_74, h⟩ := h
    refine mg_lastoreR C (n := 2200) 35 (by decide) (by decide) rfl rfl hc_74 dX12_puts_74 ?_
    refine mg_nmG (fun g4 e_g4 => ?_)
    have h := h g4 e_g4
    obtain ⟨x4_5, e_x4_5⟩ : ∃ z : Int32, z = x4 + (-1) := ⟨_, rfl⟩
    have h := h x4_5 e_x4_5
    refine mg_iinc C (lv' := [(4, .int x4_5), (0, .ref (a 0)), (1, .long x1), (3, .int x3)]) 3 rfl (by rw [e_x4_5]; rfl) (Nat.le_of_ble_eq_true rfl) rfl dX12_puts_75 ?_
    refine mg_goto C 53 (by decide) dX12_puts_78 ?_
    exact mg_sub [1, 2, 3, 0] rfl (hR53 x1 x3 x4_5 v f g4 h)
set_option maxRecDepth 20000 in
theorem sl_puts_53 (C : mC p s m args meth c cX12_puts 5 none A D cI cJ cZ) {post : mS → Prop}   (x1 : Int64) (x3 : Int32) (x4 : Int32) (v : Nat → Int32) (f : Nat → Nat → Int32) (g : Nat → Nat → Int64) (h : r_puts_53L (fun v f g => post (v, f, g))  x1 x3 x4 v f g) : mG p l e (mRm 0 0) s m args below meth c A D cI cJ cZ a 5 (MQ below (va_Qv post (mB D cI cJ cZ a) A) args s 0 0 A) 53 [(0, .ref (a 0)), (1, .long x1), (3, .int x3), (4, .int x4)] [] v f g :=
  h (fun y => mG p l e (mRm 0 0) s m args below meth c A D cI cJ cZ a 5 (MQ below (va_Qv post (mB D cI cJ cZ a) A) args s 0 0 A) 53 [(0, .ref (a 0)), (1, .long (y.1)), (3, .int (y.2.1)), (4, .int (y.2.2.1))] [] (y.2.2.2.1) (y.2.2.2.2.1) (y.2.2.2.2.2)) (fun y hy => sb_puts_53 C  (fun b0 b1 b2 v f g z => z) (y.1) (y.2.1) (y.2.2.1) (y.2.2.2.1) (y.2.2.2.2.1) (y.2.2.2.2.2) hy)
set_option maxRecDepth 20000 in
theorem sb_puts_47 (C : mC p s m args meth c cX12_puts 5 none A D cI cJ cZ) {post : mS → Prop}   (x1 : Int64) (x3 : Int32) (v : Nat → Int32) (f : Nat → Nat → Int32) (g : Nat → Nat → Int64) (h : r_puts_47 (fun v f g => post (v, f, g))  x1 x3 v f g) : mG p l e (mRm 0 0) s m args below meth c A D cI cJ cZ a 5 (MQ below (va_Qv post (mB D cI cJ cZ a) A) args s 0 0 A) 47 [(0, .ref (a 0)), (1, .long x1), (3, .int x3)] [] v f g := by
  unfold r_puts_47 at h
  refine mg_aload_n C (i := 0) rfl 0 rfl dX12_puts_47 ?_
  refine mg_getI C (k := 55) (by decide) rfl mL_foundMany rfl dX12_puts_48 ?_
  refine mg_nmI (fun x4_1 e_x4_1 => ?_)
  have h := h x4_1 e_x4_1
  refine mg_istore C (lv' := [(4, .int x4_1), (0, .ref (a 0)), (1, .long x1), (3, .int x3)]) (Nat.le_of_ble_eq_true rfl) rfl dX12_puts_51 ?_
  exact mg_sub [1, 2, 3, 0] rfl (sl_puts_53 C  x1 x3 x4_1 v f g h)
set_option maxRecDepth 20000 in
theorem sb_puts_27 (C : mC p s m args meth c cX12_puts 5 none A D cI cJ cZ) {post : mS → Prop}   (x1 : Int64) (x3 : Int32) (v : Nat → Int32) (f : Nat → Nat → Int32) (g : Nat → Nat → Int64) (h : r_puts_27 (fun v f g => post (v, f, g))  x1 x3 v f g) : mG p l e (mRm 0 0) s m args below meth c A D cI cJ cZ a 5 (MQ below (va_Qv post (mB D cI cJ cZ a) A) args s 0 0 A) 27 [(0, .ref (a 0)), (1, .long x1), (3, .int x3)] [] v f g := by
  unfold r_puts_27 at h
  refine mg_iload_n C (i := 3) rfl 2 rfl dX12_puts_27 ?_
  refine mg_aload_n C (i := 0) rfl 0 rfl dX12_puts_28 ?_
  refine mg_getI C (k := 55) (by decide) rfl mL_foundMany rfl dX12_puts_29 ?_
  refine mg_icmp_ge C 47 (by decide) dX12_puts_32 (fun c_ => ?_) (fun c_ => ?_)
  · have h := h.1 c_
    exact mg_sub [0, 1, 2] rfl (sb_puts_47 C  x1 x3 v f g h)
  · have h := h.2 c_
    refine mg_aload_n C (i := 0) rfl 0 rfl dX12_puts_35 ?_
    refine mg_arr C 35 (by decide) (by decide) rfl mL_found rfl dX12_puts_36 ?_
    refine mg_iload_n C (i := 3) rfl 2 rfl dX12_puts_39 ?_
    obtain ⟨hc_40, h⟩ := h
    refine mg_laloadR C (n := 2200) 35 (by decide) (by decide) rfl rfl hc_40 dX12_puts_40 ?_
    refine mg_lload_n C (i := 1) rfl 1 rfl dX12_puts_41 ?_
    refine mg_lcmp C dX12_puts_42 ?_
    refine mg_if_neL C 47 (by decide) dX12_puts_43 (fun c_ => ?_) (fun c_ => ?_)
    · have h := h.1 c_
      exact mg_sub [0, 1, 2] rfl (sb_puts_47 C  x1 x3 v f g h)
    · have h := h.2 c_
      exact mg_vret C h dX12_puts_46
set_option maxRecDepth 20000 in
theorem sb_puts_2 (C : mC p s m args meth c cX12_puts 5 none A D cI cJ cZ) {post : mS → Prop} {R2 : Int64 → Int32 → (Nat → Int32) → (Nat → Nat → Int32) → (Nat → Nat → Int64) → Prop} (hR2 : ∀ (x1 : Int64) (x3 : Int32) (v : Nat → Int32) (f : Nat → Nat → Int32) (g : Nat → Nat → Int64), R2 x1 x3 v f g → mG p l e (mRm 0 0) s m args below meth c A D cI cJ cZ a 5 (MQ below (va_Qv post (mB D cI cJ cZ a) A) args s 0 0 A) 2 [(0, .ref (a 0)), (1, .long x1), (3, .int x3)] [] v f g) (x1 : Int64) (x3 : Int32) (v : Nat → Int32) (f : Nat → Nat → Int32) (g : Nat → Nat → Int64) (h : r_puts_2 (fun v f g => post (v, f, g)) R2 x1 x3 v f g) : mG p l e (mRm 0 0) s m args below meth c A D cI cJ cZ a 5 (MQ below (va_Qv post (mB D cI cJ cZ a) A) args s 0 0 A) 2 [(0, .ref (a 0)), (1, .long x1), (3, .int x3)] [] v f g := by
  unfold r_puts_2 at h
  refine mg_iload_n C (i := 3) rfl 2 rfl dX12_puts_2 ?_
  refine mg_aload_n C (i := 0) rfl 0 rfl dX12_puts_3 ?_
  refine mg_getI C (k := 55) (by decide) rfl mL_foundMany rfl dX12_puts_4 ?_
  refine mg_icmp_ge C 27 (by decide) dX12_puts_7 (fun c_ => ?_) (fun c_ => ?_)
  · have h := h.1 c_
    exact mg_sub [0, 1, 2] rfl (sb_puts_27 C  x1 x3 v f g h)
  · have h := h.2 c_
    refine mg_aload_n C (i := 0) rfl 0 rfl dX12_puts_10 ?_
    refine mg_arr C 35 (by decide) (by decide) rfl mL_found rfl dX12_puts_11 ?_
    refine mg_iload_n C (i := 3) rfl 2 rfl dX12_puts_14 ?_
    obtain ⟨hc_15, h⟩ := h
    refine mg_laloadR C (n := 2200) 35 (by decide) (by decide) rfl rfl hc_15 dX12_puts_15 ?_
    refine mg_lload_n C (i := 1) rfl 1 rfl dX12_puts_16 ?_
    refine mg_lcmp C dX12_puts_17 ?_
    refine mg_if_geL C 27 (by decide) dX12_puts_18 (fun c_ => ?_) (fun c_ => ?_)
    · have h := h.1 c_
      exact mg_sub [0, 1, 2] rfl (sb_puts_27 C  x1 x3 v f g h)
    · have h := h.2 c_
      obtain ⟨x3_6, e_x3_6⟩ : ∃ z : Int32, z = x3 + nI 1 := ⟨_, rfl⟩
      have h := h x3_6 e_x3_6
      refine mg_iinc C (lv' := [(3, .int x3_6), (0, .ref (a 0)), (1, .long x1)]) 2 rfl (by rw [e_x3_6]; rfl) (Nat.le_of_ble_eq_true rfl) rfl dX12_puts_21 ?_
      refine mg_goto C 2 (by decide) dX12_puts_24 ?_
      exact mg_sub [1, 2, 0] rfl (hR2 x1 x3_6 v f g h)
set_option maxRecDepth 20000 in
theorem sl_puts_2 (C : mC p s m args meth c cX12_puts 5 none A D cI cJ cZ) {post : mS → Prop}   (x1 : Int64) (x3 : Int32) (v : Nat → Int32) (f : Nat → Nat → Int32) (g : Nat → Nat → Int64) (h : r_puts_2L (fun v f g => post (v, f, g))  x1 x3 v f g) : mG p l e (mRm 0 0) s m args below meth c A D cI cJ cZ a 5 (MQ below (va_Qv post (mB D cI cJ cZ a) A) args s 0 0 A) 2 [(0, .ref (a 0)), (1, .long x1), (3, .int x3)] [] v f g :=
  h (fun y => mG p l e (mRm 0 0) s m args below meth c A D cI cJ cZ a 5 (MQ below (va_Qv post (mB D cI cJ cZ a) A) args s 0 0 A) 2 [(0, .ref (a 0)), (1, .long (y.1)), (3, .int (y.2.1))] [] (y.2.2.1) (y.2.2.2.1) (y.2.2.2.2)) (fun y hy => sb_puts_2 C  (fun b0 b1 v f g z => z) (y.1) (y.2.1) (y.2.2.1) (y.2.2.2.1) (y.2.2.2.2) hy)
end S_puts
set_option maxHeartbeats 1000000 in
set_option maxRecDepth 20000 in
theorem s_puts (l : Launch) (x1 : Int64) (v : Nat → Int32) (f : Nat → Nat → Int32) (g : Nat → Nat → Int64) {P : (Nat → Int32) → (Nat → Nat → Int32) → (Nat → Nat → Int64) → Prop} (h : r_puts P x1 v f g) : mMv l yX12_puts cX12_puts 5 none 0 0 false [.long x1] v f g (fun w => P w.1 w.2.1 w.2.2) := by
  intro D cI cJ cZ a sz
  refine mg_body (by decide +kernel) rfl (Nat.le_of_ble_eq_true rfl) ?_
  intro p e s m args below meth c hsz C
  clear hsz
  generalize va_A (mW cI cJ cZ a v f g) sz = A at C ⊢
  refine mg_lv (lv' := [(0, .ref (a 0)), (1, .long x1)]) rfl ?_
  unfold r_puts at h
  refine mg_iconst C (x := nI 0) rfl dX12_puts_0 ?_
  refine mg_istore_n C (i := 3) (lv' := [(3, .int ((nI 0))), (0, .ref (a 0)), (1, .long x1)]) rfl (Nat.le_of_ble_eq_true rfl) rfl dX12_puts_1 ?_
  exact mg_sub [1, 2, 0] rfl (sl_puts_2 C  x1 (((nI 0))) v f g h)
def r_finds_126 (Q : (Nat → Int32) → (Nat → Nat → Int32) → (Nat → Nat → Int64) → Prop) (R7 : Int32 → Int32 → Int32 → (Nat → Int32) → (Nat → Nat → Int32) → (Nat → Nat → Int64) → Prop) (R33 : Int32 → Int32 → Int32 → Int32 → Int32 → (Nat → Int32) → (Nat → Nat → Int32) → (Nat → Nat → Int64) → Prop) (x1 : Int32) (x2 : Int32) (x3 : Int32) (x4 : Int32) (x5 : Int32) (v : Nat → Int32) (f : Nat → Nat → Int32) (g : Nat → Nat → Int64) : Prop :=
∀ x5_6 : Int32, x5_6 = x5 + nI 1 → R33 x1 x2 x3 x4 x5_6 v f g
def r_finds_120 (Q : (Nat → Int32) → (Nat → Nat → Int32) → (Nat → Nat → Int64) → Prop) (R7 : Int32 → Int32 → Int32 → (Nat → Int32) → (Nat → Nat → Int32) → (Nat → Nat → Int64) → Prop) (R33 : Int32 → Int32 → Int32 → Int32 → Int32 → (Nat → Int32) → (Nat → Nat → Int32) → (Nat → Nat → Int64) → Prop) (R87 : Int32 → Int32 → Int32 → Int32 → Int32 → Int64 → Int32 → (Nat → Int32) → (Nat → Nat → Int32) → (Nat → Nat → Int64) → Prop) (x1 : Int32) (x2 : Int32) (x3 : Int32) (x4 : Int32) (x5 : Int32) (x6 : Int64) (x8 : Int32) (v : Nat → Int32) (f : Nat → Nat → Int32) (g : Nat → Nat → Int64) : Prop :=
∀ x8_8 : Int32, x8_8 = x8 + nI 1 → R87 x1 x2 x3 x4 x5 x6 x8_8 v f g
def r_finds_87 (Q : (Nat → Int32) → (Nat → Nat → Int32) → (Nat → Nat → Int64) → Prop) (R7 : Int32 → Int32 → Int32 → (Nat → Int32) → (Nat → Nat → Int32) → (Nat → Nat → Int64) → Prop) (R33 : Int32 → Int32 → Int32 → Int32 → Int32 → (Nat → Int32) → (Nat → Nat → Int32) → (Nat → Nat → Int64) → Prop) (R87 : Int32 → Int32 → Int32 → Int32 → Int32 → Int64 → Int32 → (Nat → Int32) → (Nat → Nat → Int32) → (Nat → Nat → Int64) → Prop) (x1 : Int32) (x2 : Int32) (x3 : Int32) (x4 : Int32) (x5 : Int32) (x6 : Int64) (x8 : Int32) (v : Nat → Int32) (f : Nat → Nat → Int32) (g : Nat → Nat → Int64) : Prop :=
((((v 9)) ≤ x8 →
  r_finds_126 Q R7 R33 x1 x2 x3 x4 x5 v f g) ∧
 (¬ ((v 9)) ≤ x8 →
  vp_in x8 10 ∧ (((¬ (g 5 (x8).toNatClampNeg) = x6 →
    r_finds_120 Q R7 R33 R87 x1 x2 x3 x4 x5 x6 x8 v f g) ∧
   ((g 5 (x8).toNatClampNeg) = x6 →
    vp_in x8 10 ∧ (r_puts (fun v_9 f_9 g_9 => 
    r_finds_120 Q R7 R33 R87 x1 x2 x3 x4 x5 x6 x8 v_9 f_9 g_9) (g 6 (x8).toNatClampNeg) v f g))))))
def r_finds_87L (Q : (Nat → Int32) → (Nat → Nat → Int32) → (Nat → Nat → Int64) → Prop) (R7 : Int32 → Int32 → Int32 → (Nat → Int32) → (Nat → Nat → Int32) → (Nat → Nat → Int64) → Prop) (R33 : Int32 → Int32 → Int32 → Int32 → Int32 → (Nat → Int32) → (Nat → Nat → Int32) → (Nat → Nat → Int64) → Prop) (x1 : Int32) (x2 : Int32) (x3 : Int32) (x4 : Int32) (x5 : Int32) (x6 : Int64) (x8 : Int32) (v : Nat → Int32) (f : Nat → Nat → Int32) (g : Nat → Nat → Int64) : Prop :=
  lfp (X := Int32 × Int32 × Int32 × Int32 × Int32 × Int64 × Int32 × (Nat → Int32) × (Nat → Nat → Int32) × (Nat → Nat → Int64)) (fun P y => r_finds_87 Q R7 R33 (fun b0 b1 b2 b3 b4 b5 b6 v f g => P (b0, b1, b2, b3, b4, b5, b6, v, f, g)) y.1 y.2.1 y.2.2.1 y.2.2.2.1 y.2.2.2.2.1 y.2.2.2.2.2.1 y.2.2.2.2.2.2.1 y.2.2.2.2.2.2.2.1 y.2.2.2.2.2.2.2.2.1 y.2.2.2.2.2.2.2.2.2) (x1, x2, x3, x4, x5, x6, x8, v, f, g)
def r_finds_33 (Q : (Nat → Int32) → (Nat → Nat → Int32) → (Nat → Nat → Int64) → Prop) (R7 : Int32 → Int32 → Int32 → (Nat → Int32) → (Nat → Nat → Int32) → (Nat → Nat → Int64) → Prop) (R33 : Int32 → Int32 → Int32 → Int32 → Int32 → (Nat → Int32) → (Nat → Nat → Int32) → (Nat → Nat → Int64) → Prop) (x1 : Int32) (x2 : Int32) (x3 : Int32) (x4 : Int32) (x5 : Int32) (v : Nat → Int32) (f : Nat → Nat → Int32) (g : Nat → Nat → Int64) : Prop :=
vp_in ((((((nI 2)) * x4)) + x2)) 4848 ∧ (((((f 18 ((((((nI 2)) * x4)) + x2)).toNatClampNeg)) ≤ x5 →
  ∀ x3_3 : Int32, x3_3 = x3 + nI 1 → R7 x1 x2 x3_3 v f g) ∧
 (¬ ((f 18 ((((((nI 2)) * x4)) + x2)).toNatClampNeg)) ≤ x5 →
  vp_in ((((((((nI 40)) * x4)) + ((((nI 20)) * x2)))) + x5)) 96960 ∧ (∀ x6_4 : Int64, x6_4 = g 17 ((((((((nI 40)) * x4)) + ((((nI 20)) * x2)))) + x5)).toNatClampNeg → r_isStop (fun r_5 v_5 f_5 g_5 => 
  ((¬ r_5 = 0 →
    r_finds_126 Q R7 R33 x1 x2 x3 x4 x5 v_5 f_5 g_5) ∧
   (r_5 = 0 →
    r_puts (fun v_7 f_7 g_7 => 
    r_finds_87L Q R7 R33 x1 x2 x3 x4 x5 x6_4 (((nI 0))) v_7 f_7 g_7) x6_4 v_5 f_5 g_5))) x6_4 v f g))))
def r_finds_33L (Q : (Nat → Int32) → (Nat → Nat → Int32) → (Nat → Nat → Int64) → Prop) (R7 : Int32 → Int32 → Int32 → (Nat → Int32) → (Nat → Nat → Int32) → (Nat → Nat → Int64) → Prop) (x1 : Int32) (x2 : Int32) (x3 : Int32) (x4 : Int32) (x5 : Int32) (v : Nat → Int32) (f : Nat → Nat → Int32) (g : Nat → Nat → Int64) : Prop :=
  lfp (X := Int32 × Int32 × Int32 × Int32 × Int32 × (Nat → Int32) × (Nat → Nat → Int32) × (Nat → Nat → Int64)) (fun P y => r_finds_33 Q R7 (fun b0 b1 b2 b3 b4 v f g => P (b0, b1, b2, b3, b4, v, f, g)) y.1 y.2.1 y.2.2.1 y.2.2.2.1 y.2.2.2.2.1 y.2.2.2.2.2.1 y.2.2.2.2.2.2.1 y.2.2.2.2.2.2.2) (x1, x2, x3, x4, x5, v, f, g)
def r_finds_7 (Q : (Nat → Int32) → (Nat → Nat → Int32) → (Nat → Nat → Int64) → Prop) (R7 : Int32 → Int32 → Int32 → (Nat → Int32) → (Nat → Nat → Int32) → (Nat → Nat → Int64) → Prop) (x1 : Int32) (x2 : Int32) (x3 : Int32) (v : Nat → Int32) (f : Nat → Nat → Int32) (g : Nat → Nat → Int64) : Prop :=
vp_in x1 202 ∧ (((((f 20 (x1).toNatClampNeg)) ≤ x3 →
  Q v f g) ∧
 (¬ ((f 20 (x1).toNatClampNeg)) ≤ x3 →
  vp_in ((((((nI 100)) * x1)) + x3)) 20200 ∧ (∀ x4_2 : Int32, x4_2 = (f 19 ((((((nI 100)) * x1)) + x3)).toNatClampNeg) → r_finds_33L Q R7 x1 x2 x3 x4_2 (((nI 0))) v f g))))
def r_finds_7L (Q : (Nat → Int32) → (Nat → Nat → Int32) → (Nat → Nat → Int64) → Prop)  (x1 : Int32) (x2 : Int32) (x3 : Int32) (v : Nat → Int32) (f : Nat → Nat → Int32) (g : Nat → Nat → Int64) : Prop :=
  lfp (X := Int32 × Int32 × Int32 × (Nat → Int32) × (Nat → Nat → Int32) × (Nat → Nat → Int64)) (fun P y => r_finds_7 Q  (fun b0 b1 b2 v f g => P (b0, b1, b2, v, f, g)) y.1 y.2.1 y.2.2.1 y.2.2.2.1 y.2.2.2.2.1 y.2.2.2.2.2) (x1, x2, x3, v, f, g)
def r_finds (Q : (Nat → Int32) → (Nat → Nat → Int32) → (Nat → Nat → Int64) → Prop) (x1 : Int32) (x2 : Int32) (v : Nat → Int32) (f : Nat → Nat → Int32) (g : Nat → Nat → Int64) : Prop :=
∀ v1 : Nat → Int32, v1 = upd v 55 ((nI 0)) → r_finds_7L Q  x1 x2 (((nI 0))) v1 f g
section S_finds
variable {p : Program} {l : Launch} {e : Env} {s : State} {m : MethodId} {args : Array Value} {below : List Frame} {meth : Method} {c : Code} {A : Nat → Prop} {D : va_G} {cI cJ cZ : ClassId} {a : Nat → Nat}
set_option maxRecDepth 20000 in
theorem sb_finds_126 (C : mC p s m args meth c cX12_finds 9 none A D cI cJ cZ) {post : mS → Prop} {R7 : Int32 → Int32 → Int32 → (Nat → Int32) → (Nat → Nat → Int32) → (Nat → Nat → Int64) → Prop} {R33 : Int32 → Int32 → Int32 → Int32 → Int32 → (Nat → Int32) → (Nat → Nat → Int32) → (Nat → Nat → Int64) → Prop} (hR7 : ∀ (x1 : Int32) (x2 : Int32) (x3 : Int32) (v : Nat → Int32) (f : Nat → Nat → Int32) (g : Nat → Nat → Int64), R7 x1 x2 x3 v f g → mG p l e (mRm 1 24) s m args below meth c A D cI cJ cZ a 9 (MQ below (va_Qv post (mB D cI cJ cZ a) A) args s 0 0 A) 7 [(0, .ref (a 0)), (1, .int x1), (2, .int x2), (3, .int x3)] [] v f g) (hR33 : ∀ (x1 : Int32) (x2 : Int32) (x3 : Int32) (x4 : Int32) (x5 : Int32) (v : Nat → Int32) (f : Nat → Nat → Int32) (g : Nat → Nat → Int64), R33 x1 x2 x3 x4 x5 v f g → mG p l e (mRm 1 24) s m args below meth c A D cI cJ cZ a 9 (MQ below (va_Qv post (mB D cI cJ cZ a) A) args s 0 0 A) 33 [(0, .ref (a 0)), (1, .int x1), (2, .int x2), (3, .int x3), (4, .int x4), (5, .int x5)] [] v f g) (x1 : Int32) (x2 : Int32) (x3 : Int32) (x4 : Int32) (x5 : Int32) (v : Nat → Int32) (f : Nat → Nat → Int32) (g : Nat → Nat → Int64) (h : r_finds_126 (fun v f g => post (v, f, g)) R7 R33 x1 x2 x3 x4 x5 v f g) : mG p l e (mRm 1 24) s m args below meth c A D cI cJ cZ a 9 (MQ below (va_Qv post (mB D cI cJ cZ a) A) args s 0 0 A) 126 [(0, .ref (a 0)), (1, .int x1), (2, .int x2), (3, .int x3), (4, .int x4), (5, .int x5)] [] v f g := by
  unfold r_finds_126 at h
  obtain ⟨x5_6, e_x5_6⟩ : ∃ z : Int32, z = x5 + nI 1 := ⟨_, rfl⟩
  have h := h x5_6 e_x5_6
  refine mg_iinc C (lv' := [(5, .int x5_6), (0, .ref (a 0)), (1, .int x1), (2, .int x2), (3, .int x3), (4, .int x4)]) 5 rfl (by rw [e_x5_6]; rfl) (Nat.le_of_ble_eq_true rfl) rfl dX12_finds_126 ?_
  refine mg_goto C 33 (by decide) dX12_finds_129 ?_
  exact mg_sub [1, 2, 3, 4, 5, 0] rfl (hR33 x1 x2 x3 x4 x5_6 v f g h)
set_option maxRecDepth 20000 in
theorem sb_finds_120 (C : mC p s m args meth c cX12_finds 9 none A D cI cJ cZ) {post : mS → Prop} {R7 : Int32 → Int32 → Int32 → (Nat → Int32) → (Nat → Nat → Int32) → (Nat → Nat → Int64) → Prop} {R33 : Int32 → Int32 → Int32 → Int32 → Int32 → (Nat → Int32) → (Nat → Nat → Int32) → (Nat → Nat → Int64) → Prop} {R87 : Int32 → Int32 → Int32 → Int32 → Int32 → Int64 → Int32 → (Nat → Int32) → (Nat → Nat → Int32) → (Nat → Nat → Int64) → Prop} (hR7 : ∀ (x1 : Int32) (x2 : Int32) (x3 : Int32) (v : Nat → Int32) (f : Nat → Nat → Int32) (g : Nat → Nat → Int64), R7 x1 x2 x3 v f g → mG p l e (mRm 1 24) s m args below meth c A D cI cJ cZ a 9 (MQ below (va_Qv post (mB D cI cJ cZ a) A) args s 0 0 A) 7 [(0, .ref (a 0)), (1, .int x1), (2, .int x2), (3, .int x3)] [] v f g) (hR33 : ∀ (x1 : Int32) (x2 : Int32) (x3 : Int32) (x4 : Int32) (x5 : Int32) (v : Nat → Int32) (f : Nat → Nat → Int32) (g : Nat → Nat → Int64), R33 x1 x2 x3 x4 x5 v f g → mG p l e (mRm 1 24) s m args below meth c A D cI cJ cZ a 9 (MQ below (va_Qv post (mB D cI cJ cZ a) A) args s 0 0 A) 33 [(0, .ref (a 0)), (1, .int x1), (2, .int x2), (3, .int x3), (4, .int x4), (5, .int x5)] [] v f g) (hR87 : ∀ (x1 : Int32) (x2 : Int32) (x3 : Int32) (x4 : Int32) (x5 : Int32) (x6 : Int64) (x8 : Int32) (v : Nat → Int32) (f : Nat → Nat → Int32) (g : Nat → Nat → Int64), R87 x1 x2 x3 x4 x5 x6 x8 v f g → mG p l e (mRm 1 24) s m args below meth c A D cI cJ cZ a 9 (MQ below (va_Qv post (mB D cI cJ cZ a) A) args s 0 0 A) 87 [(0, .ref (a 0)), (1, .int x1), (2, .int x2), (3, .int x3), (4, .int x4), (5, .int x5), (6, .long x6), (8, .int x8)] [] v f g) (x1 : Int32) (x2 : Int32) (x3 : Int32) (x4 : Int32) (x5 : Int32) (x6 : Int64) (x8 : Int32) (v : Nat → Int32) (f : Nat → Nat → Int32) (g : Nat → Nat → Int64) (h : r_finds_120 (fun v f g => post (v, f, g)) R7 R33 R87 x1 x2 x3 x4 x5 x6 x8 v f g) : mG p l e (mRm 1 24) s m args below meth c A D cI cJ cZ a 9 (MQ below (va_Qv post (mB D cI cJ cZ a) A) args s 0 0 A) 120 [(0, .ref (a 0)), (1, .int x1), (2, .int x2), (3, .int x3), (4, .int x4), (5, .int x5), (6, .long x6), (8, .int x8)] [] v f g := by
  unfold r_finds_120 at h
  obtain ⟨x8_8, e_x8_8⟩ : ∃ z : Int32, z = x8 + nI 1 := ⟨_, rfl⟩
  have h := h x8_8 e_x8_8
  refine mg_iinc C (lv' := [(8, .int x8_8), (0, .ref (a 0)), (1, .int x1), (2, .int x2), (3, .int x3), (4, .int x4), (5, .int x5), (6, .long x6)]) 7 rfl (by rw [e_x8_8]; rfl) (Nat.le_of_ble_eq_true rfl) rfl dX12_finds_120 ?_
  refine mg_goto C 87 (by decide) dX12_finds_123 ?_
  exact mg_sub [1, 2, 3, 4, 5, 6, 7, 0] rfl (hR87 x1 x2 x3 x4 x5 x6 x8_8 v f g h)
set_option maxRecDepth 20000 in
theorem sb_finds_87 (C : mC p s m args meth c cX12_finds 9 none A D cI cJ cZ) {post : mS → Prop} {R7 : Int32 → Int32 → Int32 → (Nat → Int32) → (Nat → Nat → Int32) → (Nat → Nat → Int64) → Prop} {R33 : Int32 → Int32 → Int32 → Int32 → Int32 → (Nat → Int32) → (Nat → Nat → Int32) → (Nat → Nat → Int64) → Prop} {R87 : Int32 → Int32 → Int32 → Int32 → Int32 → Int64 → Int32 → (Nat → Int32) → (Nat → Nat → Int32) → (Nat → Nat → Int64) → Prop} (hR7 : ∀ (x1 : Int32) (x2 : Int32) (x3 : Int32) (v : Nat → Int32) (f : Nat → Nat → Int32) (g : Nat → Nat → Int64), R7 x1 x2 x3 v f g → mG p l e (mRm 1 24) s m args below meth c A D cI cJ cZ a 9 (MQ below (va_Qv post (mB D cI cJ cZ a) A) args s 0 0 A) 7 [(0, .ref (a 0)), (1, .int x1), (2, .int x2), (3, .int x3)] [] v f g) (hR33 : ∀ (x1 : Int32) (x2 : Int32) (x3 : Int32) (x4 : Int32) (x5 : Int32) (v : Nat → Int32) (f : Nat → Nat → Int32) (g : Nat → Nat → Int64), R33 x1 x2 x3 x4 x5 v f g → mG p l e (mRm 1 24) s m args below meth c A D cI cJ cZ a 9 (MQ below (va_Qv post (mB D cI cJ cZ a) A) args s 0 0 A) 33 [(0, .ref (a 0)), (1, .int x1), (2, .int x2), (3, .int x3), (4, .int x4), (5, .int x5)] [] v f g) (hR87 : ∀ (x1 : Int32) (x2 : Int32) (x3 : Int32) (x4 : Int32) (x5 : Int32) (x6 : Int64) (x8 : Int32) (v : Nat → Int32) (f : Nat → Nat → Int32) (g : Nat → Nat → Int64), R87 x1 x2 x3 x4 x5 x6 x8 v f g → mG p l e (mRm 1 24) s m args below meth c A D cI cJ cZ a 9 (MQ below (va_Qv post (mB D cI cJ cZ a) A) args s 0 0 A) 87 [(0, .ref (a 0)), (1, .int x1), (2, .int x2), (3, .int x3), (4, .int x4), (5, .int x5), (6, .long x6), (8, .int x8)] [] v f g) (x1 : Int32) (x2 : Int32) (x3 : Int32) (x4 : Int32) (x5 : Int32) (x6 : Int64) (x8 : Int32) (v : Nat → Int32) (f : Nat → Nat → Int32) (g : Nat → Nat → Int64) (h : r_finds_87 (fun v f g => post (v, f, g)) R7 R33 R87 x1 x2 x3 x4 x5 x6 x8 v f g) : mG p l e (mRm 1 24) s m args below meth c A D cI cJ cZ a 9 (MQ below (va_Qv post (mB D cI cJ cZ a) A) args s 0 0 A) 87 [(0, .ref (a 0)), (1, .int x1), (2, .int x2), (3, .int x3), (4, .int x4), (5, .int x5), (6, .long x6), (8, .int x8)] [] v f g := by
  unfold r_finds_87 at h
  refine mg_iload C 7 rfl dX12_finds_87 ?_
  refine mg_aload_n C (i := 0) rfl 0 rfl dX12_finds_89 ?_
  refine mg_getI C (k := 9) (by decide) rfl mL_synonyms rfl dX12_finds_90 ?_
  refine mg_icmp_ge C 126 (by decide) dX12_finds_93 (fun c_ => ?_) (fun c_ => ?_)
  · have h := h.1 c_
    exact mg_sub [0, 1, 2, 3, 4, 5] rfl (sb_finds_126 C hR7 hR33 x1 x2 x3 x4 x5 v f g h)
  · have h := h.2 c_
    refine mg_aload_n C (i := 0) rfl 0 rfl dX12_finds_96 ?_
    refine mg_arr C 5 (by decide) (by decide) rfl mL_firsts rfl dX12_finds_97 ?_
    refine mg_iload C 7 rfl dX12_finds_100 ?_
    obtain ⟨hc_102, h⟩ := h
    refine mg_laloadR C (n := 10) 5 (by decide) (by decide) rfl rfl hc_102 dX12_finds_102 ?_
    refine mg_lload C 6 rfl dX12_finds_103 ?_
    refine mg_lcmp C dX12_finds_105 ?_
    refine mg_if_neL C 120 (by decide) dX12_finds_106 (fun c_ => ?_) (fun c_ => ?_)
    · have h := h.1 c_
      exact mg_sub [0, 1, 2, 3, 4, 5, 6, 7] rfl (sb_finds_120 C hR7 hR33 hR87 x1 x2 x3 x4 x5 x6 x8 v f g h)
    · have h := h.2 c_
      refine mg_aload_n C (i := 0) rfl 0 rfl dX12_finds_109 ?_
      refine mg_aload_n C (i := 0) rfl 0 rfl dX12_finds_110 ?_
      refine mg_arr C 6 (by decide) (by decide) rfl mL_seconds rfl dX12_finds_111 ?_
      refine mg_iload C 7 rfl dX12_finds_114 ?_
      obtain ⟨hc_116, h⟩ := h
      refine mg_laloadR C (n := 10) 6 (by decide) (by decide) rfl rfl hc_116 dX12_finds_116 ?_
      refine mg_callvW C (s_puts l (g 6 (x8).toNatClampNeg) v f g h) mCal_puts rfl ⟨by decide, by decide⟩ rfl (Nat.le_of_ble_eq_true rfl) dX12_finds_117 (fun v_9 f_9 g_9 h => ?_)
      exact mg_sub [0, 1, 2, 3, 4, 5, 6, 7] rfl (sb_finds_120 C hR7 hR33 hR87 x1 x2 x3 x4 x5 x6 x8 v_9 f_9 g_9 h)
set_option maxRecDepth 20000 in
theorem sl_finds_87 (C : mC p s m args meth c cX12_finds 9 none A D cI cJ cZ) {post : mS → Prop} {R7 : Int32 → Int32 → Int32 → (Nat → Int32) → (Nat → Nat → Int32) → (Nat → Nat → Int64) → Prop} {R33 : Int32 → Int32 → Int32 → Int32 → Int32 → (Nat → Int32) → (Nat → Nat → Int32) → (Nat → Nat → Int64) → Prop} (hR7 : ∀ (x1 : Int32) (x2 : Int32) (x3 : Int32) (v : Nat → Int32) (f : Nat → Nat → Int32) (g : Nat → Nat → Int64), R7 x1 x2 x3 v f g → mG p l e (mRm 1 24) s m args below meth c A D cI cJ cZ a 9 (MQ below (va_Qv post (mB D cI cJ cZ a) A) args s 0 0 A) 7 [(0, .ref (a 0)), (1, .int x1), (2, .int x2), (3, .int x3)] [] v f g) (hR33 : ∀ (x1 : Int32) (x2 : Int32) (x3 : Int32) (x4 : Int32) (x5 : Int32) (v : Nat → Int32) (f : Nat → Nat → Int32) (g : Nat → Nat → Int64), R33 x1 x2 x3 x4 x5 v f g → mG p l e (mRm 1 24) s m args below meth c A D cI cJ cZ a 9 (MQ below (va_Qv post (mB D cI cJ cZ a) A) args s 0 0 A) 33 [(0, .ref (a 0)), (1, .int x1), (2, .int x2), (3, .int x3), (4, .int x4), (5, .int x5)] [] v f g) (x1 : Int32) (x2 : Int32) (x3 : Int32) (x4 : Int32) (x5 : Int32) (x6 : Int64) (x8 : Int32) (v : Nat → Int32) (f : Nat → Nat → Int32) (g : Nat → Nat → Int64) (h : r_finds_87L (fun v f g => post (v, f, g)) R7 R33 x1 x2 x3 x4 x5 x6 x8 v f g) : mG p l e (mRm 1 24) s m args below meth c A D cI cJ cZ a 9 (MQ below (va_Qv post (mB D cI cJ cZ a) A) args s 0 0 A) 87 [(0, .ref (a 0)), (1, .int x1), (2, .int x2), (3, .int x3), (4, .int x4), (5, .int x5), (6, .long x6), (8, .int x8)] [] v f g :=
  h (fun y => mG p l e (mRm 1 24) s m args below meth c A D cI cJ cZ a 9 (MQ below (va_Qv post (mB D cI cJ cZ a) A) args s 0 0 A) 87 [(0, .ref (a 0)), (1, .int (y.1)), (2, .int (y.2.1)), (3, .int (y.2.2.1)), (4, .int (y.2.2.2.1)), (5, .int (y.2.2.2.2.1)), (6, .long (y.2.2.2.2.2.1)), (8, .int (y.2.2.2.2.2.2.1))] [] (y.2.2.2.2.2.2.2.1) (y.2.2.2.2.2.2.2.2.1) (y.2.2.2.2.2.2.2.2.2)) (fun y hy => sb_finds_87 C hR7 hR33 (fun b0 b1 b2 b3 b4 b5 b6 v f g z => z) (y.1) (y.2.1) (y.2.2.1) (y.2.2.2.1) (y.2.2.2.2.1) (y.2.2.2.2.2.1) (y.2.2.2.2.2.2.1) (y.2.2.2.2.2.2.2.1) (y.2.2.2.2.2.2.2.2.1) (y.2.2.2.2.2.2.2.2.2) hy)
set_option maxRecDepth 20000 in
theorem sb_finds_33 (C : mC p s m args meth c cX12_finds 9 none A D cI cJ cZ) {post : mS → Prop} {R7 : Int32 → Int32 → Int32 → (Nat → Int32) → (Nat → Nat → Int32) → (Nat → Nat → Int64) → Prop} {R33 : Int32 → Int32 → Int32 → Int32 → Int32 → (Nat → Int32) → (Nat → Nat → Int32) → (Nat → Nat → Int64) → Prop} (hR7 : ∀ (x1 : Int32) (x2 : Int32) (x3 : Int32) (v : Nat → Int32) (f : Nat → Nat → Int32) (g : Nat → Nat → Int64), R7 x1 x2 x3 v f g → mG p l e (mRm 1 24) s m args below meth c A D cI cJ cZ a 9 (MQ below (va_Qv post (mB D cI cJ cZ a) A) args s 0 0 A) 7 [(0, .ref (a 0)), (1, .int x1), (2, .int x2), (3, .int x3)] [] v f g) (hR33 : ∀ (x1 : Int32) (x2 : Int32) (x3 : Int32) (x4 : Int32) (x5 : Int32) (v : Nat → Int32) (f : Nat → Nat → Int32) (g : Nat → Nat → Int64), R33 x1 x2 x3 x4 x5 v f g → mG p l e (mRm 1 24) s m args below meth c A D cI cJ cZ a 9 (MQ below (va_Qv post (mB D cI cJ cZ a) A) args s 0 0 A) 33 [(0, .ref (a 0)), (1, .int x1), (2, .int x2), (3, .int x3), (4, .int x4), (5, .int x5)] [] v f g) (x1 : Int32) (x2 : Int32) (x3 : Int32) (x4 : Int32) (x5 : Int32) (v : Nat → Int32) (f : Nat → Nat → Int32) (g : Nat → Nat → Int64) (h : r_finds_33 (fun v f g => post (v, f, g)) R7 R33 x1 x2 x3 x4 x5 v f g) : mG p l e (mRm 1 24) s m args below meth c A D cI cJ cZ a 9 (MQ below (va_Qv post (mB D cI cJ cZ a) A) args s 0 0 A) 33 [(0, .ref (a 0)), (1, .int x1), (2, .int x2), (3, .int x3), (4, .int x4), (5, .int x5)] [] v f g := by
  unfold r_finds_33 at h
  refine mg_iload C 5 rfl dX12_finds_33 ?_
  refine mg_aload_n C (i := 0) rfl 0 rfl dX12_finds_35 ?_
  refine mg_arr C 18 (by decide) (by decide) rfl mL_places rfl dX12_finds_36 ?_
  refine mg_iconst C (x := nI 2) rfl dX12_finds_39 ?_
  refine mg_iload C 4 rfl dX12_finds_40 ?_
  refine mg_imul C dX12_finds_42 ?_
  refine mg_iload_n C (i := 2) rfl 2 rfl dX12_finds_43 ?_
  refine mg_iadd C dX12_finds_44 ?_
  obtain ⟨hc_45, h⟩ := h
  refine mg_ialoadR C (n := 4848) 18 (by decide) (by decide) rfl rfl hc_45 dX12_finds_45 ?_
  refine mg_icmp_ge C 132 (by decide) dX12_finds_46 (fun c_ => ?_) (fun c_ => ?_)
  · have h := h.1 c_
    obtain ⟨x3_3, e_x3_3⟩ : ∃ z : Int32, z = x3 + nI 1 := ⟨_, rfl⟩
    have h := h x3_3 e_x3_3
    refine mg_iinc C (lv' := [(3, .int x3_3), (0, .ref (a 0)), (1, .int x1), (2, .int x2), (4, .int x4), (5, .int x5)]) 3 rfl (by rw [e_x3_3]; rfl) (Nat.le_of_ble_eq_true rfl) rfl dX12_finds_132 ?_
    refine mg_goto C 7 (by decide) dX12_finds_135 ?_
    exact mg_sub [1, 2, 3, 0] rfl (hR7 x1 x2 x3_3 v f g h)
  · have h := h.2 c_
    refine mg_aload_n C (i := 0) rfl 0 rfl dX12_finds_49 ?_
    refine mg_arr C 17 (by decide) (by decide) rfl mL_stems rfl dX12_finds_50 ?_
    refine mg_bipush C (x := nI 40) rfl dX12_finds_53 ?_
    refine mg_iload C 4 rfl dX12_finds_55 ?_
    refine mg_imul C dX12_finds_57 ?_
    refine mg_bipush C (x := nI 20) rfl dX12_finds_58 ?_
    refine mg_iload_n C (i := 2) rfl 2 rfl dX12_finds_60 ?_
    refine mg_imul C dX12_finds_61 ?_
    refine mg_iadd C dX12_finds_62 ?_
    refine mg_iload C 5 rfl dX12_finds_63 ?_
    refine mg_iadd C dX12_finds_65 ?_
    obtain ⟨hc_66, h⟩ := h
    refine mg_laloadR C (n := 96960) 17 (by decide) (by decide) rfl rfl hc_66 dX12_finds_66 ?_
    refine mg_nmL (fun x6_4 e_x6_4 => ?_)
    have h := h x6_4 e_x6_4
    refine mg_lstore C (lv' := [(6, .long x6_4), (0, .ref (a 0)), (1, .int x1), (2, .int x2), (3, .int x3), (4, .int x4), (5, .int x5)]) (Nat.le_of_ble_eq_true rfl) rfl dX12_finds_67 ?_
    refine mg_aload_n C (i := 0) rfl 1 rfl dX12_finds_69 ?_
    refine mg_lload C 0 rfl dX12_finds_70 ?_
    refine mg_calliW C (s_isStop l x6_4 v f g h) mCal_isStop rfl ⟨by decide, by decide⟩ rfl (Nat.le_of_ble_eq_true rfl) dX12_finds_72 (fun r_5 v_5 f_5 g_5 h => ?_)
    refine mg_if_ne C 126 (by decide) dX12_finds_75 (fun c_ => ?_) (fun c_ => ?_)
    · have h := h.1 c_
      exact mg_sub [1, 2, 3, 4, 5, 6] rfl (sb_finds_126 C hR7 hR33 x1 x2 x3 x4 x5 v_5 f_5 g_5 h)
    · have h := h.2 c_
      refine mg_aload_n C (i := 0) rfl 1 rfl dX12_finds_78 ?_
      refine mg_lload C 0 rfl dX12_finds_79 ?_
      refine mg_callvW C (s_puts l x6_4 v_5 f_5 g_5 h) mCal_puts rfl ⟨by decide, by decide⟩ rfl (Nat.le_of_ble_eq_true rfl) dX12_finds_81 (fun v_7 f_7 g_7 h => ?_)
      refine mg_iconst C (x := nI 0) rfl dX12_finds_84 ?_
      refine mg_istore C (lv' := [(8, .int ((nI 0))), (6, .long x6_4), (0, .ref (a 0)), (1, .int x1), (2, .int x2), (3, .int x3), (4, .int x4), (5, .int x5)]) (Nat.le_of_ble_eq_true rfl) rfl dX12_finds_85 ?_
      exact mg_sub [2, 3, 4, 5, 6, 7, 1, 0] rfl (sl_finds_87 C hR7 hR33 x1 x2 x3 x4 x5 x6_4 (((nI 0))) v_7 f_7 g_7 h)
set_option maxRecDepth 20000 in
theorem sl_finds_33 (C : mC p s m args meth c cX12_finds 9 none A D cI cJ cZ) {post : mS → Prop} {R7 : Int32 → Int32 → Int32 → (Nat → Int32) → (Nat → Nat → Int32) → (Nat → Nat → Int64) → Prop} (hR7 : ∀ (x1 : Int32) (x2 : Int32) (x3 : Int32) (v : Nat → Int32) (f : Nat → Nat → Int32) (g : Nat → Nat → Int64), R7 x1 x2 x3 v f g → mG p l e (mRm 1 24) s m args below meth c A D cI cJ cZ a 9 (MQ below (va_Qv post (mB D cI cJ cZ a) A) args s 0 0 A) 7 [(0, .ref (a 0)), (1, .int x1), (2, .int x2), (3, .int x3)] [] v f g) (x1 : Int32) (x2 : Int32) (x3 : Int32) (x4 : Int32) (x5 : Int32) (v : Nat → Int32) (f : Nat → Nat → Int32) (g : Nat → Nat → Int64) (h : r_finds_33L (fun v f g => post (v, f, g)) R7 x1 x2 x3 x4 x5 v f g) : mG p l e (mRm 1 24) s m args below meth c A D cI cJ cZ a 9 (MQ below (va_Qv post (mB D cI cJ cZ a) A) args s 0 0 A) 33 [(0, .ref (a 0)), (1, .int x1), (2, .int x2), (3, .int x3), (4, .int x4), (5, .int x5)] [] v f g :=
  h (fun y => mG p l e (mRm 1 24) s m args below meth c A D cI cJ cZ a 9 (MQ below (va_Qv post (mB D cI cJ cZ a) A) args s 0 0 A) 33 [(0, .ref (a 0)), (1, .int (y.1)), (2, .int (y.2.1)), (3, .int (y.2.2.1)), (4, .int (y.2.2.2.1)), (5, .int (y.2.2.2.2.1))] [] (y.2.2.2.2.2.1) (y.2.2.2.2.2.2.1) (y.2.2.2.2.2.2.2)) (fun y hy => sb_finds_33 C hR7 (fun b0 b1 b2 b3 b4 v f g z => z) (y.1) (y.2.1) (y.2.2.1) (y.2.2.2.1) (y.2.2.2.2.1) (y.2.2.2.2.2.1) (y.2.2.2.2.2.2.1) (y.2.2.2.2.2.2.2) hy)
set_option maxRecDepth 20000 in
theorem sb_finds_7 (C : mC p s m args meth c cX12_finds 9 none A D cI cJ cZ) {post : mS → Prop} {R7 : Int32 → Int32 → Int32 → (Nat → Int32) → (Nat → Nat → Int32) → (Nat → Nat → Int64) → Prop} (hR7 : ∀ (x1 : Int32) (x2 : Int32) (x3 : Int32) (v : Nat → Int32) (f : Nat → Nat → Int32) (g : Nat → Nat → Int64), R7 x1 x2 x3 v f g → mG p l e (mRm 1 24) s m args below meth c A D cI cJ cZ a 9 (MQ below (va_Qv post (mB D cI cJ cZ a) A) args s 0 0 A) 7 [(0, .ref (a 0)), (1, .int x1), (2, .int x2), (3, .int x3)] [] v f g) (x1 : Int32) (x2 : Int32) (x3 : Int32) (v : Nat → Int32) (f : Nat → Nat → Int32) (g : Nat → Nat → Int64) (h : r_finds_7 (fun v f g => post (v, f, g)) R7 x1 x2 x3 v f g) : mG p l e (mRm 1 24) s m args below meth c A D cI cJ cZ a 9 (MQ below (va_Qv post (mB D cI cJ cZ a) A) args s 0 0 A) 7 [(0, .ref (a 0)), (1, .int x1), (2, .int x2), (3, .int x3)] [] v f g := by
  unfold r_finds_7 at h
  refine mg_iload_n C (i := 3) rfl 3 rfl dX12_finds_7 ?_
  refine mg_aload_n C (i := 0) rfl 0 rfl dX12_finds_8 ?_
  refine mg_arr C 20 (by decide) (by decide) rfl mL_sizes rfl dX12_finds_9 ?_
  refine mg_iload_n C (i := 1) rfl 1 rfl dX12_finds_12 ?_
  obtain ⟨hc_13, h⟩ := h
  refine mg_ialoadR C (n := 202) 20 (by decide) (by decide) rfl rfl hc_13 dX12_finds_13 ?_
  refine mg_icmp_ge C 138 (by decide) dX12_finds_14 (fun c_ => ?_) (fun c_ => ?_)
  · have h := h.1 c_
    exact mg_vret C h dX12_finds_138
  · have h := h.2 c_
    refine mg_aload_n C (i := 0) rfl 0 rfl dX12_finds_17 ?_
    refine mg_arr C 19 (by decide) (by decide) rfl mL_held rfl dX12_finds_18 ?_
    refine mg_bipush C (x := nI 100) rfl dX12_finds_21 ?_
    refine mg_iload_n C (i := 1) rfl 1 rfl dX12_finds_23 ?_
    refine mg_imul C dX12_finds_24 ?_
    refine mg_iload_n C (i := 3) rfl 3 rfl dX12_finds_25 ?_
    refine mg_iadd C dX12_finds_26 ?_
    obtain ⟨hc_27, h⟩ := h
    refine mg_ialoadR C (n := 20200) 19 (by decide) (by decide) rfl rfl hc_27 dX12_finds_27 ?_
    refine mg_nmI (fun x4_2 e_x4_2 => ?_)
    have h := h x4_2 e_x4_2
    refine mg_istore C (lv' := [(4, .int x4_2), (0, .ref (a 0)), (1, .int x1), (2, .int x2), (3, .int x3)]) (Nat.le_of_ble_eq_true rfl) rfl dX12_finds_28 ?_
    refine mg_iconst C (x := nI 0) rfl dX12_finds_30 ?_
    refine mg_istore C (lv' := [(5, .int ((nI 0))), (4, .int x4_2), (0, .ref (a 0)), (1, .int x1), (2, .int x2), (3, .int x3)]) (Nat.le_of_ble_eq_true rfl) rfl dX12_finds_31 ?_
    exact mg_sub [2, 3, 4, 5, 1, 0] rfl (sl_finds_33 C hR7 x1 x2 x3 x4_2 (((nI 0))) v f g h)
set_option maxRecDepth 20000 in
theorem sl_finds_7 (C : mC p s m args meth c cX12_finds 9 none A D cI cJ cZ) {post : mS → Prop}   (x1 : Int32) (x2 : Int32) (x3 : Int32) (v : Nat → Int32) (f : Nat → Nat → Int32) (g : Nat → Nat → Int64) (h : r_finds_7L (fun v f g => post (v, f, g))  x1 x2 x3 v f g) : mG p l e (mRm 1 24) s m args below meth c A D cI cJ cZ a 9 (MQ below (va_Qv post (mB D cI cJ cZ a) A) args s 0 0 A) 7 [(0, .ref (a 0)), (1, .int x1), (2, .int x2), (3, .int x3)] [] v f g :=
  h (fun y => mG p l e (mRm 1 24) s m args below meth c A D cI cJ cZ a 9 (MQ below (va_Qv post (mB D cI cJ cZ a) A) args s 0 0 A) 7 [(0, .ref (a 0)), (1, .int (y.1)), (2, .int (y.2.1)), (3, .int (y.2.2.1))] [] (y.2.2.2.1) (y.2.2.2.2.1) (y.2.2.2.2.2)) (fun y hy => sb_finds_7 C  (fun b0 b1 b2 v f g z => z) (y.1) (y.2.1) (y.2.2.1) (y.2.2.2.1) (y.2.2.2.2.1) (y.2.2.2.2.2) hy)
end S_finds
set_option maxHeartbeats 1000000 in
set_option maxRecDepth 20000 in
theorem s_finds (l : Launch) (x1 : Int32) (x2 : Int32) (v : Nat → Int32) (f : Nat → Nat → Int32) (g : Nat → Nat → Int64) {P : (Nat → Int32) → (Nat → Nat → Int32) → (Nat → Nat → Int64) → Prop} (h : r_finds P x1 x2 v f g) : mMv l yX12_finds cX12_finds 9 none 1 24 false [.int x1, .int x2] v f g (fun w => P w.1 w.2.1 w.2.2) := by
  intro D cI cJ cZ a sz
  refine mg_body (by decide +kernel) rfl (Nat.le_of_ble_eq_true rfl) ?_
  intro p e s m args below meth c hsz C
  clear hsz
  generalize va_A (mW cI cJ cZ a v f g) sz = A at C ⊢
  refine mg_lv (lv' := [(0, .ref (a 0)), (1, .int x1), (2, .int x2)]) rfl ?_
  unfold r_finds at h
  refine mg_aload_n C (i := 0) rfl 0 rfl dX12_finds_0 ?_
  refine mg_iconst C (x := nI 0) rfl dX12_finds_1 ?_
  refine mg_put C (k := 55) (by decide) rfl mL_foundMany rfl (by decide +kernel) mT_foundMany rfl rfl dX12_finds_2 ?_
  refine mg_nmV (fun v1 e_v1 => ?_)
  have h := h v1 e_v1
  refine mg_iconst C (x := nI 0) rfl dX12_finds_5 ?_
  refine mg_istore_n C (i := 3) (lv' := [(3, .int ((nI 0))), (0, .ref (a 0)), (1, .int x1), (2, .int x2)]) rfl (Nat.le_of_ble_eq_true rfl) rfl dX12_finds_6 ?_
  exact mg_sub [1, 2, 3, 0] rfl (sl_finds_7 C  x1 x2 (((nI 0))) v1 f g h)
def r_isField (Q : Int32 → (Nat → Int32) → (Nat → Nat → Int32) → (Nat → Nat → Int64) → Prop) (x1 : Int32) (v : Nat → Int32) (f : Nat → Nat → Int32) (g : Nat → Nat → Int64) : Prop :=
r_in (fun r_1 v_1 f_1 g_1 => 
isZ r_1 ∧ (Q r_1 v_1 f_1 g_1)) x1 ((nI 0)) ((nI 1)) v f g
set_option maxHeartbeats 1000000 in
set_option maxRecDepth 20000 in
theorem s_isField (l : Launch) (x1 : Int32) (v : Nat → Int32) (f : Nat → Nat → Int32) (g : Nat → Nat → Int64) {P : Int32 → (Nat → Int32) → (Nat → Nat → Int32) → (Nat → Nat → Int64) → Prop} (h : r_isField P x1 v f g) : mMi l yX12_isField cX12_isField 2 (some .boolean) 1 22 false [.int x1] v f g (fun r w => P r w.1 w.2.1 w.2.2) := by
  intro D cI cJ cZ a sz
  refine mg_body (by decide +kernel) rfl (Nat.le_of_ble_eq_true rfl) ?_
  intro p e s m args below meth c hsz C
  clear hsz
  generalize va_A (mW cI cJ cZ a v f g) sz = A at C ⊢
  refine mg_lv (lv' := [(0, .ref (a 0)), (1, .int x1)]) rfl ?_
  unfold r_isField at h
  refine mg_iload_n C (i := 1) rfl 1 rfl dX12_isField_0 ?_
  refine mg_iconst C (x := nI 0) rfl dX12_isField_1 ?_
  refine mg_iconst C (x := nI 1) rfl dX12_isField_2 ?_
  refine mg_callsiW C (s_in l x1 ((nI 0)) ((nI 1)) v f g h) mCal_in rfl ⟨by decide, by decide⟩ rfl (Nat.le_of_ble_eq_true rfl) dX12_isField_3 (fun r_1 v_1 f_1 g_1 h => ?_)
  obtain ⟨hc_6, h⟩ := h
  exact mg_zret C (isZ_nar hc_6) h dX12_isField_6
def r_hasWords_21 (Q : Int32 → (Nat → Int32) → (Nat → Nat → Int32) → (Nat → Nat → Int64) → Prop)  (x1 : Int32) (x2 : Int32) (t0 : Int32) (v : Nat → Int32) (f : Nat → Nat → Int32) (g : Nat → Nat → Int64) : Prop :=
((t0 = 0 →
  isZ t0 ∧ (Q t0 v f g)) ∧
 (¬ t0 = 0 →
  vp_in x1 202 ∧ (r_finds (fun v_2 f_2 g_2 => 
  isZ t0 ∧ (Q t0 v_2 f_2 g_2)) ((f 24 (x1).toNatClampNeg)) x2 v f g)))
def r_hasWords_20 (Q : Int32 → (Nat → Int32) → (Nat → Nat → Int32) → (Nat → Nat → Int64) → Prop)  (x1 : Int32) (x2 : Int32) (v : Nat → Int32) (f : Nat → Nat → Int32) (g : Nat → Nat → Int64) : Prop :=
r_hasWords_21 Q  x1 x2 ((nI 0)) v f g
def r_hasWords (Q : Int32 → (Nat → Int32) → (Nat → Nat → Int32) → (Nat → Nat → Int64) → Prop) (x1 : Int32) (x2 : Int32) (v : Nat → Int32) (f : Nat → Nat → Int32) (g : Nat → Nat → Int64) : Prop :=
r_isPlace (fun r_1 v_1 f_1 g_1 => 
((r_1 = 0 →
  r_hasWords_20 Q  x1 x2 v_1 f_1 g_1) ∧
 (¬ r_1 = 0 →
  r_isField (fun r_3 v_3 f_3 g_3 => 
  ((r_3 = 0 →
    r_hasWords_20 Q  x1 x2 v_3 f_3 g_3) ∧
   (¬ r_3 = 0 →
    r_hasWords_21 Q  x1 x2 ((nI 1)) v_3 f_3 g_3))) x2 v_1 f_1 g_1))) x1 v f g
section S_hasWords
variable {p : Program} {l : Launch} {e : Env} {s : State} {m : MethodId} {args : Array Value} {below : List Frame} {meth : Method} {c : Code} {A : Nat → Prop} {D : va_G} {cI cJ cZ : ClassId} {a : Nat → Nat}
set_option maxRecDepth 20000 in
theorem sb_hasWords_21 (C : mC p s m args meth c cX12_hasWords 4 (some .boolean) A D cI cJ cZ) {post : Int32 → mS → Prop}   (x1 : Int32) (x2 : Int32) (t0 : Int32) (v : Nat → Int32) (f : Nat → Nat → Int32) (g : Nat → Nat → Int64) (h : r_hasWords_21 (fun r v f g => post r (v, f, g))  x1 x2 t0 v f g) : mG p l e (mRm 2 52) s m args below meth c A D cI cJ cZ a 4 (MQ below (va_Qi post (mB D cI cJ cZ a) A) args s 0 0 A) 21 [(0, .ref (a 0)), (1, .int x1), (2, .int x2)] [.int t0] v f g := by
  unfold r_hasWords_21 at h
  refine mg_istore_n C (i := 3) (lv' := [(3, .int t0), (0, .ref (a 0)), (1, .int x1), (2, .int x2)]) rfl (Nat.le_of_ble_eq_true rfl) rfl dX12_hasWords_21 ?_
  refine mg_iload_n C (i := 3) rfl 0 rfl dX12_hasWords_22 ?_
  refine mg_if_eq C 37 (by decide) dX12_hasWords_23 (fun c_ => ?_) (fun c_ => ?_)
  · have h := h.1 c_
    refine mg_iload_n C (i := 3) rfl 0 rfl dX12_hasWords_37 ?_
    obtain ⟨hc_38, h⟩ := h
    exact mg_zret C (isZ_nar hc_38) h dX12_hasWords_38
  · have h := h.2 c_
    refine mg_aload_n C (i := 0) rfl 1 rfl dX12_hasWords_26 ?_
    refine mg_aload_n C (i := 0) rfl 1 rfl dX12_hasWords_27 ?_
    refine mg_arr C 24 (by decide) (by decide) rfl mL_index rfl dX12_hasWords_28 ?_
    refine mg_iload_n C (i := 1) rfl 2 rfl dX12_hasWords_31 ?_
    obtain ⟨hc_32, h⟩ := h
    refine mg_ialoadR C (n := 202) 24 (by decide) (by decide) rfl rfl hc_32 dX12_hasWords_32 ?_
    refine mg_iload_n C (i := 2) rfl 3 rfl dX12_hasWords_33 ?_
    refine mg_callvW C (s_finds l ((f 24 (x1).toNatClampNeg)) x2 v f g h) mCal_finds rfl ⟨by decide, by decide⟩ rfl (Nat.le_of_ble_eq_true rfl) dX12_hasWords_34 (fun v_2 f_2 g_2 h => ?_)
    refine mg_iload_n C (i := 3) rfl 0 rfl dX12_hasWords_37 ?_
    obtain ⟨hc_38, h⟩ := h
    exact mg_zret C (isZ_nar hc_38) h dX12_hasWords_38
set_option maxRecDepth 20000 in
theorem sb_hasWords_20 (C : mC p s m args meth c cX12_hasWords 4 (some .boolean) A D cI cJ cZ) {post : Int32 → mS → Prop}   (x1 : Int32) (x2 : Int32) (v : Nat → Int32) (f : Nat → Nat → Int32) (g : Nat → Nat → Int64) (h : r_hasWords_20 (fun r v f g => post r (v, f, g))  x1 x2 v f g) : mG p l e (mRm 2 52) s m args below meth c A D cI cJ cZ a 4 (MQ below (va_Qi post (mB D cI cJ cZ a) A) args s 0 0 A) 20 [(0, .ref (a 0)), (1, .int x1), (2, .int x2)] [] v f g := by
  unfold r_hasWords_20 at h
  refine mg_iconst C (x := nI 0) rfl dX12_hasWords_20 ?_
  exact mg_sub [0, 1, 2] rfl (sb_hasWords_21 C  x1 x2 ((nI 0)) v f g h)
end S_hasWords
set_option maxHeartbeats 1000000 in
set_option maxRecDepth 20000 in
theorem s_hasWords (l : Launch) (x1 : Int32) (x2 : Int32) (v : Nat → Int32) (f : Nat → Nat → Int32) (g : Nat → Nat → Int64) {P : Int32 → (Nat → Int32) → (Nat → Nat → Int32) → (Nat → Nat → Int64) → Prop} (h : r_hasWords P x1 x2 v f g) : mMi l yX12_hasWords cX12_hasWords 4 (some .boolean) 2 52 false [.int x1, .int x2] v f g (fun r w => P r w.1 w.2.1 w.2.2) := by
  intro D cI cJ cZ a sz
  refine mg_body (by decide +kernel) rfl (Nat.le_of_ble_eq_true rfl) ?_
  intro p e s m args below meth c hsz C
  clear hsz
  generalize va_A (mW cI cJ cZ a v f g) sz = A at C ⊢
  refine mg_lv (lv' := [(0, .ref (a 0)), (1, .int x1), (2, .int x2)]) rfl ?_
  unfold r_hasWords at h
  refine mg_aload_n C (i := 0) rfl 0 rfl dX12_hasWords_0 ?_
  refine mg_iload_n C (i := 1) rfl 1 rfl dX12_hasWords_1 ?_
  refine mg_calliW C (s_isPlace l x1 v f g h) mCal_isPlace rfl ⟨by decide, by decide⟩ rfl (Nat.le_of_ble_eq_true rfl) dX12_hasWords_2 (fun r_1 v_1 f_1 g_1 h => ?_)
  refine mg_if_eq C 20 (by decide) dX12_hasWords_5 (fun c_ => ?_) (fun c_ => ?_)
  · have h := h.1 c_
    exact mg_sub [0, 1, 2] rfl (sb_hasWords_20 C  x1 x2 v_1 f_1 g_1 h)
  · have h := h.2 c_
    refine mg_aload_n C (i := 0) rfl 0 rfl dX12_hasWords_8 ?_
    refine mg_iload_n C (i := 2) rfl 2 rfl dX12_hasWords_9 ?_
    refine mg_calliW C (s_isField l x2 v_1 f_1 g_1 h) mCal_isField rfl ⟨by decide, by decide⟩ rfl (Nat.le_of_ble_eq_true rfl) dX12_hasWords_10 (fun r_3 v_3 f_3 g_3 h => ?_)
    refine mg_if_eq C 20 (by decide) dX12_hasWords_13 (fun c_ => ?_) (fun c_ => ?_)
    · have h := h.1 c_
      exact mg_sub [0, 1, 2] rfl (sb_hasWords_20 C  x1 x2 v_3 f_3 g_3 h)
    · have h := h.2 c_
      refine mg_iconst C (x := nI 1) rfl dX12_hasWords_16 ?_
      refine mg_goto C 21 (by decide) dX12_hasWords_17 ?_
      exact mg_sub [0, 1, 2] rfl (sb_hasWords_21 C  x1 x2 ((nI 1)) v_3 f_3 g_3 h)
def r_hasWord (Q : Int32 → (Nat → Int32) → (Nat → Nat → Int32) → (Nat → Nat → Int64) → Prop) (x1 : Int32) (x2 : Int32) (x3 : Int32) (v : Nat → Int32) (f : Nat → Nat → Int32) (g : Nat → Nat → Int64) : Prop :=
r_hasWords (fun r_1 v_1 f_1 g_1 => 
((r_1 = 0 →
  Q ((bI false)) v_1 f_1 g_1) ∧
 (¬ r_1 = 0 →
  r_in (fun r_2 v_2 f_2 g_2 => 
  ((r_2 = 0 →
    Q ((bI false)) v_2 f_2 g_2) ∧
   (¬ r_2 = 0 →
    Q ((bI true)) v_2 f_2 g_2))) x3 ((nI 0)) ((((v_1 55)) - ((nI 1)))) v_1 f_1 g_1))) x1 x2 v f g
set_option maxHeartbeats 1000000 in
set_option maxRecDepth 20000 in
theorem s_hasWord (l : Launch) (x1 : Int32) (x2 : Int32) (x3 : Int32) (v : Nat → Int32) (f : Nat → Nat → Int32) (g : Nat → Nat → Int64) {P : Int32 → (Nat → Int32) → (Nat → Nat → Int32) → (Nat → Nat → Int64) → Prop} (h : r_hasWord P x1 x2 x3 v f g) : mMi l yX12_hasWord cX12_hasWord 4 (some .boolean) 3 75 false [.int x1, .int x2, .int x3] v f g (fun r w => P r w.1 w.2.1 w.2.2) := by
  intro D cI cJ cZ a sz
  refine mg_body (by decide +kernel) rfl (Nat.le_of_ble_eq_true rfl) ?_
  intro p e s m args below meth c hsz C
  clear hsz
  generalize va_A (mW cI cJ cZ a v f g) sz = A at C ⊢
  refine mg_lv (lv' := [(0, .ref (a 0)), (1, .int x1), (2, .int x2), (3, .int x3)]) rfl ?_
  unfold r_hasWord at h
  refine mg_aload_n C (i := 0) rfl 0 rfl dX12_hasWord_0 ?_
  refine mg_iload_n C (i := 1) rfl 1 rfl dX12_hasWord_1 ?_
  refine mg_iload_n C (i := 2) rfl 2 rfl dX12_hasWord_2 ?_
  refine mg_calliW C (s_hasWords l x1 x2 v f g h) mCal_hasWords rfl ⟨by decide, by decide⟩ rfl (Nat.le_of_ble_eq_true rfl) dX12_hasWord_3 (fun r_1 v_1 f_1 g_1 h => ?_)
  refine mg_if_eq C 27 (by decide) dX12_hasWord_6 (fun c_ => ?_) (fun c_ => ?_)
  · have h := h.1 c_
    refine mg_iconst C (x := nI 0) rfl dX12_hasWord_27 ?_
    refine mg_cast (bI false) rfl ?_
    exact mg_zret C (bI_nar _) h dX12_hasWord_28
  · have h := h.2 c_
    refine mg_iload_n C (i := 3) rfl 3 rfl dX12_hasWord_9 ?_
    refine mg_iconst C (x := nI 0) rfl dX12_hasWord_10 ?_
    refine mg_aload_n C (i := 0) rfl 0 rfl dX12_hasWord_11 ?_
    refine mg_getI C (k := 55) (by decide) rfl mL_foundMany rfl dX12_hasWord_12 ?_
    refine mg_iconst C (x := nI 1) rfl dX12_hasWord_15 ?_
    refine mg_isub C dX12_hasWord_16 ?_
    refine mg_callsiW C (s_in l x3 ((nI 0)) ((((v_1 55)) - ((nI 1)))) v_1 f_1 g_1 h) mCal_in rfl ⟨by decide, by decide⟩ rfl (Nat.le_of_ble_eq_true rfl) dX12_hasWord_17 (fun r_2 v_2 f_2 g_2 h => ?_)
    refine mg_if_eq C 27 (by decide) dX12_hasWord_20 (fun c_ => ?_) (fun c_ => ?_)
    · have h := h.1 c_
      refine mg_iconst C (x := nI 0) rfl dX12_hasWord_27 ?_
      refine mg_cast (bI false) rfl ?_
      exact mg_zret C (bI_nar _) h dX12_hasWord_28
    · have h := h.2 c_
      refine mg_iconst C (x := nI 1) rfl dX12_hasWord_23 ?_
      refine mg_goto C 28 (by decide) dX12_hasWord_24 ?_
      refine mg_cast (bI true) rfl ?_
      exact mg_zret C (bI_nar _) h dX12_hasWord_28
def r_words (Q : Int32 → (Nat → Int32) → (Nat → Nat → Int32) → (Nat → Nat → Int64) → Prop) (x1 : Int32) (x2 : Int32) (v : Nat → Int32) (f : Nat → Nat → Int32) (g : Nat → Nat → Int64) : Prop :=
r_hasWords (fun r_1 v_1 f_1 g_1 => 
r_goes (fun r_2 v_2 f_2 g_2 => 
((r_2 = 0 →
  Q ((nI 0)) v_2 f_2 g_2) ∧
 (¬ r_2 = 0 →
  Q ((v_2 55)) v_2 f_2 g_2))) r_1 ((nI 1)) ((nI 1)) v_1 f_1 g_1) x1 x2 v f g
set_option maxHeartbeats 1000000 in
set_option maxRecDepth 20000 in
theorem s_words (l : Launch) (x1 : Int32) (x2 : Int32) (v : Nat → Int32) (f : Nat → Nat → Int32) (g : Nat → Nat → Int64) {P : Int32 → (Nat → Int32) → (Nat → Nat → Int32) → (Nat → Nat → Int64) → Prop} (h : r_words P x1 x2 v f g) : mMi l yX12_words cX12_words 3 (some .int) 3 75 false [.int x1, .int x2] v f g (fun r w => P r w.1 w.2.1 w.2.2) := by
  intro D cI cJ cZ a sz
  refine mg_body (by decide +kernel) rfl (Nat.le_of_ble_eq_true rfl) ?_
  intro p e s m args below meth c hsz C
  clear hsz
  generalize va_A (mW cI cJ cZ a v f g) sz = A at C ⊢
  refine mg_lv (lv' := [(0, .ref (a 0)), (1, .int x1), (2, .int x2)]) rfl ?_
  unfold r_words at h
  refine mg_aload_n C (i := 0) rfl 0 rfl dX12_words_0 ?_
  refine mg_aload_n C (i := 0) rfl 0 rfl dX12_words_1 ?_
  refine mg_iload_n C (i := 1) rfl 1 rfl dX12_words_2 ?_
  refine mg_iload_n C (i := 2) rfl 2 rfl dX12_words_3 ?_
  refine mg_calliW C (s_hasWords l x1 x2 v f g h) mCal_hasWords rfl ⟨by decide, by decide⟩ rfl (Nat.le_of_ble_eq_true rfl) dX12_words_4 (fun r_1 v_1 f_1 g_1 h => ?_)
  refine mg_iconst C (x := nI 1) rfl dX12_words_7 ?_
  refine mg_iconst C (x := nI 1) rfl dX12_words_8 ?_
  refine mg_calliW C (s_goes l r_1 ((nI 1)) ((nI 1)) v_1 f_1 g_1 h) mCal_goes rfl ⟨by decide, by decide⟩ rfl (Nat.le_of_ble_eq_true rfl) dX12_words_9 (fun r_2 v_2 f_2 g_2 h => ?_)
  refine mg_if_eq C 22 (by decide) dX12_words_12 (fun c_ => ?_) (fun c_ => ?_)
  · have h := h.1 c_
    refine mg_iconst C (x := nI 0) rfl dX12_words_22 ?_
    exact mg_iret C h dX12_words_23
  · have h := h.2 c_
    refine mg_aload_n C (i := 0) rfl 0 rfl dX12_words_15 ?_
    refine mg_getI C (k := 55) (by decide) rfl mL_foundMany rfl dX12_words_16 ?_
    refine mg_goto C 23 (by decide) dX12_words_19 ?_
    exact mg_iret C h dX12_words_23
def r_sharedBy_2 (Q : Int32 → (Nat → Int32) → (Nat → Nat → Int32) → (Nat → Nat → Int64) → Prop) (R2 : Int32 → Int32 → (Nat → Int32) → (Nat → Nat → Int32) → (Nat → Nat → Int64) → Prop) (x1 : Int32) (x2 : Int32) (v : Nat → Int32) (f : Nat → Nat → Int32) (g : Nat → Nat → Int64) : Prop :=
((x1 ≤ 0 →
  Q x2 v f g) ∧
 (¬ x1 ≤ 0 →
  ((((nI 12)) ≤ x2 →
    Q x2 v f g) ∧
   (¬ ((nI 12)) ≤ x2 →
    vp_in x1 2200 ∧ (r_at (fun r_1 v_1 f_1 g_1 => 
    ((r_1 ≤ 0 →
      Q x2 v_1 f_1 g_1) ∧
     (¬ r_1 ≤ 0 →
      vp_in x1 2200 ∧ (r_at (fun r_2 v_2 f_2 g_2 => 
      vp_in ((x1 - ((nI 1)))) 2200 ∧ (r_at (fun r_3 v_3 f_3 g_3 => 
      ((¬ r_2 = r_3 →
        Q x2 v_3 f_3 g_3) ∧
       (r_2 = r_3 →
        ∀ x2_4 : Int32, x2_4 = x2 + nI 1 → R2 x1 x2_4 v_3 f_3 g_3))) (g_2 35 ((x1 - ((nI 1)))).toNatClampNeg) x2 v_2 f_2 g_2)) (g_1 35 (x1).toNatClampNeg) x2 v_1 f_1 g_1)))) (g 35 (x1).toNatClampNeg) x2 v f g)))))
def r_sharedBy_2L (Q : Int32 → (Nat → Int32) → (Nat → Nat → Int32) → (Nat → Nat → Int64) → Prop)  (x1 : Int32) (x2 : Int32) (v : Nat → Int32) (f : Nat → Nat → Int32) (g : Nat → Nat → Int64) : Prop :=
  lfp (X := Int32 × Int32 × (Nat → Int32) × (Nat → Nat → Int32) × (Nat → Nat → Int64)) (fun P y => r_sharedBy_2 Q  (fun b0 b1 v f g => P (b0, b1, v, f, g)) y.1 y.2.1 y.2.2.1 y.2.2.2.1 y.2.2.2.2) (x1, x2, v, f, g)
def r_sharedBy (Q : Int32 → (Nat → Int32) → (Nat → Nat → Int32) → (Nat → Nat → Int64) → Prop) (x1 : Int32) (v : Nat → Int32) (f : Nat → Nat → Int32) (g : Nat → Nat → Int64) : Prop :=
r_sharedBy_2L Q  x1 (((nI 0))) v f g
section S_sharedBy
variable {p : Program} {l : Launch} {e : Env} {s : State} {m : MethodId} {args : Array Value} {below : List Frame} {meth : Method} {c : Code} {A : Nat → Prop} {D : va_G} {cI cJ cZ : ClassId} {a : Nat → Nat}
set_option maxRecDepth 20000 in
theorem sb_sharedBy_2 (C : mC p s m args meth c cX12_sharedBy 3 (some .int) A D cI cJ cZ) {post : Int32 → mS → Prop} {R2 : Int32 → Int32 → (Nat → Int32) → (Nat → Nat → Int32) → (Nat → Nat → Int64) → Prop} (hR2 : ∀ (x1 : Int32) (x2 : Int32) (v : Nat → Int32) (f : Nat → Nat → Int32) (g : Nat → Nat → Int64), R2 x1 x2 v f g → mG p l e (mRm 1 23) s m args below meth c A D cI cJ cZ a 3 (MQ below (va_Qi post (mB D cI cJ cZ a) A) args s 0 0 A) 2 [(0, .ref (a 0)), (1, .int x1), (2, .int x2)] [] v f g) (x1 : Int32) (x2 : Int32) (v : Nat → Int32) (f : Nat → Nat → Int32) (g : Nat → Nat → Int64) (h : r_sharedBy_2 (fun r v f g => post r (v, f, g)) R2 x1 x2 v f g) : mG p l e (mRm 1 23) s m args below meth c A D cI cJ cZ a 3 (MQ below (va_Qi post (mB D cI cJ cZ a) A) args s 0 0 A) 2 [(0, .ref (a 0)), (1, .int x1), (2, .int x2)] [] v f g := by
  unfold r_sharedBy_2 at h
  refine mg_iload_n C (i := 1) rfl 1 rfl dX12_sharedBy_2 ?_
  refine mg_if_le C 59 (by decide) dX12_sharedBy_3 (fun c_ => ?_) (fun c_ => ?_)
  · have h := h.1 c_
    refine mg_iload_n C (i := 2) rfl 2 rfl dX12_sharedBy_59 ?_
    exact mg_iret C h dX12_sharedBy_60
  · have h := h.2 c_
    refine mg_iload_n C (i := 2) rfl 2 rfl dX12_sharedBy_6 ?_
    refine mg_bipush C (x := nI 12) rfl dX12_sharedBy_7 ?_
    refine mg_icmp_ge C 59 (by decide) dX12_sharedBy_9 (fun c_ => ?_) (fun c_ => ?_)
    · have h := h.1 c_
      refine mg_iload_n C (i := 2) rfl 2 rfl dX12_sharedBy_59 ?_
      exact mg_iret C h dX12_sharedBy_60
    · have h := h.2 c_
      refine mg_aload_n C (i := 0) rfl 0 rfl dX12_sharedBy_12 ?_
      refine mg_aload_n C (i := 0) rfl 0 rfl dX12_sharedBy_13 ?_
      refine mg_arr C 35 (by decide) (by decide) rfl mL_found rfl dX12_sharedBy_14 ?_
      refine mg_iload_n C (i := 1) rfl 1 rfl dX12_sharedBy_17 ?_
      obtain ⟨hc_18, h⟩ := h
      refine mg_laloadR C (n := 2200) 35 (by decide) (by decide) rfl rfl hc_18 dX12_sharedBy_18 ?_
      refine mg_iload_n C (i := 2) rfl 2 rfl dX12_sharedBy_19 ?_
      refine mg_calliW C (s_at l (g 35 (x1).toNatClampNeg) x2 v f g h) mCal_at rfl ⟨by decide, by decide⟩ rfl (Nat.le_of_ble_eq_true rfl) dX12_sharedBy_20 (fun r_1 v_1 f_1 g_1 h => ?_)
      refine mg_if_le C 59 (by decide) dX12_sharedBy_23 (fun c_ => ?_) (fun c_ => ?_)
      · have h := h.1 c_
        refine mg_iload_n C (i := 2) rfl 2 rfl dX12_sharedBy_59 ?_
        exact mg_iret C h dX12_sharedBy_60
      · have h := h.2 c_
        refine mg_aload_n C (i := 0) rfl 0 rfl dX12_sharedBy_26 ?_
        refine mg_aload_n C (i := 0) rfl 0 rfl dX12_sharedBy_27 ?_
        refine mg_arr C 35 (by decide) (by decide) rfl mL_found rfl dX12_sharedBy_28 ?_
        refine mg_iload_n C (i := 1) rfl 1 rfl dX12_sharedBy_31 ?_
        obtain ⟨hc_32, h⟩ := h
        refine mg_laloadR C (n := 2200) 35 (by decide) (by decide) rfl rfl hc_32 dX12_sharedBy_32 ?_
        refine mg_iload_n C (i := 2) rfl 2 rfl dX12_sharedBy_33 ?_
        refine mg_calliW C (s_at l (g_1 35 (x1).toNatClampNeg) x2 v_1 f_1 g_1 h) mCal_at rfl ⟨by decide, by decide⟩ rfl (Nat.le_of_ble_eq_true rfl) dX12_sharedBy_34 (fun r_2 v_2 f_2 g_2 h => ?_)
        refine mg_aload_n C (i := 0) rfl 0 rfl dX12_sharedBy_37 ?_
        refine mg_aload_n C (i := 0) rfl 0 rfl dX12_sharedBy_38 ?_
        refine mg_arr C 35 (by decide) (by decide) rfl mL_found rfl dX12_sharedBy_39 ?_
        refine mg_iload_n C (i := 1) rfl 1 rfl dX12_sharedBy_42 ?_
        refine mg_iconst C (x := nI 1) rfl dX12_sharedBy_43 ?_
        refine mg_isub C dX12_sharedBy_44 ?_
        obtain ⟨hc_45, h⟩ := h
        refine mg_laloadR C (n := 2200) 35 (by decide) (by decide) rfl rfl hc_45 dX12_sharedBy_45 ?_
        refine mg_iload_n C (i := 2) rfl 2 rfl dX12_sharedBy_46 ?_
        refine mg_calliW C (s_at l (g_2 35 ((x1 - ((nI 1)))).toNatClampNeg) x2 v_2 f_2 g_2 h) mCal_at rfl ⟨by decide, by decide⟩ rfl (Nat.le_of_ble_eq_true rfl) dX12_sharedBy_47 (fun r_3 v_3 f_3 g_3 h => ?_)
        refine mg_icmp_ne C 59 (by decide) dX12_sharedBy_50 (fun c_ => ?_) (fun c_ => ?_)
        · have h := h.1 c_
          refine mg_iload_n C (i := 2) rfl 2 rfl dX12_sharedBy_59 ?_
          exact mg_iret C h dX12_sharedBy_60
        · have h := h.2 c_
          obtain ⟨x2_4, e_x2_4⟩ : ∃ z : Int32, z = x2 + nI 1 := ⟨_, rfl⟩
          have h := h x2_4 e_x2_4
          refine mg_iinc C (lv' := [(2, .int x2_4), (0, .ref (a 0)), (1, .int x1)]) 2 rfl (by rw [e_x2_4]; rfl) (Nat.le_of_ble_eq_true rfl) rfl dX12_sharedBy_53 ?_
          refine mg_goto C 2 (by decide) dX12_sharedBy_56 ?_
          exact mg_sub [1, 2, 0] rfl (hR2 x1 x2_4 v_3 f_3 g_3 h)
set_option maxRecDepth 20000 in
theorem sl_sharedBy_2 (C : mC p s m args meth c cX12_sharedBy 3 (some .int) A D cI cJ cZ) {post : Int32 → mS → Prop}   (x1 : Int32) (x2 : Int32) (v : Nat → Int32) (f : Nat → Nat → Int32) (g : Nat → Nat → Int64) (h : r_sharedBy_2L (fun r v f g => post r (v, f, g))  x1 x2 v f g) : mG p l e (mRm 1 23) s m args below meth c A D cI cJ cZ a 3 (MQ below (va_Qi post (mB D cI cJ cZ a) A) args s 0 0 A) 2 [(0, .ref (a 0)), (1, .int x1), (2, .int x2)] [] v f g :=
  h (fun y => mG p l e (mRm 1 23) s m args below meth c A D cI cJ cZ a 3 (MQ below (va_Qi post (mB D cI cJ cZ a) A) args s 0 0 A) 2 [(0, .ref (a 0)), (1, .int (y.1)), (2, .int (y.2.1))] [] (y.2.2.1) (y.2.2.2.1) (y.2.2.2.2)) (fun y hy => sb_sharedBy_2 C  (fun b0 b1 v f g z => z) (y.1) (y.2.1) (y.2.2.1) (y.2.2.2.1) (y.2.2.2.2) hy)
end S_sharedBy
set_option maxHeartbeats 1000000 in
set_option maxRecDepth 20000 in
theorem s_sharedBy (l : Launch) (x1 : Int32) (v : Nat → Int32) (f : Nat → Nat → Int32) (g : Nat → Nat → Int64) {P : Int32 → (Nat → Int32) → (Nat → Nat → Int32) → (Nat → Nat → Int64) → Prop} (h : r_sharedBy P x1 v f g) : mMi l yX12_sharedBy cX12_sharedBy 3 (some .int) 1 23 false [.int x1] v f g (fun r w => P r w.1 w.2.1 w.2.2) := by
  intro D cI cJ cZ a sz
  refine mg_body (by decide +kernel) rfl (Nat.le_of_ble_eq_true rfl) ?_
  intro p e s m args below meth c hsz C
  clear hsz
  generalize va_A (mW cI cJ cZ a v f g) sz = A at C ⊢
  refine mg_lv (lv' := [(0, .ref (a 0)), (1, .int x1)]) rfl ?_
  unfold r_sharedBy at h
  refine mg_iconst C (x := nI 0) rfl dX12_sharedBy_0 ?_
  refine mg_istore_n C (i := 2) (lv' := [(2, .int ((nI 0))), (0, .ref (a 0)), (1, .int x1)]) rfl (Nat.le_of_ble_eq_true rfl) rfl dX12_sharedBy_1 ?_
  exact mg_sub [1, 2, 0] rfl (sl_sharedBy_2 C  x1 (((nI 0))) v f g h)
