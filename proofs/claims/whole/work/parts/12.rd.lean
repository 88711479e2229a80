/-! the reference's methods as predicates, and their contracts -/
def r_shared (Q : Int32 → (Nat → Int32) → (Nat → Nat → Int32) → (Nat → Nat → Int64) → Prop) (x1 : Int32) (x2 : Int32) (x3 : Int32) (v : Nat → Int32) (f : Nat → Nat → Int32) (g : Nat → Nat → Int64) : Prop :=
r_hasWord (fun r_1 v_1 f_1 g_1 => 
r_goes (fun r_2 v_2 f_2 g_2 => 
((r_2 = 0 →
  Q ((nI 0)) v_2 f_2 g_2) ∧
 (¬ r_2 = 0 →
  r_sharedBy (fun r_3 v_3 f_3 g_3 => 
  Q r_3 v_3 f_3 g_3) x3 v_2 f_2 g_2))) r_1 ((nI 1)) ((nI 1)) v_1 f_1 g_1) x1 x2 x3 v f g
set_option maxHeartbeats 1000000 in
set_option maxRecDepth 20000 in
theorem s_shared (l : Launch) (x1 : Int32) (x2 : Int32) (x3 : Int32) (v : Nat → Int32) (f : Nat → Nat → Int32) (g : Nat → Nat → Int64) {P : Int32 → (Nat → Int32) → (Nat → Nat → Int32) → (Nat → Nat → Int64) → Prop} (h : r_shared P x1 x2 x3 v f g) : mMi l yX12_shared cX12_shared 4 (some .int) 4 98 false [.int x1, .int x2, .int x3] v f g (fun r w => P r w.1 w.2.1 w.2.2) := by
  intro D cI cJ cZ a sz
  refine mg_body (by decide +kernel) rfl (Nat.le_of_ble_eq_true rfl) ?_
  intro p e s m args below meth c hsz C
  clear hsz
  generalize va_A (mW cI cJ cZ a v f g) sz = A at C ⊢
  refine mg_lv (lv' := [(0, .ref (a 0)), (1, .int x1), (2, .int x2), (3, .int x3)]) rfl ?_
  unfold r_shared at h
  refine mg_aload_n C (i := 0) rfl 0 rfl dX12_shared_0 ?_
  refine mg_aload_n C (i := 0) rfl 0 rfl dX12_shared_1 ?_
  refine mg_iload_n C (i := 1) rfl 1 rfl dX12_shared_2 ?_
  refine mg_iload_n C (i := 2) rfl 2 rfl dX12_shared_3 ?_
  refine mg_iload_n C (i := 3) rfl 3 rfl dX12_shared_4 ?_
  refine mg_calliW C (s_hasWord l x1 x2 x3 v f g h) mCal_hasWord rfl ⟨by decide, by decide⟩ rfl (Nat.le_of_ble_eq_true rfl) dX12_shared_5 (fun r_1 v_1 f_1 g_1 h => ?_)
  refine mg_iconst C (x := nI 1) rfl dX12_shared_8 ?_
  refine mg_iconst C (x := nI 1) rfl dX12_shared_9 ?_
  refine mg_calliW C (s_goes l r_1 ((nI 1)) ((nI 1)) v_1 f_1 g_1 h) mCal_goes rfl ⟨by decide, by decide⟩ rfl (Nat.le_of_ble_eq_true rfl) dX12_shared_10 (fun r_2 v_2 f_2 g_2 h => ?_)
  refine mg_if_eq C 24 (by decide) dX12_shared_13 (fun c_ => ?_) (fun c_ => ?_)
  · have h := h.1 c_
    refine mg_iconst C (x := nI 0) rfl dX12_shared_24 ?_
    exact mg_iret C h dX12_shared_25
  · have h := h.2 c_
    refine mg_aload_n C (i := 0) rfl 0 rfl dX12_shared_16 ?_
    refine mg_iload_n C (i := 3) rfl 3 rfl dX12_shared_17 ?_
    refine mg_calliW C (s_sharedBy l x3 v_2 f_2 g_2 h) mCal_sharedBy rfl ⟨by decide, by decide⟩ rfl (Nat.le_of_ble_eq_true rfl) dX12_shared_18 (fun r_3 v_3 f_3 g_3 h => ?_)
    refine mg_goto C 25 (by decide) dX12_shared_21 ?_
    exact mg_iret C h dX12_shared_25
def r_wordBytes_19 (Q : Int32 → (Nat → Int32) → (Nat → Nat → Int32) → (Nat → Nat → Int64) → Prop) (R19 : Int32 → Int32 → Int32 → (Nat → Int32) → (Nat → Nat → Int32) → (Nat → Nat → Int64) → Prop) (x3 : Int32) (x4 : Int32) (x5 : Int32) (v : Nat → Int32) (f : Nat → Nat → Int32) (g : Nat → Nat → Int64) : Prop :=
((x4 = 0 →
  Q x3 v f g) ∧
 (¬ x4 = 0 →
  ((((v 55)) ≤ x5 →
    Q x3 v f g) ∧
   (¬ ((v 55)) ≤ x5 →
    vp_in x5 2200 ∧ (r_length (fun r_3 v_3 f_3 g_3 => 
    r_sharedBy (fun r_4 v_4 f_4 g_4 => 
    ∀ x3_5 : Int32, x3_5 = (x3 + ((((((nI 2)) + r_3)) - r_4))) → ∀ x5_6 : Int32, x5_6 = x5 + nI 1 → R19 x3_5 x4 x5_6 v_4 f_4 g_4) x5 v_3 f_3 g_3) (g 35 (x5).toNatClampNeg) v f g)))))
def r_wordBytes_19L (Q : Int32 → (Nat → Int32) → (Nat → Nat → Int32) → (Nat → Nat → Int64) → Prop)  (x3 : Int32) (x4 : Int32) (x5 : Int32) (v : Nat → Int32) (f : Nat → Nat → Int32) (g : Nat → Nat → Int64) : Prop :=
  lfp (X := Int32 × Int32 × Int32 × (Nat → Int32) × (Nat → Nat → Int32) × (Nat → Nat → Int64)) (fun P y => r_wordBytes_19 Q  (fun b0 b1 b2 v f g => P (b0, b1, b2, v, f, g)) y.1 y.2.1 y.2.2.1 y.2.2.2.1 y.2.2.2.2.1 y.2.2.2.2.2) (x3, x4, x5, v, f, g)
def r_wordBytes (Q : Int32 → (Nat → Int32) → (Nat → Nat → Int32) → (Nat → Nat → Int64) → Prop) (x1 : Int32) (x2 : Int32) (v : Nat → Int32) (f : Nat → Nat → Int32) (g : Nat → Nat → Int64) : Prop :=
r_hasWords (fun r_1 v_1 f_1 g_1 => 
r_goes (fun r_2 v_2 f_2 g_2 => 
r_wordBytes_19L Q  (((nI 0))) r_2 (((nI 0))) v_2 f_2 g_2) r_1 ((nI 1)) ((nI 1)) v_1 f_1 g_1) x1 x2 v f g
section S_wordBytes
variable {p : Program} {l : Launch} {e : Env} {s : State} {m : MethodId} {args : Array Value} {below : List Frame} {meth : Method} {c : Code} {A : Nat → Prop} {D : va_G} {cI cJ cZ : ClassId} {a : Nat → Nat}
set_option maxRecDepth 20000 in
theorem sb_wordBytes_19 (C : mC p s m args meth c cX12_wordBytes 6 (some .int) A D cI cJ cZ) {post : Int32 → mS → Prop} {R19 : Int32 → Int32 → Int32 → (Nat → Int32) → (Nat → Nat → Int32) → (Nat → Nat → Int64) → Prop} (hR19 : ∀ (x3 : Int32) (x4 : Int32) (x5 : Int32) (v : Nat → Int32) (f : Nat → Nat → Int32) (g : Nat → Nat → Int64), R19 x3 x4 x5 v f g → mG p l e (mRm 3 75) s m args below meth c A D cI cJ cZ a 6 (MQ below (va_Qi post (mB D cI cJ cZ a) A) args s 0 0 A) 19 [(0, .ref (a 0)), (3, .int x3), (4, .int x4), (5, .int x5)] [] v f g) (x3 : Int32) (x4 : Int32) (x5 : Int32) (v : Nat → Int32) (f : Nat → Nat → Int32) (g : Nat → Nat → Int64) (h : r_wordBytes_19 (fun r v f g => post r (v, f, g)) R19 x3 x4 x5 v f g) : mG p l e (mRm 3 75) s m args below meth c A D cI cJ cZ a 6 (MQ below (va_Qi post (mB D cI cJ cZ a) A) args s 0 0 A) 19 [(0, .ref (a 0)), (3, .int x3), (4, .int x4), (5, .int x5)] [] v f g := by
  unfold r_wordBytes_19 at h
  refine mg_iload C 2 rfl dX12_wordBytes_19 ?_
  refine mg_if_eq C 62 (by decide) dX12_wordBytes_21 (fun c_ => ?_) (fun c_ => ?_)
  · have h := h.1 c_
    refine mg_iload_n C (i := 3) rfl 1 rfl dX12_wordBytes_62 ?_
    exact mg_iret C h dX12_wordBytes_63
  · have h := h.2 c_
    refine mg_iload C 3 rfl dX12_wordBytes_24 ?_
    refine mg_aload_n C (i := 0) rfl 0 rfl dX12_wordBytes_26 ?_
    refine mg_getI C (k := 55) (by decide) rfl mL_foundMany rfl dX12_wordBytes_27 ?_
    refine mg_icmp_ge C 62 (by decide) dX12_wordBytes_30 (fun c_ => ?_) (fun c_ => ?_)
    · have h := h.1 c_
      refine mg_iload_n C (i := 3) rfl 1 rfl dX12_wordBytes_62 ?_
      exact mg_iret C h dX12_wordBytes_63
    · have h := h.2 c_
      refine mg_iload_n C (i := 3) rfl 1 rfl dX12_wordBytes_33 ?_
      refine mg_iconst C (x := nI 2) rfl dX12_wordBytes_34 ?_
      refine mg_aload_n C (i := 0) rfl 0 rfl dX12_wordBytes_35 ?_
      refine mg_aload_n C (i := 0) rfl 0 rfl dX12_wordBytes_36 ?_
      refine mg_arr C 35 (by decide) (by decide) rfl mL_found rfl dX12_wordBytes_37 ?_
      refine mg_iload C 3 rfl dX12_wordBytes_40 ?_
      obtain ⟨hc_42, h⟩ := h
      refine mg_laloadR C (n := 2200) 35 (by decide) (by decide) rfl rfl hc_42 dX12_wordBytes_42 ?_
      refine mg_calliW C (s_length l (g 35 (x5).toNatClampNeg) v f g h) mCal_length rfl ⟨by decide, by decide⟩ rfl (Nat.le_of_ble_eq_true rfl) dX12_wordBytes_43 (fun r_3 v_3 f_3 g_3 h => ?_)
      refine mg_iadd C dX12_wordBytes_46 ?_
      refine mg_aload_n C (i := 0) rfl 0 rfl dX12_wordBytes_47 ?_
      refine mg_iload C 3 rfl dX12_wordBytes_48 ?_
      refine mg_calliW C (s_sharedBy l x5 v_3 f_3 g_3 h) mCal_sharedBy rfl ⟨by decide, by decide⟩ rfl (Nat.le_of_ble_eq_true rfl) dX12_wordBytes_50 (fun r_4 v_4 f_4 g_4 h => ?_)
      refine mg_isub C dX12_wordBytes_53 ?_
      refine mg_iadd C dX12_wordBytes_54 ?_
      refine mg_nmI (fun x3_5 e_x3_5 => ?_)
      have h := h x3_5 e_x3_5
      refine mg_istore_n C (i := 3) (lv' := [(3, .int x3_5), (0, .ref (a 0)), (4, .int x4), (5, .int x5)]) rfl (Nat.le_of_ble_eq_true rfl) rfl dX12_wordBytes_55 ?_
      obtain ⟨x5_6, e_x5_6⟩ : ∃ z : Int32, z = x5 + nI 1 := ⟨_, rfl⟩
      have h := h x5_6 e_x5_6
      refine mg_iinc C (lv' := [(5, .int x5_6), (3, .int x3_5), (0, .ref (a 0)), (4, .int x4)]) 3 rfl (by rw [e_x5_6]; rfl) (Nat.le_of_ble_eq_true rfl) rfl dX12_wordBytes_56 ?_
      refine mg_goto C 19 (by decide) dX12_wordBytes_59 ?_
      exact mg_sub [2, 1, 3, 0] rfl (hR19 x3_5 x4 x5_6 v_4 f_4 g_4 h)
set_option maxRecDepth 20000 in
theorem sl_wordBytes_19 (C : mC p s m args meth c cX12_wordBytes 6 (some .int) A D cI cJ cZ) {post : Int32 → mS → Prop}   (x3 : Int32) (x4 : Int32) (x5 : Int32) (v : Nat → Int32) (f : Nat → Nat → Int32) (g : Nat → Nat → Int64) (h : r_wordBytes_19L (fun r v f g => post r (v, f, g))  x3 x4 x5 v f g) : mG p l e (mRm 3 75) s m args below meth c A D cI cJ cZ a 6 (MQ below (va_Qi post (mB D cI cJ cZ a) A) args s 0 0 A) 19 [(0, .ref (a 0)), (3, .int x3), (4, .int x4), (5, .int x5)] [] v f g :=
  h (fun y => mG p l e (mRm 3 75) s m args below meth c A D cI cJ cZ a 6 (MQ below (va_Qi post (mB D cI cJ cZ a) A) args s 0 0 A) 19 [(0, .ref (a 0)), (3, .int (y.1)), (4, .int (y.2.1)), (5, .int (y.2.2.1))] [] (y.2.2.2.1) (y.2.2.2.2.1) (y.2.2.2.2.2)) (fun y hy => sb_wordBytes_19 C  (fun b0 b1 b2 v f g z => z) (y.1) (y.2.1) (y.2.2.1) (y.2.2.2.1) (y.2.2.2.2.1) (y.2.2.2.2.2) hy)
end S_wordBytes
set_option maxHeartbeats 1000000 in
set_option maxRecDepth 20000 in
theorem s_wordBytes (l : Launch) (x1 : Int32) (x2 : Int32) (v : Nat → Int32) (f : Nat → Nat → Int32) (g : Nat → Nat → Int64) {P : Int32 → (Nat → Int32) → (Nat → Nat → Int32) → (Nat → Nat → Int64) → Prop} (h : r_wordBytes P x1 x2 v f g) : mMi l yX12_wordBytes cX12_wordBytes 6 (some .int) 3 75 false [.int x1, .int x2] v f g (fun r w => P r w.1 w.2.1 w.2.2) := by
  intro D cI cJ cZ a sz
  refine mg_body (by decide +kernel) rfl (Nat.le_of_ble_eq_true rfl) ?_
  intro p e s m args below meth c hsz C
  clear hsz
  generalize va_A (mW cI cJ cZ a v f g) sz = A at C ⊢
  refine mg_lv (lv' := [(0, .ref (a 0)), (1, .int x1), (2, .int x2)]) rfl ?_
  unfold r_wordBytes at h
  refine mg_iconst C (x := nI 0) rfl dX12_wordBytes_0 ?_
  refine mg_istore_n C (i := 3) (lv' := [(3, .int ((nI 0))), (0, .ref (a 0)), (1, .int x1), (2, .int x2)]) rfl (Nat.le_of_ble_eq_true rfl) rfl dX12_wordBytes_1 ?_
  refine mg_aload_n C (i := 0) rfl 1 rfl dX12_wordBytes_2 ?_
  refine mg_aload_n C (i := 0) rfl 1 rfl dX12_wordBytes_3 ?_
  refine mg_iload_n C (i := 1) rfl 2 rfl dX12_wordBytes_4 ?_
  refine mg_iload_n C (i := 2) rfl 3 rfl dX12_wordBytes_5 ?_
  refine mg_calliW C (s_hasWords l x1 x2 v f g h) mCal_hasWords rfl ⟨by decide, by decide⟩ rfl (Nat.le_of_ble_eq_true rfl) dX12_wordBytes_6 (fun r_1 v_1 f_1 g_1 h => ?_)
  refine mg_iconst C (x := nI 1) rfl dX12_wordBytes_9 ?_
  refine mg_iconst C (x := nI 1) rfl dX12_wordBytes_10 ?_
  refine mg_calliW C (s_goes l r_1 ((nI 1)) ((nI 1)) v_1 f_1 g_1 h) mCal_goes rfl ⟨by decide, by decide⟩ rfl (Nat.le_of_ble_eq_true rfl) dX12_wordBytes_11 (fun r_2 v_2 f_2 g_2 h => ?_)
  refine mg_istore C (lv' := [(4, .int r_2), (3, .int ((nI 0))), (0, .ref (a 0)), (1, .int x1), (2, .int x2)]) (Nat.le_of_ble_eq_true rfl) rfl dX12_wordBytes_14 ?_
  refine mg_iconst C (x := nI 0) rfl dX12_wordBytes_16 ?_
  refine mg_istore C (lv' := [(5, .int ((nI 0))), (4, .int r_2), (3, .int ((nI 0))), (0, .ref (a 0)), (1, .int x1), (2, .int x2)]) (Nat.le_of_ble_eq_true rfl) rfl dX12_wordBytes_17 ?_
  exact mg_sub [3, 2, 1, 0] rfl (sl_wordBytes_19 C  (((nI 0))) r_2 (((nI 0))) v_2 f_2 g_2 h)
def r_signAt_83 (Q : Int32 → (Nat → Int32) → (Nat → Nat → Int32) → (Nat → Nat → Int64) → Prop)  (t0 : Int32) (v : Nat → Int32) (f : Nat → Nat → Int32) (g : Nat → Nat → Int64) : Prop :=
isC ((((t0).toUInt32 % 65536).toInt32)) ∧ (Q ((((t0).toUInt32 % 65536).toInt32)) v f g)
def r_signAt_46 (Q : Int32 → (Nat → Int32) → (Nat → Nat → Int32) → (Nat → Nat → Int64) → Prop)  (t0 : Int32) (v : Nat → Int32) (f : Nat → Nat → Int32) (g : Nat → Nat → Int64) : Prop :=
((¬ t0 = 0 →
  ((((nI 10)) < t0 →
    r_signAt_83 Q  ((((((nI 97)) + t0)) - ((nI 11)))) v f g) ∧
   (¬ ((nI 10)) < t0 →
    r_signAt_83 Q  ((((((nI 48)) + t0)) - ((nI 1)))) v f g))) ∧
 (t0 = 0 →
  isC ((nI 32)) ∧ (Q ((nI 32)) v f g)))
def r_signAt (Q : Int32 → (Nat → Int32) → (Nat → Nat → Int32) → (Nat → Nat → Int64) → Prop) (x1 : Int32) (x2 : Int32) (x3 : Int32) (x4 : Int32) (v : Nat → Int32) (f : Nat → Nat → Int32) (g : Nat → Nat → Int64) : Prop :=
r_hasWord (fun r_1 v_1 f_1 g_1 => 
r_goes (fun r_2 v_2 f_2 g_2 => 
((¬ r_2 = 0 →
  r_in (fun r_3 v_3 f_3 g_3 => 
  ((r_3 = 0 →
    r_signAt_46 Q  ((nI 0)) v_3 f_3 g_3) ∧
   (¬ r_3 = 0 →
    vp_in x3 2200 ∧ (r_at (fun r_4 v_4 f_4 g_4 => 
    r_signAt_46 Q  r_4 v_4 f_4 g_4) (g_3 35 (x3).toNatClampNeg) x4 v_3 f_3 g_3)))) x4 ((nI 0)) ((nI 11)) v_2 f_2 g_2) ∧
 (r_2 = 0 →
  isC ((nI 32)) ∧ (Q ((nI 32)) v_2 f_2 g_2)))) r_1 ((nI 1)) ((nI 1)) v_1 f_1 g_1) x1 x2 x3 v f g
section S_signAt
variable {p : Program} {l : Launch} {e : Env} {s : State} {m : MethodId} {args : Array Value} {below : List Frame} {meth : Method} {c : Code} {A : Nat → Prop} {D : va_G} {cI cJ cZ : ClassId} {a : Nat → Nat}
set_option maxRecDepth 20000 in
theorem sb_signAt_83 (C : mC p s m args meth c cX12_signAt 6 (some .char) A D cI cJ cZ) {post : Int32 → mS → Prop}   (t0 : Int32) (v : Nat → Int32) (f : Nat → Nat → Int32) (g : Nat → Nat → Int64) (h : r_signAt_83 (fun r v f g => post r (v, f, g))  t0 v f g) : mG p l e (mRm 4 98) s m args below meth c A D cI cJ cZ a 6 (MQ below (va_Qi post (mB D cI cJ cZ a) A) args s 0 0 A) 83 [] [.int t0] v f g := by
  unfold r_signAt_83 at h
  refine mg_i2c C dX12_signAt_83 ?_
  obtain ⟨hc_84, h⟩ := h
  exact mg_cret C hc_84 h dX12_signAt_84
set_option maxRecDepth 20000 in
theorem sb_signAt_46 (C : mC p s m args meth c cX12_signAt 6 (some .char) A D cI cJ cZ) {post : Int32 → mS → Prop}   (t0 : Int32) (v : Nat → Int32) (f : Nat → Nat → Int32) (g : Nat → Nat → Int64) (h : r_signAt_46 (fun r v f g => post r (v, f, g))  t0 v f g) : mG p l e (mRm 4 98) s m args below meth c A D cI cJ cZ a 6 (MQ below (va_Qi post (mB D cI cJ cZ a) A) args s 0 0 A) 46 [] [.int t0] v f g := by
  unfold r_signAt_46 at h
  refine mg_istore C (lv' := [(5, .int t0)]) (Nat.le_of_ble_eq_true rfl) rfl dX12_signAt_46 ?_
  refine mg_iload C 0 rfl dX12_signAt_48 ?_
  refine mg_if_ne C 58 (by decide) dX12_signAt_50 (fun c_ => ?_) (fun c_ => ?_)
  · have h := h.1 c_
    refine mg_iload C 0 rfl dX12_signAt_58 ?_
    refine mg_bipush C (x := nI 10) rfl dX12_signAt_60 ?_
    refine mg_icmp_gt C 75 (by decide) dX12_signAt_62 (fun c_ => ?_) (fun c_ => ?_)
    · have h := h.1 c_
      refine mg_bipush C (x := nI 97) rfl dX12_signAt_75 ?_
      refine mg_iload C 0 rfl dX12_signAt_77 ?_
      refine mg_iadd C dX12_signAt_79 ?_
      refine mg_bipush C (x := nI 11) rfl dX12_signAt_80 ?_
      refine mg_isub C dX12_signAt_82 ?_
      exact mg_sub [] rfl (sb_signAt_83 C  ((((((nI 97)) + t0)) - ((nI 11)))) v f g h)
    · have h := h.2 c_
      refine mg_bipush C (x := nI 48) rfl dX12_signAt_65 ?_
      refine mg_iload C 0 rfl dX12_signAt_67 ?_
      refine mg_iadd C dX12_signAt_69 ?_
      refine mg_iconst C (x := nI 1) rfl dX12_signAt_70 ?_
      refine mg_isub C dX12_signAt_71 ?_
      refine mg_goto C 83 (by decide) dX12_signAt_72 ?_
      exact mg_sub [] rfl (sb_signAt_83 C  ((((((nI 48)) + t0)) - ((nI 1)))) v f g h)
  · have h := h.2 c_
    refine mg_bipush C (x := nI 32) rfl dX12_signAt_53 ?_
    refine mg_goto C 84 (by decide) dX12_signAt_55 ?_
    obtain ⟨hc_84, h⟩ := h
    exact mg_cret C hc_84 h dX12_signAt_84
end S_signAt
set_option maxHeartbeats 1000000 in
set_option maxRecDepth 20000 in
theorem s_signAt (l : Launch) (x1 : Int32) (x2 : Int32) (x3 : Int32) (x4 : Int32) (v : Nat → Int32) (f : Nat → Nat → Int32) (g : Nat → Nat → Int64) {P : Int32 → (Nat → Int32) → (Nat → Nat → Int32) → (Nat → Nat → Int64) → Prop} (h : r_signAt P x1 x2 x3 x4 v f g) : mMi l yX12_signAt cX12_signAt 6 (some .char) 4 98 false [.int x1, .int x2, .int x3, .int x4] v f g (fun r w => P r w.1 w.2.1 w.2.2) := by
  intro D cI cJ cZ a sz
  refine mg_body (by decide +kernel) rfl (Nat.le_of_ble_eq_true rfl) ?_
  intro p e s m args below meth c hsz C
  clear hsz
  generalize va_A (mW cI cJ cZ a v f g) sz = A at C ⊢
  refine mg_lv (lv' := [(0, .ref (a 0)), (1, .int x1), (2, .int x2), (3, .int x3), (4, .int x4)]) rfl ?_
  unfold r_signAt at h
  refine mg_aload_n C (i := 0) rfl 0 rfl dX12_signAt_0 ?_
  refine mg_aload_n C (i := 0) rfl 0 rfl dX12_signAt_1 ?_
  refine mg_iload_n C (i := 1) rfl 1 rfl dX12_signAt_2 ?_
  refine mg_iload_n C (i := 2) rfl 2 rfl dX12_signAt_3 ?_
  refine mg_iload_n C (i := 3) rfl 3 rfl dX12_signAt_4 ?_
  refine mg_calliW C (s_hasWord l x1 x2 x3 v f g h) mCal_hasWord rfl ⟨by decide, by decide⟩ rfl (Nat.le_of_ble_eq_true rfl) dX12_signAt_5 (fun r_1 v_1 f_1 g_1 h => ?_)
  refine mg_iconst C (x := nI 1) rfl dX12_signAt_8 ?_
  refine mg_iconst C (x := nI 1) rfl dX12_signAt_9 ?_
  refine mg_calliW C (s_goes l r_1 ((nI 1)) ((nI 1)) v_1 f_1 g_1 h) mCal_goes rfl ⟨by decide, by decide⟩ rfl (Nat.le_of_ble_eq_true rfl) dX12_signAt_10 (fun r_2 v_2 f_2 g_2 h => ?_)
  refine mg_if_ne C 19 (by decide) dX12_signAt_13 (fun c_ => ?_) (fun c_ => ?_)
  · have h := h.1 c_
    refine mg_iload C 4 rfl dX12_signAt_19 ?_
    refine mg_iconst C (x := nI 0) rfl dX12_signAt_21 ?_
    refine mg_bipush C (x := nI 11) rfl dX12_signAt_22 ?_
    refine mg_callsiW C (s_in l x4 ((nI 0)) ((nI 11)) v_2 f_2 g_2 h) mCal_in rfl ⟨by decide, by decide⟩ rfl (Nat.le_of_ble_eq_true rfl) dX12_signAt_24 (fun r_3 v_3 f_3 g_3 h => ?_)
    refine mg_if_eq C 45 (by decide) dX12_signAt_27 (fun c_ => ?_) (fun c_ => ?_)
    · have h := h.1 c_
      refine mg_iconst C (x := nI 0) rfl dX12_signAt_45 ?_
      exact mg_sub [] rfl (sb_signAt_46 C  ((nI 0)) v_3 f_3 g_3 h)
    · have h := h.2 c_
      refine mg_aload_n C (i := 0) rfl 0 rfl dX12_signAt_30 ?_
      refine mg_aload_n C (i := 0) rfl 0 rfl dX12_signAt_31 ?_
      refine mg_arr C 35 (by decide) (by decide) rfl mL_found rfl dX12_signAt_32 ?_
      refine mg_iload_n C (i := 3) rfl 3 rfl dX12_signAt_35 ?_
      obtain ⟨hc_36, h⟩ := h
      refine mg_laloadR C (n := 2200) 35 (by decide) (by decide) rfl rfl hc_36 dX12_signAt_36 ?_
      refine mg_iload C 4 rfl dX12_signAt_37 ?_
      refine mg_calliW C (s_at l (g_3 35 (x3).toNatClampNeg) x4 v_3 f_3 g_3 h) mCal_at rfl ⟨by decide, by decide⟩ rfl (Nat.le_of_ble_eq_true rfl) dX12_signAt_39 (fun r_4 v_4 f_4 g_4 h => ?_)
      refine mg_goto C 46 (by decide) dX12_signAt_42 ?_
      exact mg_sub [] rfl (sb_signAt_46 C  r_4 v_4 f_4 g_4 h)
  · have h := h.2 c_
    refine mg_bipush C (x := nI 32) rfl dX12_signAt_16 ?_
    obtain ⟨hc_18, h⟩ := h
    exact mg_cret C hc_18 h dX12_signAt_18
def r_writesBits_31 (Q : (Nat → Int32) → (Nat → Nat → Int32) → (Nat → Nat → Int64) → Prop) (R4 : Int32 → Int32 → (Nat → Int32) → (Nat → Nat → Int32) → (Nat → Nat → Int64) → Prop) (x1 : Int32) (x3 : Int32) (v : Nat → Int32) (f : Nat → Nat → Int32) (g : Nat → Nat → Int64) : Prop :=
vp_in ((((v 58)) / ((nI 8)))) 2400 ∧ (vp_in ((((v 58)) / ((nI 8)))) 2400 ∧ (∀ f2 : Nat → Nat → Int32, f2 = mU f 37 ((((v 58)) / ((nI 8)))).toNatClampNeg ((((f 37 ((((v 58)) / ((nI 8)))).toNatClampNeg)) ||| ((((((x1 >>> (x3 &&& 31))) &&& ((nI 1)))) <<< (((((nI 7)) - ((((v 58)) - ((v 58)) / ((nI 8)) * ((nI 8)))))) &&& 31))))) → ∀ v3 : Nat → Int32, v3 = upd v 58 ((((v 58)) + ((nI 1)))) → ∀ x3_4 : Int32, x3_4 = x3 + (-1) → R4 x1 x3_4 v3 f2 g))
def r_writesBits_4 (Q : (Nat → Int32) → (Nat → Nat → Int32) → (Nat → Nat → Int64) → Prop) (R4 : Int32 → Int32 → (Nat → Int32) → (Nat → Nat → Int32) → (Nat → Nat → Int64) → Prop) (x1 : Int32) (x3 : Int32) (v : Nat → Int32) (f : Nat → Nat → Int32) (g : Nat → Nat → Int64) : Prop :=
((x3 < 0 →
  Q v f g) ∧
 (¬ x3 < 0 →
  ((¬ ((((v 58)) - ((v 58)) / ((nI 8)) * ((nI 8)))) = 0 →
    r_writesBits_31 Q R4 x1 x3 v f g) ∧
   (((((v 58)) - ((v 58)) / ((nI 8)) * ((nI 8)))) = 0 →
    vp_in ((((v 58)) / ((nI 8)))) 2400 ∧ (∀ f5 : Nat → Nat → Int32, f5 = mU f 37 ((((v 58)) / ((nI 8)))).toNatClampNeg ((nI 0)) → r_writesBits_31 Q R4 x1 x3 v f5 g)))))
def r_writesBits_4L (Q : (Nat → Int32) → (Nat → Nat → Int32) → (Nat → Nat → Int64) → Prop)  (x1 : Int32) (x3 : Int32) (v : Nat → Int32) (f : Nat → Nat → Int32) (g : Nat → Nat → Int64) : Prop :=
  lfp (X := Int32 × Int32 × (Nat → Int32) × (Nat → Nat → Int32) × (Nat → Nat → Int64)) (fun P y => r_writesBits_4 Q  (fun b0 b1 v f g => P (b0, b1, v, f, g)) y.1 y.2.1 y.2.2.1 y.2.2.2.1 y.2.2.2.2) (x1, x3, v, f, g)
def r_writesBits (Q : (Nat → Int32) → (Nat → Nat → Int32) → (Nat → Nat → Int64) → Prop) (x1 : Int32) (x2 : Int32) (v : Nat → Int32) (f : Nat → Nat → Int32) (g : Nat → Nat → Int64) : Prop :=
∀ x3_1 : Int32, x3_1 = (x2 - ((nI 1))) → r_writesBits_4L Q  x1 x3_1 v f g
section S_writesBits
variable {p : Program} {l : Launch} {e : Env} {s : State} {m : MethodId} {args : Array Value} {below : List Frame} {meth : Method} {c : Code} {A : Nat → Prop} {D : va_G} {cI cJ cZ : ClassId} {a : Nat → Nat}
set_option maxRecDepth 20000 in
theorem sb_writesBits_31 (C : mC p s m args meth c cX12_writesBits 4 none A D cI cJ cZ) {post : mS → Prop} {R4 : Int32 → Int32 → (Nat → Int32) → (Nat → Nat → Int32) → (Nat → Nat → Int64) → Prop} (hR4 : ∀ (x1 : Int32) (x3 : Int32) (v : Nat → Int32) (f : Nat → Nat → Int32) (g : Nat → Nat → Int64), R4 x1 x3 v f g → mG p l e (mRm 0 0) s m args below meth c A D cI cJ cZ a 4 (MQ below (va_Qv post (mB D cI cJ cZ a) A) args s 0 0 A) 4 [(0, .ref (a 0)), (1, .int x1), (3, .int x3)] [] v f g) (x1 : Int32) (x3 : Int32) (v : Nat → Int32) (f : Nat → Nat → Int32) (g : Nat → Nat → Int64) (h : r_writesBits_31 (fun v f g => post (v, f, g)) R4 x1 x3 v f g) : mG p l e (mRm 0 0) s m args below meth c A D cI cJ cZ a 4 (MQ below (va_Qv post (mB D cI cJ cZ a) A) args s 0 0 A) 31 [(0, .ref (a 0)), (1, .int x1), (3, .int x3)] [] v f g := by
  unfold r_writesBits_31 at h
  refine mg_aload_n C (i := 0) rfl 0 rfl dX12_writesBits_31 ?_
  refine mg_arr C 37 (by decide) (by decide) rfl mL_packed rfl dX12_writesBits_32 ?_
  refine mg_aload_n C (i := 0) rfl 0 rfl dX12_writesBits_35 ?_
  refine mg_getI C (k := 58) (by decide) rfl mL_packedBits rfl dX12_writesBits_36 ?_
  refine mg_bipush C (x := nI 8) rfl dX12_writesBits_39 ?_
  refine mg_idiv C (by decide) dX12_writesBits_41 ?_
  refine mg_dup2 C rfl rfl dX12_writesBits_42 ?_
  obtain ⟨hc_43, h⟩ := h
  refine mg_ialoadR C (n := 2400) 37 (by decide) (by decide) rfl rfl hc_43 dX12_writesBits_43 ?_
  refine mg_iload_n C (i := 1) rfl 1 rfl dX12_writesBits_44 ?_
  refine mg_iload_n C (i := 3) rfl 2 rfl dX12_writesBits_45 ?_
  refine mg_ishr C dX12_writesBits_46 ?_
  refine mg_iconst C (x := nI 1) rfl dX12_writesBits_47 ?_
  refine mg_iand C dX12_writesBits_48 ?_
  refine mg_bipush C (x := nI 7) rfl dX12_writesBits_49 ?_
  refine mg_aload_n C (i := 0) rfl 0 rfl dX12_writesBits_51 ?_
  refine mg_getI C (k := 58) (by decide) rfl mL_packedBits rfl dX12_writesBits_52 ?_
  refine mg_bipush C (x := nI 8) rfl dX12_writesBits_55 ?_
  refine mg_irem C (by decide) dX12_writesBits_57 ?_
  refine mg_isub C dX12_writesBits_58 ?_
  refine mg_ishl C dX12_writesBits_59 ?_
  refine mg_ior C dX12_writesBits_60 ?_
  obtain ⟨hc_61, h⟩ := h
  refine mg_iastoreR C (n := 2400) 37 (by decide) (by decide) rfl rfl hc_61 dX12_writesBits_61 ?_
  refine mg_nmF (fun f2 e_f2 => ?_)
  have h := h f2 e_f2
  refine mg_aload_n C (i := 0) rfl 0 rfl dX12_writesBits_62 ?_
  refine mg_dup C rfl dX12_writesBits_63 ?_
  refine mg_getI C (k := 58) (by decide) rfl mL_packedBits rfl dX12_writesBits_64 ?_
  refine mg_iconst C (x := nI 1) rfl dX12_writesBits_67 ?_
  refine mg_iadd C dX12_writesBits_68 ?_
  refine mg_put C (k := 58) (by decide) rfl mL_packedBits rfl (by decide +kernel) mT_packedBits rfl rfl dX12_writesBits_69 ?_
  refine mg_nmV (fun v3 e_v3 => ?_)
  have h := h v3 e_v3
  obtain ⟨x3_4, e_x3_4⟩ : ∃ z : Int32, z = x3 + (-1) := ⟨_, rfl⟩
  have h := h x3_4 e_x3_4
  refine mg_iinc C (lv' := [(3, .int x3_4), (0, .ref (a 0)), (1, .int x1)]) 2 rfl (by rw [e_x3_4]; rfl) (Nat.le_of_ble_eq_true rfl) rfl dX12_writesBits_72 ?_
  refine mg_goto C 4 (by decide) dX12_writesBits_75 ?_
  exact mg_sub [1, 2, 0] rfl (hR4 x1 x3_4 v3 f2 g h)
set_option maxRecDepth 20000 in
theorem sb_writesBits_4 (C : mC p s m args meth c cX12_writesBits 4 none A D cI cJ cZ) {post : mS → Prop} {R4 : Int32 → Int32 → (Nat → Int32) → (Nat → Nat → Int32) → (Nat → Nat → Int64) → Prop} (hR4 : ∀ (x1 : Int32) (x3 : Int32) (v : Nat → Int32) (f : Nat → Nat → Int32) (g : Nat → Nat → Int64), R4 x1 x3 v f g → mG p l e (mRm 0 0) s m args below meth c A D cI cJ cZ a 4 (MQ below (va_Qv post (mB D cI cJ cZ a) A) args s 0 0 A) 4 [(0, .ref (a 0)), (1, .int x1), (3, .int x3)] [] v f g) (x1 : Int32) (x3 : Int32) (v : Nat → Int32) (f : Nat → Nat → Int32) (g : Nat → Nat → Int64) (h : r_writesBits_4 (fun v f g => post (v, f, g)) R4 x1 x3 v f g) : mG p l e (mRm 0 0) s m args below meth c A D cI cJ cZ a 4 (MQ below (va_Qv post (mB D cI cJ cZ a) A) args s 0 0 A) 4 [(0, .ref (a 0)), (1, .int x1), (3, .int x3)] [] v f g := by
  unfold r_writesBits_4 at h
  refine mg_iload_n C (i := 3) rfl 2 rfl dX12_writesBits_4 ?_
  refine mg_if_lt C 78 (by decide) dX12_writesBits_5 (fun c_ => ?_) (fun c_ => ?_)
  · have h := h.1 c_
    exact mg_vret C h dX12_writesBits_78
  · have h := h.2 c_
    refine mg_aload_n C (i := 0) rfl 0 rfl dX12_writesBits_8 ?_
    refine mg_getI C (k := 58) (by decide) rfl mL_packedBits rfl dX12_writesBits_9 ?_
    refine mg_bipush C (x := nI 8) rfl dX12_writesBits_12 ?_
    refine mg_irem C (by decide) dX12_writesBits_14 ?_
    refine mg_if_ne C 31 (by decide) dX12_writesBits_15 (fun c_ => ?_) (fun c_ => ?_)
    · have h := h.1 c_
      exact mg_sub [0, 1, 2] rfl (sb_writesBits_31 C hR4 x1 x3 v f g h)
    · have h := h.2 c_
      refine mg_aload_n C (i := 0) rfl 0 rfl dX12_writesBits_18 ?_
      refine mg_arr C 37 (by decide) (by decide) rfl mL_packed rfl dX12_writesBits_19 ?_
      refine mg_aload_n C (i := 0) rfl 0 rfl dX12_writesBits_22 ?_
      refine mg_getI C (k := 58) (by decide) rfl mL_packedBits rfl dX12_writesBits_23 ?_
      refine mg_bipush C (x := nI 8) rfl dX12_writesBits_26 ?_
      refine mg_idiv C (by decide) dX12_writesBits_28 ?_
      refine mg_iconst C (x := nI 0) rfl dX12_writesBits_29 ?_
      obtain ⟨hc_30, h⟩ := h
      refine mg_iastoreR C (n := 2400) 37 (by decide) (by decide) rfl rfl hc_30 dX12_writesBits_30 ?_
      refine mg_nmF (fun f5 e_f5 => ?_)
      have h := h f5 e_f5
      exact mg_sub [0, 1, 2] rfl (sb_writesBits_31 C hR4 x1 x3 v f5 g h)
set_option maxRecDepth 20000 in
theorem sl_writesBits_4 (C : mC p s m args meth c cX12_writesBits 4 none A D cI cJ cZ) {post : mS → Prop}   (x1 : Int32) (x3 : Int32) (v : Nat → Int32) (f : Nat → Nat → Int32) (g : Nat → Nat → Int64) (h : r_writesBits_4L (fun v f g => post (v, f, g))  x1 x3 v f g) : mG p l e (mRm 0 0) s m args below meth c A D cI cJ cZ a 4 (MQ below (va_Qv post (mB D cI cJ cZ a) A) args s 0 0 A) 4 [(0, .ref (a 0)), (1, .int x1), (3, .int x3)] [] v f g :=
  h (fun y => mG p l e (mRm 0 0) s m args below meth c A D cI cJ cZ a 4 (MQ below (va_Qv post (mB D cI cJ cZ a) A) args s 0 0 A) 4 [(0, .ref (a 0)), (1, .int (y.1)), (3, .int (y.2.1))] [] (y.2.2.1) (y.2.2.2.1) (y.2.2.2.2)) (fun y hy => sb_writesBits_4 C  (fun b0 b1 v f g z => z) (y.1) (y.2.1) (y.2.2.1) (y.2.2.2.1) (y.2.2.2.2) hy)
end S_writesBits
set_option maxHeartbeats 1000000 in
set_option maxRecDepth 20000 in
theorem s_writesBits (l : Launch) (x1 : Int32) (x2 : Int32) (v : Nat → Int32) (f : Nat → Nat → Int32) (g : Nat → Nat → Int64) {P : (Nat → Int32) → (Nat → Nat → Int32) → (Nat → Nat → Int64) → Prop} (h : r_writesBits P x1 x2 v f g) : mMv l yX12_writesBits cX12_writesBits 4 none 0 0 false [.int x1, .int x2] v f g (fun w => P w.1 w.2.1 w.2.2) := by
  intro D cI cJ cZ a sz
  refine mg_body (by decide +kernel) rfl (Nat.le_of_ble_eq_true rfl) ?_
  intro p e s m args below meth c hsz C
  clear hsz
  generalize va_A (mW cI cJ cZ a v f g) sz = A at C ⊢
  refine mg_lv (lv' := [(0, .ref (a 0)), (1, .int x1), (2, .int x2)]) rfl ?_
  unfold r_writesBits at h
  refine mg_iload_n C (i := 2) rfl 2 rfl dX12_writesBits_0 ?_
  refine mg_iconst C (x := nI 1) rfl dX12_writesBits_1 ?_
  refine mg_isub C dX12_writesBits_2 ?_
  refine mg_nmI (fun x3_1 e_x3_1 => ?_)
  have h := h x3_1 e_x3_1
  refine mg_istore_n C (i := 3) (lv' := [(3, .int x3_1), (0, .ref (a 0)), (1, .int x1), (2, .int x2)]) rfl (Nat.le_of_ble_eq_true rfl) rfl dX12_writesBits_3 ?_
  exact mg_sub [1, 2, 0] rfl (sl_writesBits_4 C  x1 x3_1 v f g h)
def r_packs_265 (Q : (Nat → Int32) → (Nat → Nat → Int32) → (Nat → Nat → Int64) → Prop) (R164 : Int32 → Int32 → (Nat → Int32) → (Nat → Nat → Int32) → (Nat → Nat → Int64) → Prop) (x5 : Int32) (x7 : Int32) (v : Nat → Int32) (f : Nat → Nat → Int32) (g : Nat → Nat → Int64) : Prop :=
∀ x7_4 : Int32, x7_4 = x7 + nI 4 → R164 x5 x7_4 v f g
def r_packs_230 (Q : (Nat → Int32) → (Nat → Nat → Int32) → (Nat → Nat → Int64) → Prop) (R164 : Int32 → Int32 → (Nat → Int32) → (Nat → Nat → Int32) → (Nat → Nat → Int64) → Prop) (R230 : Int32 → Int32 → Int32 → Int32 → (Nat → Int32) → (Nat → Nat → Int32) → (Nat → Nat → Int64) → Prop) (x5 : Int32) (x7 : Int32) (x8 : Int32) (x9 : Int32) (v : Nat → Int32) (f : Nat → Nat → Int32) (g : Nat → Nat → Int64) : Prop :=
((x5 ≤ x9 →
  r_packs_265 Q R164 x5 x7 v f g) ∧
 (¬ x5 ≤ x9 →
  ((((x7 + ((nI 4)))) ≤ x9 →
    r_packs_265 Q R164 x5 x7 v f g) ∧
   (¬ ((x7 + ((nI 4)))) ≤ x9 →
    vp_in x9 2300 ∧ (r_writesBits (fun v_5 f_5 g_5 => 
    ∀ x9_6 : Int32, x9_6 = x9 + nI 1 → R230 x5 x7 x8 x9_6 v_5 f_5 g_5) ((f 36 (x9).toNatClampNeg)) x8 v f g)))))
def r_packs_230L (Q : (Nat → Int32) → (Nat → Nat → Int32) → (Nat → Nat → Int64) → Prop) (R164 : Int32 → Int32 → (Nat → Int32) → (Nat → Nat → Int32) → (Nat → Nat → Int64) → Prop) (x5 : Int32) (x7 : Int32) (x8 : Int32) (x9 : Int32) (v : Nat → Int32) (f : Nat → Nat → Int32) (g : Nat → Nat → Int64) : Prop :=
  lfp (X := Int32 × Int32 × Int32 × Int32 × (Nat → Int32) × (Nat → Nat → Int32) × (Nat → Nat → Int64)) (fun P y => r_packs_230 Q R164 (fun b0 b1 b2 b3 v f g => P (b0, b1, b2, b3, v, f, g)) y.1 y.2.1 y.2.2.1 y.2.2.2.1 y.2.2.2.2.1 y.2.2.2.2.2.1 y.2.2.2.2.2.2) (x5, x7, x8, x9, v, f, g)
def r_packs_219 (Q : (Nat → Int32) → (Nat → Nat → Int32) → (Nat → Nat → Int64) → Prop) (R164 : Int32 → Int32 → (Nat → Int32) → (Nat → Nat → Int32) → (Nat → Nat → Int64) → Prop) (x5 : Int32) (x7 : Int32) (x8 : Int32) (v : Nat → Int32) (f : Nat → Nat → Int32) (g : Nat → Nat → Int64) : Prop :=
r_writesBits (fun v_3 f_3 g_3 => 
r_packs_230L Q R164 x5 x7 x8 x7 v_3 f_3 g_3) x8 ((nI 4)) v f g
def r_packs_194 (Q : (Nat → Int32) → (Nat → Nat → Int32) → (Nat → Nat → Int64) → Prop) (R164 : Int32 → Int32 → (Nat → Int32) → (Nat → Nat → Int32) → (Nat → Nat → Int64) → Prop) (R178 : Int32 → Int32 → Int32 → Int32 → (Nat → Int32) → (Nat → Nat → Int32) → (Nat → Nat → Int64) → Prop) (R194 : Int32 → Int32 → Int32 → Int32 → (Nat → Int32) → (Nat → Nat → Int32) → (Nat → Nat → Int64) → Prop) (x5 : Int32) (x7 : Int32) (x8 : Int32) (x9 : Int32) (v : Nat → Int32) (f : Nat → Nat → Int32) (g : Nat → Nat → Int64) : Prop :=
vp_in x9 2300 ∧ (((((((f 36 (x9).toNatClampNeg)) >>> (x8 &&& 31))) ≤ 0 →
  ∀ x9_7 : Int32, x9_7 = x9 + nI 1 → R178 x5 x7 x8 x9_7 v f g) ∧
 (¬ ((((f 36 (x9).toNatClampNeg)) >>> (x8 &&& 31))) ≤ 0 →
  ∀ x8_8 : Int32, x8_8 = x8 + nI 1 → R194 x5 x7 x8_8 x9 v f g)))
def r_packs_194L (Q : (Nat → Int32) → (Nat → Nat → Int32) → (Nat → Nat → Int64) → Prop) (R164 : Int32 → Int32 → (Nat → Int32) → (Nat → Nat → Int32) → (Nat → Nat → Int64) → Prop) (R178 : Int32 → Int32 → Int32 → Int32 → (Nat → Int32) → (Nat → Nat → Int32) → (Nat → Nat → Int64) → Prop) (x5 : Int32) (x7 : Int32) (x8 : Int32) (x9 : Int32) (v : Nat → Int32) (f : Nat → Nat → Int32) (g : Nat → Nat → Int64) : Prop :=
  lfp (X := Int32 × Int32 × Int32 × Int32 × (Nat → Int32) × (Nat → Nat → Int32) × (Nat → Nat → Int64)) (fun P y => r_packs_194 Q R164 R178 (fun b0 b1 b2 b3 v f g => P (b0, b1, b2, b3, v, f, g)) y.1 y.2.1 y.2.2.1 y.2.2.2.1 y.2.2.2.2.1 y.2.2.2.2.2.1 y.2.2.2.2.2.2) (x5, x7, x8, x9, v, f, g)
def r_packs_178 (Q : (Nat → Int32) → (Nat → Nat → Int32) → (Nat → Nat → Int64) → Prop) (R164 : Int32 → Int32 → (Nat → Int32) → (Nat → Nat → Int32) → (Nat → Nat → Int64) → Prop) (R178 : Int32 → Int32 → Int32 → Int32 → (Nat → Int32) → (Nat → Nat → Int32) → (Nat → Nat → Int64) → Prop) (x5 : Int32) (x7 : Int32) (x8 : Int32) (x9 : Int32) (v : Nat → Int32) (f : Nat → Nat → Int32) (g : Nat → Nat → Int64) : Prop :=
((x5 ≤ x9 →
  r_packs_219 Q R164 x5 x7 x8 v f g) ∧
 (¬ x5 ≤ x9 →
  ((((x7 + ((nI 4)))) ≤ x9 →
    r_packs_219 Q R164 x5 x7 x8 v f g) ∧
   (¬ ((x7 + ((nI 4)))) ≤ x9 →
    r_packs_194L Q R164 R178 x5 x7 x8 x9 v f g))))
def r_packs_178L (Q : (Nat → Int32) → (Nat → Nat → Int32) → (Nat → Nat → Int64) → Prop) (R164 : Int32 → Int32 → (Nat → Int32) → (Nat → Nat → Int32) → (Nat → Nat → Int64) → Prop) (x5 : Int32) (x7 : Int32) (x8 : Int32) (x9 : Int32) (v : Nat → Int32) (f : Nat → Nat → Int32) (g : Nat → Nat → Int64) : Prop :=
  lfp (X := Int32 × Int32 × Int32 × Int32 × (Nat → Int32) × (Nat → Nat → Int32) × (Nat → Nat → Int64)) (fun P y => r_packs_178 Q R164 (fun b0 b1 b2 b3 v f g => P (b0, b1, b2, b3, v, f, g)) y.1 y.2.1 y.2.2.1 y.2.2.2.1 y.2.2.2.2.1 y.2.2.2.2.2.1 y.2.2.2.2.2.2) (x5, x7, x8, x9, v, f, g)
def r_packs_164 (Q : (Nat → Int32) → (Nat → Nat → Int32) → (Nat → Nat → Int64) → Prop) (R164 : Int32 → Int32 → (Nat → Int32) → (Nat → Nat → Int32) → (Nat → Nat → Int64) → Prop) (x5 : Int32) (x7 : Int32) (v : Nat → Int32) (f : Nat → Nat → Int32) (g : Nat → Nat → Int64) : Prop :=
((x5 ≤ x7 →
  Q v f g) ∧
 (¬ x5 ≤ x7 →
  r_packs_178L Q R164 x5 x7 (((nI 0))) x7 v f g))
def r_packs_164L (Q : (Nat → Int32) → (Nat → Nat → Int32) → (Nat → Nat → Int64) → Prop)  (x5 : Int32) (x7 : Int32) (v : Nat → Int32) (f : Nat → Nat → Int32) (g : Nat → Nat → Int64) : Prop :=
  lfp (X := Int32 × Int32 × (Nat → Int32) × (Nat → Nat → Int32) × (Nat → Nat → Int64)) (fun P y => r_packs_164 Q  (fun b0 b1 v f g => P (b0, b1, v, f, g)) y.1 y.2.1 y.2.2.1 y.2.2.2.1 y.2.2.2.2) (x5, x7, v, f, g)
def r_packs_150 (Q : (Nat → Int32) → (Nat → Nat → Int32) → (Nat → Nat → Int64) → Prop) (R9 : Int32 → Int32 → Int64 → Int32 → Int32 → Int32 → (Nat → Int32) → (Nat → Nat → Int32) → (Nat → Nat → Int64) → Prop) (x1 : Int32) (x2 : Int32) (x3 : Int64) (x5 : Int32) (x6 : Int32) (x7 : Int32) (v : Nat → Int32) (f : Nat → Nat → Int32) (g : Nat → Nat → Int64) : Prop :=
∀ x7_12 : Int32, x7_12 = x7 + nI 1 → R9 x1 x2 x3 x5 x6 x7_12 v f g
def r_packs_128 (Q : (Nat → Int32) → (Nat → Nat → Int32) → (Nat → Nat → Int64) → Prop) (R9 : Int32 → Int32 → Int64 → Int32 → Int32 → Int32 → (Nat → Int32) → (Nat → Nat → Int32) → (Nat → Nat → Int64) → Prop) (R49 : Int32 → Int32 → Int64 → Int32 → Int32 → Int32 → Int32 → Int32 → Int32 → Int32 → Int32 → (Nat → Int32) → (Nat → Nat → Int32) → (Nat → Nat → Int64) → Prop) (x1 : Int32) (x2 : Int32) (x3 : Int64) (x5 : Int32) (x6 : Int32) (x7 : Int32) (x8 : Int32) (x9 : Int32) (x10 : Int32) (x11 : Int32) (x12 : Int32) (v : Nat → Int32) (f : Nat → Nat → Int32) (g : Nat → Nat → Int64) : Prop :=
∀ x12_15 : Int32, x12_15 = x12 + nI 1 → R49 x1 x2 x3 x5 x6 x7 x8 x9 x10 x11 x12_15 v f g
def r_packs_104 (Q : (Nat → Int32) → (Nat → Nat → Int32) → (Nat → Nat → Int64) → Prop) (R9 : Int32 → Int32 → Int64 → Int32 → Int32 → Int32 → (Nat → Int32) → (Nat → Nat → Int32) → (Nat → Nat → Int64) → Prop) (R49 : Int32 → Int32 → Int64 → Int32 → Int32 → Int32 → Int32 → Int32 → Int32 → Int32 → Int32 → (Nat → Int32) → (Nat → Nat → Int32) → (Nat → Nat → Int64) → Prop) (x1 : Int32) (x2 : Int32) (x3 : Int64) (x5 : Int32) (x6 : Int32) (x7 : Int32) (x8 : Int32) (x9 : Int32) (x10 : Int32) (x11 : Int32) (x12 : Int32) (v : Nat → Int32) (f : Nat → Nat → Int32) (g : Nat → Nat → Int64) : Prop :=
vp_in x5 2300 ∧ (∀ f16 : Nat → Nat → Int32, f16 = mU f 36 (x5).toNatClampNeg ((((x12 - x10)) - ((nI 1)))) → ∀ x5_17 : Int32, x5_17 = x5 + nI 1 → ∀ x9_18 : Int32, x9_18 = x9 + nI 1 → r_packs_128 Q R9 R49 x1 x2 x3 x5_17 x6 x7 x8 x9_18 x12 x11 x12 v f16 g)
def r_packs_49 (Q : (Nat → Int32) → (Nat → Nat → Int32) → (Nat → Nat → Int64) → Prop) (R9 : Int32 → Int32 → Int64 → Int32 → Int32 → Int32 → (Nat → Int32) → (Nat → Nat → Int32) → (Nat → Nat → Int64) → Prop) (R49 : Int32 → Int32 → Int64 → Int32 → Int32 → Int32 → Int32 → Int32 → Int32 → Int32 → Int32 → (Nat → Int32) → (Nat → Nat → Int32) → (Nat → Nat → Int64) → Prop) (x1 : Int32) (x2 : Int32) (x3 : Int64) (x5 : Int32) (x6 : Int32) (x7 : Int32) (x8 : Int32) (x9 : Int32) (x10 : Int32) (x11 : Int32) (x12 : Int32) (v : Nat → Int32) (f : Nat → Nat → Int32) (g : Nat → Nat → Int64) : Prop :=
vp_in ((((((nI 2)) * x8)) + x2)) 4848 ∧ (((((f 18 ((((((nI 2)) * x8)) + x2)).toNatClampNeg)) ≤ x12 →
  ((x9 ≤ 0 →
    r_packs_150 Q R9 x1 x2 x3 x5 x6 x7 v f g) ∧
   (¬ x9 ≤ 0 →
    vp_in x11 2300 ∧ (∀ f13 : Nat → Nat → Int32, f13 = mU f 36 (x11).toNatClampNeg ((x9 - ((nI 1)))) → r_packs_150 Q R9 x1 x2 x3 x5 x6 x7 v f13 g)))) ∧
 (¬ ((f 18 ((((((nI 2)) * x8)) + x2)).toNatClampNeg)) ≤ x12 →
  r_hasAt (fun r_14 v_14 f_14 g_14 => 
  ((r_14 = 0 →
    r_packs_128 Q R9 R49 x1 x2 x3 x5 x6 x7 x8 x9 x10 x11 x12 v_14 f_14 g_14) ∧
   (¬ r_14 = 0 →
    ((¬ x9 = 0 →
      r_packs_104 Q R9 R49 x1 x2 x3 x5 x6 x7 x8 x9 x10 x11 x12 v_14 f_14 g_14) ∧
     (x9 = 0 →
      vp_in x5 2300 ∧ (∀ f19 : Nat → Nat → Int32, f19 = mU f_14 36 (x5).toNatClampNeg ((((x7 - x6)) - ((nI 1)))) → ∀ x5_20 : Int32, x5_20 = x5 + nI 2 → r_packs_104 Q R9 R49 x1 x2 x3 x5_20 x7 x7 x8 x9 x10 x11 x12 v_14 f19 g_14)))))) x8 x2 x12 x3 v f g)))
def r_packs_49L (Q : (Nat → Int32) → (Nat → Nat → Int32) → (Nat → Nat → Int64) → Prop) (R9 : Int32 → Int32 → Int64 → Int32 → Int32 → Int32 → (Nat → Int32) → (Nat → Nat → Int32) → (Nat → Nat → Int64) → Prop) (x1 : Int32) (x2 : Int32) (x3 : Int64) (x5 : Int32) (x6 : Int32) (x7 : Int32) (x8 : Int32) (x9 : Int32) (x10 : Int32) (x11 : Int32) (x12 : Int32) (v : Nat → Int32) (f : Nat → Nat → Int32) (g : Nat → Nat → Int64) : Prop :=
  lfp (X := Int32 × Int32 × Int64 × Int32 × Int32 × Int32 × Int32 × Int32 × Int32 × Int32 × Int32 × (Nat → Int32) × (Nat → Nat → Int32) × (Nat → Nat → Int64)) (fun P y => r_packs_49 Q R9 (fun b0 b1 b2 b3 b4 b5 b6 b7 b8 b9 b10 v f g => P (b0, b1, b2, b3, b4, b5, b6, b7, b8, b9, b10, v, f, g)) y.1 y.2.1 y.2.2.1 y.2.2.2.1 y.2.2.2.2.1 y.2.2.2.2.2.1 y.2.2.2.2.2.2.1 y.2.2.2.2.2.2.2.1 y.2.2.2.2.2.2.2.2.1 y.2.2.2.2.2.2.2.2.2.1 y.2.2.2.2.2.2.2.2.2.2.1 y.2.2.2.2.2.2.2.2.2.2.2.1 y.2.2.2.2.2.2.2.2.2.2.2.2.1 y.2.2.2.2.2.2.2.2.2.2.2.2.2) (x1, x2, x3, x5, x6, x7, x8, x9, x10, x11, x12, v, f, g)
def r_packs_9 (Q : (Nat → Int32) → (Nat → Nat → Int32) → (Nat → Nat → Int64) → Prop) (R9 : Int32 → Int32 → Int64 → Int32 → Int32 → Int32 → (Nat → Int32) → (Nat → Nat → Int32) → (Nat → Nat → Int64) → Prop) (x1 : Int32) (x2 : Int32) (x3 : Int64) (x5 : Int32) (x6 : Int32) (x7 : Int32) (v : Nat → Int32) (f : Nat → Nat → Int32) (g : Nat → Nat → Int64) : Prop :=
vp_in x1 202 ∧ (((((f 20 (x1).toNatClampNeg)) ≤ x7 →
  ∀ v2 : Nat → Int32, v2 = upd v 58 ((nI 0)) → r_packs_164L Q  x5 (((nI 0))) v2 f g) ∧
 (¬ ((f 20 (x1).toNatClampNeg)) ≤ x7 →
  vp_in ((((((nI 100)) * x1)) + x7)) 20200 ∧ (∀ x8_9 : Int32, x8_9 = (f 19 ((((((nI 100)) * x1)) + x7)).toNatClampNeg) → ∀ x10_10 : Int32, x10_10 = ((-1)) → ∀ x11_11 : Int32, x11_11 = (x5 + ((nI 1))) → r_packs_49L Q R9 x1 x2 x3 x5 x6 x7 x8_9 (((nI 0))) x10_10 x11_11 (((nI 0))) v f g))))
def r_packs_9L (Q : (Nat → Int32) → (Nat → Nat → Int32) → (Nat → Nat → Int64) → Prop)  (x1 : Int32) (x2 : Int32) (x3 : Int64) (x5 : Int32) (x6 : Int32) (x7 : Int32) (v : Nat → Int32) (f : Nat → Nat → Int32) (g : Nat → Nat → Int64) : Prop :=
  lfp (X := Int32 × Int32 × Int64 × Int32 × Int32 × Int32 × (Nat → Int32) × (Nat → Nat → Int32) × (Nat → Nat → Int64)) (fun P y => r_packs_9 Q  (fun b0 b1 b2 b3 b4 b5 v f g => P (b0, b1, b2, b3, b4, b5, v, f, g)) y.1 y.2.1 y.2.2.1 y.2.2.2.1 y.2.2.2.2.1 y.2.2.2.2.2.1 y.2.2.2.2.2.2.1 y.2.2.2.2.2.2.2.1 y.2.2.2.2.2.2.2.2) (x1, x2, x3, x5, x6, x7, v, f, g)
def r_packs (Q : (Nat → Int32) → (Nat → Nat → Int32) → (Nat → Nat → Int64) → Prop) (x1 : Int32) (x2 : Int32) (x3 : Int64) (v : Nat → Int32) (f : Nat → Nat → Int32) (g : Nat → Nat → Int64) : Prop :=
∀ x6_1 : Int32, x6_1 = ((-1)) → r_packs_9L Q  x1 x2 x3 (((nI 0))) x6_1 (((nI 0))) v f g
section S_packs
variable {p : Program} {l : Launch} {e : Env} {s : State} {m : MethodId} {args : Array Value} {below : List Frame} {meth : Method} {c : Code} {A : Nat → Prop} {D : va_G} {cI cJ cZ : ClassId} {a : Nat → Nat}
set_option maxRecDepth 20000 in
theorem sb_packs_265 (C : mC p s m args meth c cX12_packs 13 none A D cI cJ cZ) {post : mS → Prop} {R164 : Int32 → Int32 → (Nat → Int32) → (Nat → Nat → Int32) → (Nat → Nat → Int64) → Prop} (hR164 : ∀ (x5 : Int32) (x7 : Int32) (v : Nat → Int32) (f : Nat → Nat → Int32) (g : Nat → Nat → Int64), R164 x5 x7 v f g → mG p l e (mRm 2 53) s m args below meth c A D cI cJ cZ a 13 (MQ below (va_Qv post (mB D cI cJ cZ a) A) args s 0 0 A) 164 [(0, .ref (a 0)), (5, .int x5), (7, .int x7)] [] v f g) (x5 : Int32) (x7 : Int32) (v : Nat → Int32) (f : Nat → Nat → Int32) (g : Nat → Nat → Int64) (h : r_packs_265 (fun v f g => post (v, f, g)) R164 x5 x7 v f g) : mG p l e (mRm 2 53) s m args below meth c A D cI cJ cZ a 13 (MQ below (va_Qv post (mB D cI cJ cZ a) A) args s 0 0 A) 265 [(0, .ref (a 0)), (5, .int x5), (7, .int x7)] [] v f g := by
  unfold r_packs_265 at h
  obtain ⟨x7_4, e_x7_4⟩ : ∃ z : Int32, z = x7 + nI 4 := ⟨_, rfl⟩
  have h := h x7_4 e_x7_4
  refine mg_iinc C (lv' := [(7, .int x7_4), (0, .ref (a 0)), (5, .int x5)]) 2 rfl (by rw [e_x7_4]; rfl) (Nat.le_of_ble_eq_true rfl) rfl dX12_packs_265 ?_
  refine mg_goto C 164 (by decide) dX12_packs_268 ?_
  exact mg_sub [1, 2, 0] rfl (hR164 x5 x7_4 v f g h)
set_option maxRecDepth 20000 in
theorem sb_packs_230 (C : mC p s m args meth c cX12_packs 13 none A D cI cJ cZ) {post : mS → Prop} {R164 : Int32 → Int32 → (Nat → Int32) → (Nat → Nat → Int32) → (Nat → Nat → Int64) → Prop} {R230 : Int32 → Int32 → Int32 → Int32 → (Nat → Int32) → (Nat → Nat → Int32) → (Nat → Nat → Int64) → Prop} (hR164 : ∀ (x5 : Int32) (x7 : Int32) (v : Nat → Int32) (f : Nat → Nat → Int32) (g : Nat → Nat → Int64), R164 x5 x7 v f g → mG p l e (mRm 2 53) s m args below meth c A D cI cJ cZ a 13 (MQ below (va_Qv post (mB D cI cJ cZ a) A) args s 0 0 A) 164 [(0, .ref (a 0)), (5, .int x5), (7, .int x7)] [] v f g) (hR230 : ∀ (x5 : Int32) (x7 : Int32) (x8 : Int32) (x9 : Int32) (v : Nat → Int32) (f : Nat → Nat → Int32) (g : Nat → Nat → Int64), R230 x5 x7 x8 x9 v f g → mG p l e (mRm 2 53) s m args below meth c A D cI cJ cZ a 13 (MQ below (va_Qv post (mB D cI cJ cZ a) A) args s 0 0 A) 230 [(0, .ref (a 0)), (5, .int x5), (7, .int x7), (8, .int x8), (9, .int x9)] [] v f g) (x5 : Int32) (x7 : Int32) (x8 : Int32) (x9 : Int32) (v : Nat → Int32) (f : Nat → Nat → Int32) (g : Nat → Nat → Int64) (h : r_packs_230 (fun v f g => post (v, f, g)) R164 R230 x5 x7 x8 x9 v f g) : mG p l e (mRm 2 53) s m args below meth c A D cI cJ cZ a 13 (MQ below (va_Qv post (mB D cI cJ cZ a) A) args s 0 0 A) 230 [(0, .ref (a 0)), (5, .int x5), (7, .int x7), (8, .int x8), (9, .int x9)] [] v f g := by
  unfold r_packs_230 at h
  refine mg_iload C 4 rfl dX12_packs_230 ?_
  refine mg_iload C 1 rfl dX12_packs_232 ?_
  refine mg_icmp_ge C 265 (by decide) dX12_packs_234 (fun c_ => ?_) (fun c_ => ?_)
  · have h := h.1 c_
    exact mg_sub [0, 1, 2] rfl (sb_packs_265 C hR164 x5 x7 v f g h)
  · have h := h.2 c_
    refine mg_iload C 4 rfl dX12_packs_237 ?_
    refine mg_iload C 2 rfl dX12_packs_239 ?_
    refine mg_iconst C (x := nI 4) rfl dX12_packs_241 ?_
    refine mg_iadd C dX12_packs_242 ?_
    refine mg_icmp_ge C 265 (by decide) dX12_packs_243 (fun c_ => ?_) (fun c_ => ?_)
    · have h := h.1 c_
      exact mg_sub [0, 1, 2] rfl (sb_packs_265 C hR164 x5 x7 v f g h)
    · have h := h.2 c_
      refine mg_aload_n C (i := 0) rfl 0 rfl dX12_packs_246 ?_
      refine mg_aload_n C (i := 0) rfl 0 rfl dX12_packs_247 ?_
      refine mg_arr C 36 (by decide) (by decide) rfl mL_plain rfl dX12_packs_248 ?_
      refine mg_iload C 4 rfl dX12_packs_251 ?_
      obtain ⟨hc_253, h⟩ := h
      refine mg_ialoadR C (n := 2300) 36 (by decide) (by decide) rfl rfl hc_253 dX12_packs_253 ?_
      refine mg_iload C 3 rfl dX12_packs_254 ?_
      refine mg_callvW C (s_writesBits l ((f 36 (x9).toNatClampNeg)) x8 v f g h) mCal_writesBits rfl ⟨by decide, by decide⟩ rfl (Nat.le_of_ble_eq_true rfl) dX12_packs_256 (fun v_5 f_5 g_5 h => ?_)
      obtain ⟨x9_6, e_x9_6⟩ : ∃ z : Int32, z = x9 + nI 1 := ⟨_, rfl⟩
      have h := h x9_6 e_x9_6
      refine mg_iinc C (lv' := [(9, .int x9_6), (0, .ref (a 0)), (5, .int x5), (7, .int x7), (8, .int x8)]) 4 rfl (by rw [e_x9_6]; rfl) (Nat.le_of_ble_eq_true rfl) rfl dX12_packs_259 ?_
      refine mg_goto C 230 (by decide) dX12_packs_262 ?_
      exact mg_sub [1, 2, 3, 4, 0] rfl (hR230 x5 x7 x8 x9_6 v_5 f_5 g_5 h)
set_option maxRecDepth 20000 in
theorem sl_packs_230 (C : mC p s m args meth c cX12_packs 13 none A D cI cJ cZ) {post : mS → Prop} {R164 : Int32 → Int32 → (Nat → Int32) → (Nat → Nat → Int32) → (Nat → Nat → Int64) → Prop} (hR164 : ∀ (x5 : Int32) (x7 : Int32) (v : Nat → Int32) (f : Nat → Nat → Int32) (g : Nat → Nat → Int64), R164 x5 x7 v f g → mG p l e (mRm 2 53) s m args below meth c A D cI cJ cZ a 13 (MQ below (va_Qv post (mB D cI cJ cZ a) A) args s 0 0 A) 164 [(0, .ref (a 0)), (5, .int x5), (7, .int x7)] [] v f g) (x5 : Int32) (x7 : Int32) (x8 : Int32) (x9 : Int32) (v : Nat → Int32) (f : Nat → Nat → Int32) (g : Nat → Nat → Int64) (h : r_packs_230L (fun v f g => post (v, f, g)) R164 x5 x7 x8 x9 v f g) : mG p l e (mRm 2 53) s m args below meth c A D cI cJ cZ a 13 (MQ below (va_Qv post (mB D cI cJ cZ a) A) args s 0 0 A) 230 [(0, .ref (a 0)), (5, .int x5), (7, .int x7), (8, .int x8), (9, .int x9)] [] v f g :=
  h (fun y => mG p l e (mRm 2 53) s m args below meth c A D cI cJ cZ a 13 (MQ below (va_Qv post (mB D cI cJ cZ a) A) args s 0 0 A) 230 [(0, .ref (a 0)), (5, .int (y.1)), (7, .int (y.2.1)), (8, .int (y.2.2.1)), (9, .int (y.2.2.2.1))] [] (y.2.2.2.2.1) (y.2.2.2.2.2.1) (y.2.2.2.2.2.2)) (fun y hy => sb_packs_230 C hR164 (fun b0 b1 b2 b3 v f g z => z) (y.1) (y.2.1) (y.2.2.1) (y.2.2.2.1) (y.2.2.2.2.1) (y.2.2.2.2.2.1) (y.2.2.2.2.2.2) hy)
set_option maxRecDepth 20000 in
theorem sb_packs_219 (C : mC p s m args meth c cX12_packs 13 none A D cI cJ cZ) {post : mS → Prop} {R164 : Int32 → Int32 → (Nat → Int32) → (Nat → Nat → Int32) → (Nat → Nat → Int64) → Prop} (hR164 : ∀ (x5 : Int32) (x7 : Int32) (v : Nat → Int32) (f : Nat → Nat → Int32) (g : Nat → Nat → Int64), R164 x5 x7 v f g → mG p l e (mRm 2 53) s m args below meth c A D cI cJ cZ a 13 (MQ below (va_Qv post (mB D cI cJ cZ a) A) args s 0 0 A) 164 [(0, .ref (a 0)), (5, .int x5), (7, .int x7)] [] v f g) (x5 : Int32) (x7 : Int32) (x8 : Int32) (v : Nat → Int32) (f : Nat → Nat → Int32) (g : Nat → Nat → Int64) (h : r_packs_219 (fun v f g => post (v, f, g)) R164 x5 x7 x8 v f g) : mG p l e (mRm 2 53) s m args below meth c A D cI cJ cZ a 13 (MQ below (va_Qv post (mB D cI cJ cZ a) A) args s 0 0 A) 219 [(0, .ref (a 0)), (5, .int x5), (7, .int x7), (8, .int x8)] [] v f g := by
  unfold r_packs_219 at h
  refine mg_aload_n C (i := 0) rfl 0 rfl dX12_packs_219 ?_
  refine mg_iload C 3 rfl dX12_packs_220 ?_
  refine mg_iconst C (x := nI 4) rfl dX12_packs_222 ?_
  refine mg_callvW C (s_writesBits l x8 ((nI 4)) v f g h) mCal_writesBits rfl ⟨by decide, by decide⟩ rfl (Nat.le_of_ble_eq_true rfl) dX12_packs_223 (fun v_3 f_3 g_3 h => ?_)
  refine mg_iload C 2 rfl dX12_packs_226 ?_
  refine mg_istore C (lv' := [(9, .int x7), (0, .ref (a 0)), (5, .int x5), (7, .int x7), (8, .int x8)]) (Nat.le_of_ble_eq_true rfl) rfl dX12_packs_228 ?_
  exact mg_sub [1, 2, 3, 4, 0] rfl (sl_packs_230 C hR164 x5 x7 x8 x7 v_3 f_3 g_3 h)
set_option maxRecDepth 20000 in
theorem sb_packs_194 (C : mC p s m args meth c cX12_packs 13 none A D cI cJ cZ) {post : mS → Prop} {R164 : Int32 → Int32 → (Nat → Int32) → (Nat → Nat → Int32) → (Nat → Nat → Int64) → Prop} {R178 : Int32 → Int32 → Int32 → Int32 → (Nat → Int32) → (Nat → Nat → Int32) → (Nat → Nat → Int64) → Prop} {R194 : Int32 → Int32 → Int32 → Int32 → (Nat → Int32) → (Nat → Nat → Int32) → (Nat → Nat → Int64) → Prop} (hR164 : ∀ (x5 : Int32) (x7 : Int32) (v : Nat → Int32) (f : Nat → Nat → Int32) (g : Nat → Nat → Int64), R164 x5 x7 v f g → mG p l e (mRm 2 53) s m args below meth c A D cI cJ cZ a 13 (MQ below (va_Qv post (mB D cI cJ cZ a) A) args s 0 0 A) 164 [(0, .ref (a 0)), (5, .int x5), (7, .int x7)] [] v f g) (hR178 : ∀ (x5 : Int32) (x7 : Int32) (x8 : Int32) (x9 : Int32) (v : Nat → Int32) (f : Nat → Nat → Int32) (g : Nat → Nat → Int64), R178 x5 x7 x8 x9 v f g → mG p l e (mRm 2 53) s m args below meth c A D cI cJ cZ a 13 (MQ below (va_Qv post (mB D cI cJ cZ a) A) args s 0 0 A) 178 [(0, .ref (a 0)), (5, .int x5), (7, .int x7), (8, .int x8), (9, .int x9)] [] v f g) (hR194 : ∀ (x5 : Int32) (x7 : Int32) (x8 : Int32) (x9 : Int32) (v : Nat → Int32) (f : Nat → Nat → Int32) (g : Nat → Nat → Int64), R194 x5 x7 x8 x9 v f g → mG p l e (mRm 2 53) s m args below meth c A D cI cJ cZ a 13 (MQ below (va_Qv post (mB D cI cJ cZ a) A) args s 0 0 A) 194 [(0, .ref (a 0)), (5, .int x5), (7, .int x7), (8, .int x8), (9, .int x9)] [] v f g) (x5 : Int32) (x7 : Int32) (x8 : Int32) (x9 : Int32) (v : Nat → Int32) (f : Nat → Nat → Int32) (g : Nat → Nat → Int64) (h : r_packs_194 (fun v f g => post (v, f, g)) R164 R178 R194 x5 x7 x8 x9 v f g) : mG p l e (mRm 2 53) s m args below meth c A D cI cJ cZ a 13 (MQ below (va_Qv post (mB D cI cJ cZ a) A) args s 0 0 A) 194 [(0, .ref (a 0)), (5, .int x5), (7, .int x7), (8, .int x8), (9, .int x9)] [] v f g := by
  unfold r_packs_194 at h
  refine mg_aload_n C (i := 0) rfl 0 rfl dX12_packs_194 ?_
  refine mg_arr C 36 (by decide) (by decide) rfl mL_plain rfl dX12_packs_195 ?_
  refine mg_iload C 4 rfl dX12_packs_198 ?_
  obtain ⟨hc_200, h⟩ := h
  refine mg_ialoadR C (n := 2300) 36 (by decide) (by decide) rfl rfl hc_200 dX12_packs_200 ?_
  refine mg_iload C 3 rfl dX12_packs_201 ?_
  refine mg_ishr C dX12_packs_203 ?_
  refine mg_if_le C 213 (by decide) dX12_packs_204 (fun c_ => ?_) (fun c_ => ?_)
  · have h := h.1 c_
    obtain ⟨x9_7, e_x9_7⟩ : ∃ z : Int32, z = x9 + nI 1 := ⟨_, rfl⟩
    have h := h x9_7 e_x9_7
    refine mg_iinc C (lv' := [(9, .int x9_7), (0, .ref (a 0)), (5, .int x5), (7, .int x7), (8, .int x8)]) 4 rfl (by rw [e_x9_7]; rfl) (Nat.le_of_ble_eq_true rfl) rfl dX12_packs_213 ?_
    refine mg_goto C 178 (by decide) dX12_packs_216 ?_
    exact mg_sub [1, 2, 3, 4, 0] rfl (hR178 x5 x7 x8 x9_7 v f g h)
  · have h := h.2 c_
    obtain ⟨x8_8, e_x8_8⟩ : ∃ z : Int32, z = x8 + nI 1 := ⟨_, rfl⟩
    have h := h x8_8 e_x8_8
    refine mg_iinc C (lv' := [(8, .int x8_8), (0, .ref (a 0)), (5, .int x5), (7, .int x7), (9, .int x9)]) 3 rfl (by rw [e_x8_8]; rfl) (Nat.le_of_ble_eq_true rfl) rfl dX12_packs_207 ?_
    refine mg_goto C 194 (by decide) dX12_packs_210 ?_
    exact mg_sub [1, 2, 3, 0, 4] rfl (hR194 x5 x7 x8_8 x9 v f g h)
set_option maxRecDepth 20000 in
theorem sl_packs_194 (C : mC p s m args meth c cX12_packs 13 none A D cI cJ cZ) {post : mS → Prop} {R164 : Int32 → Int32 → (Nat → Int32) → (Nat → Nat → Int32) → (Nat → Nat → Int64) → Prop} {R178 : Int32 → Int32 → Int32 → Int32 → (Nat → Int32) → (Nat → Nat → Int32) → (Nat → Nat → Int64) → Prop} (hR164 : ∀ (x5 : Int32) (x7 : Int32) (v : Nat → Int32) (f : Nat → Nat → Int32) (g : Nat → Nat → Int64), R164 x5 x7 v f g → mG p l e (mRm 2 53) s m args below meth c A D cI cJ cZ a 13 (MQ below (va_Qv post (mB D cI cJ cZ a) A) args s 0 0 A) 164 [(0, .ref (a 0)), (5, .int x5), (7, .int x7)] [] v f g) (hR178 : ∀ (x5 : Int32) (x7 : Int32) (x8 : Int32) (x9 : Int32) (v : Nat → Int32) (f : Nat → Nat → Int32) (g : Nat → Nat → Int64), R178 x5 x7 x8 x9 v f g → mG p l e (mRm 2 53) s m args below meth c A D cI cJ cZ a 13 (MQ below (va_Qv post (mB D cI cJ cZ a) A) args s 0 0 A) 178 [(0, .ref (a 0)), (5, .int x5), (7, .int x7), (8, .int x8), (9, .int x9)] [] v f g) (x5 : Int32) (x7 : Int32) (x8 : Int32) (x9 : Int32) (v : Nat → Int32) (f : Nat → Nat → Int32) (g : Nat → Nat → Int64) (h : r_packs_194L (fun v f g => post (v, f, g)) R164 R178 x5 x7 x8 x9 v f g) : mG p l e (mRm 2 53) s m args below meth c A D cI cJ cZ a 13 (MQ below (va_Qv post (mB D cI cJ cZ a) A) args s 0 0 A) 194 [(0, .ref (a 0)), (5, .int x5), (7, .int x7), (8, .int x8), (9, .int x9)] [] v f g :=
  h (fun y => mG p l e (mRm 2 53) s m args below meth c A D cI cJ cZ a 13 (MQ below (va_Qv post (mB D cI cJ cZ a) A) args s 0 0 A) 194 [(0, .ref (a 0)), (5, .int (y.1)), (7, .int (y.2.1)), (8, .int (y.2.2.1)), (9, .int (y.2.2.2.1))] [] (y.2.2.2.2.1) (y.2.2.2.2.2.1) (y.2.2.2.2.2.2)) (fun y hy => sb_packs_194 C hR164 hR178 (fun b0 b1 b2 b3 v f g z => z) (y.1) (y.2.1) (y.2.2.1) (y.2.2.2.1) (y.2.2.2.2.1) (y.2.2.2.2.2.1) (y.2.2.2.2.2.2) hy)
set_option maxRecDepth 20000 in
theorem sb_packs_178 (C : mC p s m args meth c cX12_packs 13 none A D cI cJ cZ) {post : mS → Prop} {R164 : Int32 → Int32 → (Nat → Int32) → (Nat → Nat → Int32) → (Nat → Nat → Int64) → Prop} {R178 : Int32 → Int32 → Int32 → Int32 → (Nat → Int32) → (Nat → Nat → Int32) → (Nat → Nat → Int64) → Prop} (hR164 : ∀ (x5 : Int32) (x7 : Int32) (v : Nat → Int32) (f : Nat → Nat → Int32) (g : Nat → Nat → Int64), R164 x5 x7 v f g → mG p l e (mRm 2 53) s m args below meth c A D cI cJ cZ a 13 (MQ below (va_Qv post (mB D cI cJ cZ a) A) args s 0 0 A) 164 [(0, .ref (a 0)), (5, .int x5), (7, .int x7)] [] v f g) (hR178 : ∀ (x5 : Int32) (x7 : Int32) (x8 : Int32) (x9 : Int32) (v : Nat → Int32) (f : Nat → Nat → Int32) (g : Nat → Nat → Int64), R178 x5 x7 x8 x9 v f g → mG p l e (mRm 2 53) s m args below meth c A D cI cJ cZ a 13 (MQ below (va_Qv post (mB D cI cJ cZ a) A) args s 0 0 A) 178 [(0, .ref (a 0)), (5, .int x5), (7, .int x7), (8, .int x8), (9, .int x9)] [] v f g) (x5 : Int32) (x7 : Int32) (x8 : Int32) (x9 : Int32) (v : Nat → Int32) (f : Nat → Nat → Int32) (g : Nat → Nat → Int64) (h : r_packs_178 (fun v f g => post (v, f, g)) R164 R178 x5 x7 x8 x9 v f g) : mG p l e (mRm 2 53) s m args below meth c A D cI cJ cZ a 13 (MQ below (va_Qv post (mB D cI cJ cZ a) A) args s 0 0 A) 178 [(0, .ref (a 0)), (5, .int x5), (7, .int x7), (8, .int x8), (9, .int x9)] [] v f g := by
  unfold r_packs_178 at h
  refine mg_iload C 4 rfl dX12_packs_178 ?_
  refine mg_iload C 1 rfl dX12_packs_180 ?_
  refine mg_icmp_ge C 219 (by decide) dX12_packs_182 (fun c_ => ?_) (fun c_ => ?_)
  · have h := h.1 c_
    exact mg_sub [0, 1, 2, 3] rfl (sb_packs_219 C hR164 x5 x7 x8 v f g h)
  · have h := h.2 c_
    refine mg_iload C 4 rfl dX12_packs_185 ?_
    refine mg_iload C 2 rfl dX12_packs_187 ?_
    refine mg_iconst C (x := nI 4) rfl dX12_packs_189 ?_
    refine mg_iadd C dX12_packs_190 ?_
    refine mg_icmp_ge C 219 (by decide) dX12_packs_191 (fun c_ => ?_) (fun c_ => ?_)
    · have h := h.1 c_
      exact mg_sub [0, 1, 2, 3] rfl (sb_packs_219 C hR164 x5 x7 x8 v f g h)
    · have h := h.2 c_
      exact mg_sub [0, 1, 2, 3, 4] rfl (sl_packs_194 C hR164 hR178 x5 x7 x8 x9 v f g h)
set_option maxRecDepth 20000 in
theorem sl_packs_178 (C : mC p s m args meth c cX12_packs 13 none A D cI cJ cZ) {post : mS → Prop} {R164 : Int32 → Int32 → (Nat → Int32) → (Nat → Nat → Int32) → (Nat → Nat → Int64) → Prop} (hR164 : ∀ (x5 : Int32) (x7 : Int32) (v : Nat → Int32) (f : Nat → Nat → Int32) (g : Nat → Nat → Int64), R164 x5 x7 v f g → mG p l e (mRm 2 53) s m args below meth c A D cI cJ cZ a 13 (MQ below (va_Qv post (mB D cI cJ cZ a) A) args s 0 0 A) 164 [(0, .ref (a 0)), (5, .int x5), (7, .int x7)] [] v f g) (x5 : Int32) (x7 : Int32) (x8 : Int32) (x9 : Int32) (v : Nat → Int32) (f : Nat → Nat → Int32) (g : Nat → Nat → Int64) (h : r_packs_178L (fun v f g => post (v, f, g)) R164 x5 x7 x8 x9 v f g) : mG p l e (mRm 2 53) s m args below meth c A D cI cJ cZ a 13 (MQ below (va_Qv post (mB D cI cJ cZ a) A) args s 0 0 A) 178 [(0, .ref (a 0)), (5, .int x5), (7, .int x7), (8, .int x8), (9, .int x9)] [] v f g :=
  h (fun y => mG p l e (mRm 2 53) s m args below meth c A D cI cJ cZ a 13 (MQ below (va_Qv post (mB D cI cJ cZ a) A) args s 0 0 A) 178 [(0, .ref (a 0)), (5, .int (y.1)), (7, .int (y.2.1)), (8, .int (y.2.2.1)), (9, .int (y.2.2.2.1))] [] (y.2.2.2.2.1) (y.2.2.2.2.2.1) (y.2.2.2.2.2.2)) (fun y hy => sb_packs_178 C hR164 (fun b0 b1 b2 b3 v f g z => z) (y.1) (y.2.1) (y.2.2.1) (y.2.2.2.1) (y.2.2.2.2.1) (y.2.2.2.2.2.1) (y.2.2.2.2.2.2) hy)
set_option maxRecDepth 20000 in
theorem sb_packs_164 (C : mC p s m args meth c cX12_packs 13 none A D cI cJ cZ) {post : mS → Prop} {R164 : Int32 → Int32 → (Nat → Int32) → (Nat → Nat → Int32) → (Nat → Nat → Int64) → Prop} (hR164 : ∀ (x5 : Int32) (x7 : Int32) (v : Nat → Int32) (f : Nat → Nat → Int32) (g : Nat → Nat → Int64), R164 x5 x7 v f g → mG p l e (mRm 2 53) s m args below meth c A D cI cJ cZ a 13 (MQ below (va_Qv post (mB D cI cJ cZ a) A) args s 0 0 A) 164 [(0, .ref (a 0)), (5, .int x5), (7, .int x7)] [] v f g) (x5 : Int32) (x7 : Int32) (v : Nat → Int32) (f : Nat → Nat → Int32) (g : Nat → Nat → Int64) (h : r_packs_164 (fun v f g => post (v, f, g)) R164 x5 x7 v f g) : mG p l e (mRm 2 53) s m args below meth c A D cI cJ cZ a 13 (MQ below (va_Qv post (mB D cI cJ cZ a) A) args s 0 0 A) 164 [(0, .ref (a 0)), (5, .int x5), (7, .int x7)] [] v f g := by
  unfold r_packs_164 at h
  refine mg_iload C 2 rfl dX12_packs_164 ?_
  refine mg_iload C 1 rfl dX12_packs_166 ?_
  refine mg_icmp_ge C 271 (by decide) dX12_packs_168 (fun c_ => ?_) (fun c_ => ?_)
  · have h := h.1 c_
    exact mg_vret C h dX12_packs_271
  · have h := h.2 c_
    refine mg_iconst C (x := nI 0) rfl dX12_packs_171 ?_
    refine mg_istore C (lv' := [(8, .int ((nI 0))), (0, .ref (a 0)), (5, .int x5), (7, .int x7)]) (Nat.le_of_ble_eq_true rfl) rfl dX12_packs_172 ?_
    refine mg_iload C 3 rfl dX12_packs_174 ?_
    refine mg_istore C (lv' := [(9, .int x7), (8, .int ((nI 0))), (0, .ref (a 0)), (5, .int x5), (7, .int x7)]) (Nat.le_of_ble_eq_true rfl) rfl dX12_packs_176 ?_
    exact mg_sub [2, 3, 4, 1, 0] rfl (sl_packs_178 C hR164 x5 x7 (((nI 0))) x7 v f g h)
set_option maxRecDepth 20000 in
theorem sl_packs_164 (C : mC p s m args meth c cX12_packs 13 none A D cI cJ cZ) {post : mS → Prop}   (x5 : Int32) (x7 : Int32) (v : Nat → Int32) (f : Nat → Nat → Int32) (g : Nat → Nat → Int64) (h : r_packs_164L (fun v f g => post (v, f, g))  x5 x7 v f g) : mG p l e (mRm 2 53) s m args below meth c A D cI cJ cZ a 13 (MQ below (va_Qv post (mB D cI cJ cZ a) A) args s 0 0 A) 164 [(0, .ref (a 0)), (5, .int x5), (7, .int x7)] [] v f g :=
  h (fun y => mG p l e (mRm 2 53) s m args below meth c A D cI cJ cZ a 13 (MQ below (va_Qv post (mB D cI cJ cZ a) A) args s 0 0 A) 164 [(0, .ref (a 0)), (5, .int (y.1)), (7, .int (y.2.1))] [] (y.2.2.1) (y.2.2.2.1) (y.2.2.2.2)) (fun y hy => sb_packs_164 C  (fun b0 b1 v f g z => z) (y.1) (y.2.1) (y.2.2.1) (y.2.2.2.1) (y.2.2.2.2) hy)
set_option maxRecDepth 20000 in
theorem sb_packs_150 (C : mC p s m args meth c cX12_packs 13 none A D cI cJ cZ) {post : mS → Prop} {R9 : Int32 → Int32 → Int64 → Int32 → Int32 → Int32 → (Nat → Int32) → (Nat → Nat → Int32) → (Nat → Nat → Int64) → Prop} (hR9 : ∀ (x1 : Int32) (x2 : Int32) (x3 : Int64) (x5 : Int32) (x6 : Int32) (x7 : Int32) (v : Nat → Int32) (f : Nat → Nat → Int32) (g : Nat → Nat → Int64), R9 x1 x2 x3 x5 x6 x7 v f g → mG p l e (mRm 2 53) s m args below meth c A D cI cJ cZ a 13 (MQ below (va_Qv post (mB D cI cJ cZ a) A) args s 0 0 A) 9 [(0, .ref (a 0)), (1, .int x1), (2, .int x2), (3, .long x3), (5, .int x5), (6, .int x6), (7, .int x7)] [] v f g) (x1 : Int32) (x2 : Int32) (x3 : Int64) (x5 : Int32) (x6 : Int32) (x7 : Int32) (v : Nat → Int32) (f : Nat → Nat → Int32) (g : Nat → Nat → Int64) (h : r_packs_150 (fun v f g => post (v, f, g)) R9 x1 x2 x3 x5 x6 x7 v f g) : mG p l e (mRm 2 53) s m args below meth c A D cI cJ cZ a 13 (MQ below (va_Qv post (mB D cI cJ cZ a) A) args s 0 0 A) 150 [(0, .ref (a 0)), (1, .int x1), (2, .int x2), (3, .long x3), (5, .int x5), (6, .int x6), (7, .int x7)] [] v f g := by
  unfold r_packs_150 at h
  obtain ⟨x7_12, e_x7_12⟩ : ∃ z : Int32, z = x7 + nI 1 := ⟨_, rfl⟩
  have h := h x7_12 e_x7_12
  refine mg_iinc C (lv' := [(7, .int x7_12), (0, .ref (a 0)), (1, .int x1), (2, .int x2), (3, .long x3), (5, .int x5), (6, .int x6)]) 6 rfl (by rw [e_x7_12]; rfl) (Nat.le_of_ble_eq_true rfl) rfl dX12_packs_150 ?_
  refine mg_goto C 9 (by decide) dX12_packs_153 ?_
  exact mg_sub [1, 2, 3, 4, 5, 6, 0] rfl (hR9 x1 x2 x3 x5 x6 x7_12 v f g h)
set_option maxRecDepth 20000 in
theorem sb_packs_128 (C : mC p s m args meth c cX12_packs 13 none A D cI cJ cZ) {post : mS → Prop} {R9 : Int32 → Int32 → Int64 → Int32 → Int32 → Int32 → (Nat → Int32) → (Nat → Nat → Int32) → (Nat → Nat → Int64) → Prop} {R49 : Int32 → Int32 → Int64 → Int32 → Int32 → Int32 → Int32 → Int32 → Int32 → Int32 → Int32 → (Nat → Int32) → (Nat → Nat → Int32) → (Nat → Nat → Int64) → Prop} (hR9 : ∀ (x1 : Int32) (x2 : Int32) (x3 : Int64) (x5 : Int32) (x6 : Int32) (x7 : Int32) (v : Nat → Int32) (f : Nat → Nat → Int32) (g : Nat → Nat → Int64), R9 x1 x2 x3 x5 x6 x7 v f g → mG p l e (mRm 2 53) s m args below meth c A D cI cJ cZ a 13 (MQ below (va_Qv post (mB D cI cJ cZ a) A) args s 0 0 A) 9 [(0, .ref (a 0)), (1, .int x1), (2, .int x2), (3, .long x3), (5, .int x5), (6, .int x6), (7, .int x7)] [] v f g) (hR49 : ∀ (x1 : Int32) (x2 : Int32) (x3 : Int64) (x5 : Int32) (x6 : Int32) (x7 : Int32) (x8 : Int32) (x9 : Int32) (x10 : Int32) (x11 : Int32) (x12 : Int32) (v : Nat → Int32) (f : Nat → Nat → Int32) (g : Nat → Nat → Int64), R49 x1 x2 x3 x5 x6 x7 x8 x9 x10 x11 x12 v f g → mG p l e (mRm 2 53) s m args below meth c A D cI cJ cZ a 13 (MQ below (va_Qv post (mB D cI cJ cZ a) A) args s 0 0 A) 49 [(0, .ref (a 0)), (1, .int x1), (2, .int x2), (3, .long x3), (5, .int x5), (6, .int x6), (7, .int x7), (8, .int x8), (9, .int x9), (10, .int x10), (11, .int x11), (12, .int x12)] [] v f g) (x1 : Int32) (x2 : Int32) (x3 : Int64) (x5 : Int32) (x6 : Int32) (x7 : Int32) (x8 : Int32) (x9 : Int32) (x10 : Int32) (x11 : Int32) (x12 : Int32) (v : Nat → Int32) (f : Nat → Nat → Int32) (g : Nat → Nat → Int64) (h : r_packs_128 (fun v f g => post (v, f, g)) R9 R49 x1 x2 x3 x5 x6 x7 x8 x9 x10 x11 x12 v f g) : mG p l e (mRm 2 53) s m args below meth c A D cI cJ cZ a 13 (MQ below (va_Qv post (mB D cI cJ cZ a) A) args s 0 0 A) 128 [(0, .ref (a 0)), (1, .int x1), (2, .int x2), (3, .long x3), (5, .int x5), (6, .int x6), (7, .int x7), (8, .int x8), (9, .int x9), (10, .int x10), (11, .int x11), (12, .int x12)] [] v f g := by
  unfold r_packs_128 at h
  obtain ⟨x12_15, e_x12_15⟩ : ∃ z : Int32, z = x12 + nI 1 := ⟨_, rfl⟩
  have h := h x12_15 e_x12_15
  refine mg_iinc C (lv' := [(12, .int x12_15), (0, .ref (a 0)), (1, .int x1), (2, .int x2), (3, .long x3), (5, .int x5), (6, .int x6), (7, .int x7), (8, .int x8), (9, .int x9), (10, .int x10), (11, .int x11)]) 11 rfl (by rw [e_x12_15]; rfl) (Nat.le_of_ble_eq_true rfl) rfl dX12_packs_128 ?_
  refine mg_goto C 49 (by decide) dX12_packs_131 ?_
  exact mg_sub [1, 2, 3, 4, 5, 6, 7, 8, 9, 10, 11, 0] rfl (hR49 x1 x2 x3 x5 x6 x7 x8 x9 x10 x11 x12_15 v f g h)
set_option maxRecDepth 20000 in
theorem sb_packs_104 (C : mC p s m args meth c cX12_packs 13 none A D cI cJ cZ) {post : mS → Prop} {R9 : Int32 → Int32 → Int64 → Int32 → Int32 → Int32 → (Nat → Int32) → (Nat → Nat → Int32) → (Nat → Nat → Int64) → Prop} {R49 : Int32 → Int32 → Int64 → Int32 → Int32 → Int32 → Int32 → Int32 → Int32 → Int32 → Int32 → (Nat → Int32) → (Nat → Nat → Int32) → (Nat → Nat → Int64) → Prop} (hR9 : ∀ (x1 : Int32) (x2 : Int32) (x3 : Int64) (x5 : Int32) (x6 : Int32) (x7 : Int32) (v : Nat → Int32) (f : Nat → Nat → Int32) (g : Nat → Nat → Int64), R9 x1 x2 x3 x5 x6 x7 v f g → mG p l e (mRm 2 53) s m args below meth c A D cI cJ cZ a 13 (MQ below (va_Qv post (mB D cI cJ cZ a) A) args s 0 0 A) 9 [(0, .ref (a 0)), (1, .int x1), (2, .int x2), (3, .long x3), (5, .int x5), (6, .int x6), (7, .int x7)] [] v f g) (hR49 : ∀ (x1 : Int32) (x2 : Int32) (x3 : Int64) (x5 : Int32) (x6 : Int32) (x7 : Int32) (x8 : Int32) (x9 : Int32) (x10 : Int32) (x11 : Int32) (x12 : Int32) (v : Nat → Int32) (f : Nat → Nat → Int32) (g : Nat → Nat → Int64), R49 x1 x2 x3 x5 x6 x7 x8 x9 x10 x11 x12 v f g → mG p l e (mRm 2 53) s m args below meth c A D cI cJ cZ a 13 (MQ below (va_Qv post (mB D cI cJ cZ a) A) args s 0 0 A) 49 [(0, .ref (a 0)), (1, .int x1), (2, .int x2), (3, .long x3), (5, .int x5), (6, .int x6), (7, .int x7), (8, .int x8), (9, .int x9), (10, .int x10), (11, .int x11), (12, .int x12)] [] v f g) (x1 : Int32) (x2 : Int32) (x3 : Int64) (x5 : Int32) (x6 : Int32) (x7 : Int32) (x8 : Int32) (x9 : Int32) (x10 : Int32) (x11 : Int32) (x12 : Int32) (v : Nat → Int32) (f : Nat → Nat → Int32) (g : Nat → Nat → Int64) (h : r_packs_104 (fun v f g => post (v, f, g)) R9 R49 x1 x2 x3 x5 x6 x7 x8 x9 x10 x11 x12 v f g) : mG p l e (mRm 2 53) s m args below meth c A D cI cJ cZ a 13 (MQ below (va_Qv post (mB D cI cJ cZ a) A) args s 0 0 A) 104 [(0, .ref (a 0)), (1, .int x1), (2, .int x2), (3, .long x3), (5, .int x5), (6, .int x6), (7, .int x7), (8, .int x8), (9, .int x9), (10, .int x10), (11, .int x11), (12, .int x12)] [] v f g := by
  unfold r_packs_104 at h
  refine mg_aload_n C (i := 0) rfl 0 rfl dX12_packs_104 ?_
  refine mg_arr C 36 (by decide) (by decide) rfl mL_plain rfl dX12_packs_105 ?_
  refine mg_iload C 4 rfl dX12_packs_108 ?_
  refine mg_iload C 11 rfl dX12_packs_110 ?_
  refine mg_iload C 9 rfl dX12_packs_112 ?_
  refine mg_isub C dX12_packs_114 ?_
  refine mg_iconst C (x := nI 1) rfl dX12_packs_115 ?_
  refine mg_isub C dX12_packs_116 ?_
  obtain ⟨hc_117, h⟩ := h
  refine mg_iastoreR C (n := 2300) 36 (by decide) (by decide) rfl rfl hc_117 dX12_packs_117 ?_
  refine mg_nmF (fun f16 e_f16 => ?_)
  have h := h f16 e_f16
  obtain ⟨x5_17, e_x5_17⟩ : ∃ z : Int32, z = x5 + nI 1 := ⟨_, rfl⟩
  have h := h x5_17 e_x5_17
  refine mg_iinc C (lv' := [(5, .int x5_17), (0, .ref (a 0)), (1, .int x1), (2, .int x2), (3, .long x3), (6, .int x6), (7, .int x7), (8, .int x8), (9, .int x9), (10, .int x10), (11, .int x11), (12, .int x12)]) 4 rfl (by rw [e_x5_17]; rfl) (Nat.le_of_ble_eq_true rfl) rfl dX12_packs_118 ?_
  refine mg_iload C 11 rfl dX12_packs_121 ?_
  refine mg_istore C (lv' := [(10, .int x12), (5, .int x5_17), (0, .ref (a 0)), (1, .int x1), (2, .int x2), (3, .long x3), (6, .int x6), (7, .int x7), (8, .int x8), (9, .int x9), (11, .int x11), (12, .int x12)]) (Nat.le_of_ble_eq_true rfl) rfl dX12_packs_123 ?_
  obtain ⟨x9_18, e_x9_18⟩ : ∃ z : Int32, z = x9 + nI 1 := ⟨_, rfl⟩
  have h := h x9_18 e_x9_18
  refine mg_iinc C (lv' := [(9, .int x9_18), (10, .int x12), (5, .int x5_17), (0, .ref (a 0)), (1, .int x1), (2, .int x2), (3, .long x3), (6, .int x6), (7, .int x7), (8, .int x8), (11, .int x11), (12, .int x12)]) 9 rfl (by rw [e_x9_18]; rfl) (Nat.le_of_ble_eq_true rfl) rfl dX12_packs_125 ?_
  exact mg_sub [3, 4, 5, 6, 2, 7, 8, 9, 0, 1, 10, 11] rfl (sb_packs_128 C hR9 hR49 x1 x2 x3 x5_17 x6 x7 x8 x9_18 x12 x11 x12 v f16 g h)
set_option maxRecDepth 20000 in
theorem sb_packs_49 (C : mC p s m args meth c cX12_packs 13 none A D cI cJ cZ) {post : mS → Prop} {R9 : Int32 → Int32 → Int64 → Int32 → Int32 → Int32 → (Nat → Int32) → (Nat → Nat → Int32) → (Nat → Nat → Int64) → Prop} {R49 : Int32 → Int32 → Int64 → Int32 → Int32 → Int32 → Int32 → Int32 → Int32 → Int32 → Int32 → (Nat → Int32) → (Nat → Nat → Int32) → (Nat → Nat → Int64) → Prop} (hR9 : ∀ (x1 : Int32) (x2 : Int32) (x3 : Int64) (x5 : Int32) (x6 : Int32) (x7 : Int32) (v : Nat → Int32) (f : Nat → Nat → Int32) (g : Nat → Nat → Int64), R9 x1 x2 x3 x5 x6 x7 v f g → mG p l e (mRm 2 53) s m args below meth c A D cI cJ cZ a 13 (MQ below (va_Qv post (mB D cI cJ cZ a) A) args s 0 0 A) 9 [(0, .ref (a 0)), (1, .int x1), (2, .int x2), (3, .long x3), (5, .int x5), (6, .int x6), (7, .int x7)] [] v f g) (hR49 : ∀ (x1 : Int32) (x2 : Int32) (x3 : Int64) (x5 : Int32) (x6 : Int32) (x7 : Int32) (x8 : Int32) (x9 : Int32) (x10 : Int32) (x11 : Int32) (x12 : Int32) (v : Nat → Int32) (f : Nat → Nat → Int32) (g : Nat → Nat → Int64), R49 x1 x2 x3 x5 x6 x7 x8 x9 x10 x11 x12 v f g → mG p l e (mRm 2 53) s m args below meth c A D cI cJ cZ a 13 (MQ below (va_Qv post (mB D cI cJ cZ a) A) args s 0 0 A) 49 [(0, .ref (a 0)), (1, .int x1), (2, .int x2), (3, .long x3), (5, .int x5), (6, .int x6), (7, .int x7), (8, .int x8), (9, .int x9), (10, .int x10), (11, .int x11), (12, .int x12)] [] v f g) (x1 : Int32) (x2 : Int32) (x3 : Int64) (x5 : Int32) (x6 : Int32) (x7 : Int32) (x8 : Int32) (x9 : Int32) (x10 : Int32) (x11 : Int32) (x12 : Int32) (v : Nat → Int32) (f : Nat → Nat → Int32) (g : Nat → Nat → Int64) (h : r_packs_49 (fun v f g => post (v, f, g)) R9 R49 x1 x2 x3 x5 x6 x7 x8 x9 x10 x11 x12 v f g) : mG p l e (mRm 2 53) s m args below meth c A D cI cJ cZ a 13 (MQ below (va_Qv post (mB D cI cJ cZ a) A) args s 0 0 A) 49 [(0, .ref (a 0)), (1, .int x1), (2, .int x2), (3, .long x3), (5, .int x5), (6, .int x6), (7, .int x7), (8, .int x8), (9, .int x9), (10, .int x10), (11, .int x11), (12, .int x12)] [] v f g := by
  unfold r_packs_49 at h
  refine mg_iload C 11 rfl dX12_packs_49 ?_
  refine mg_aload_n C (i := 0) rfl 0 rfl dX12_packs_51 ?_
  refine mg_arr C 18 (by decide) (by decide) rfl mL_places rfl dX12_packs_52 ?_
  refine mg_iconst C (x := nI 2) rfl dX12_packs_55 ?_
  refine mg_iload C 7 rfl dX12_packs_56 ?_
  refine mg_imul C dX12_packs_58 ?_
  refine mg_iload_n C (i := 2) rfl 2 rfl dX12_packs_59 ?_
  refine mg_iadd C dX12_packs_60 ?_
  obtain ⟨hc_61, h⟩ := h
  refine mg_ialoadR C (n := 4848) 18 (by decide) (by decide) rfl rfl hc_61 dX12_packs_61 ?_
  refine mg_icmp_ge C 134 (by decide) dX12_packs_62 (fun c_ => ?_) (fun c_ => ?_)
  · have h := h.1 c_
    refine mg_iload C 8 rfl dX12_packs_134 ?_
    refine mg_if_le C 150 (by decide) dX12_packs_136 (fun c_ => ?_) (fun c_ => ?_)
    · have h := h.1 c_
      exact mg_sub [0, 1, 2, 3, 4, 5, 6] rfl (sb_packs_150 C hR9 x1 x2 x3 x5 x6 x7 v f g h)
    · have h := h.2 c_
      refine mg_aload_n C (i := 0) rfl 0 rfl dX12_packs_139 ?_
      refine mg_arr C 36 (by decide) (by decide) rfl mL_plain rfl dX12_packs_140 ?_
      refine mg_iload C 10 rfl dX12_packs_143 ?_
      refine mg_iload C 8 rfl dX12_packs_145 ?_
      refine mg_iconst C (x := nI 1) rfl dX12_packs_147 ?_
      refine mg_isub C dX12_packs_148 ?_
      obtain ⟨hc_149, h⟩ := h
      refine mg_iastoreR C (n := 2300) 36 (by decide) (by decide) rfl rfl hc_149 dX12_packs_149 ?_
      refine mg_nmF (fun f13 e_f13 => ?_)
      have h := h f13 e_f13
      exact mg_sub [0, 1, 2, 3, 4, 5, 6] rfl (sb_packs_150 C hR9 x1 x2 x3 x5 x6 x7 v f13 g h)
  · have h := h.2 c_
    refine mg_aload_n C (i := 0) rfl 0 rfl dX12_packs_65 ?_
    refine mg_iload C 7 rfl dX12_packs_66 ?_
    refine mg_iload_n C (i := 2) rfl 2 rfl dX12_packs_68 ?_
    refine mg_iload C 11 rfl dX12_packs_69 ?_
    refine mg_lload_n C (i := 3) rfl 3 rfl dX12_packs_71 ?_
    refine mg_calliW C (s_hasAt l x8 x2 x12 x3 v f g h) mCal_hasAt rfl ⟨by decide, by decide⟩ rfl (Nat.le_of_ble_eq_true rfl) dX12_packs_72 (fun r_14 v_14 f_14 g_14 h => ?_)
    refine mg_if_eq C 128 (by decide) dX12_packs_75 (fun c_ => ?_) (fun c_ => ?_)
    · have h := h.1 c_
      exact mg_sub [0, 1, 2, 3, 4, 5, 6, 7, 8, 9, 10, 11] rfl (sb_packs_128 C hR9 hR49 x1 x2 x3 x5 x6 x7 x8 x9 x10 x11 x12 v_14 f_14 g_14 h)
    · have h := h.2 c_
      refine mg_iload C 8 rfl dX12_packs_78 ?_
      refine mg_if_ne C 104 (by decide) dX12_packs_80 (fun c_ => ?_) (fun c_ => ?_)
      · have h := h.1 c_
        exact mg_sub [0, 1, 2, 3, 4, 5, 6, 7, 8, 9, 10, 11] rfl (sb_packs_104 C hR9 hR49 x1 x2 x3 x5 x6 x7 x8 x9 x10 x11 x12 v_14 f_14 g_14 h)
      · have h := h.2 c_
        refine mg_aload_n C (i := 0) rfl 0 rfl dX12_packs_83 ?_
        refine mg_arr C 36 (by decide) (by decide) rfl mL_plain rfl dX12_packs_84 ?_
        refine mg_iload C 4 rfl dX12_packs_87 ?_
        refine mg_iload C 6 rfl dX12_packs_89 ?_
        refine mg_iload C 5 rfl dX12_packs_91 ?_
        refine mg_isub C dX12_packs_93 ?_
        refine mg_iconst C (x := nI 1) rfl dX12_packs_94 ?_
        refine mg_isub C dX12_packs_95 ?_
        obtain ⟨hc_96, h⟩ := h
        refine mg_iastoreR C (n := 2300) 36 (by decide) (by decide) rfl rfl hc_96 dX12_packs_96 ?_
        refine mg_nmF (fun f19 e_f19 => ?_)
        have h := h f19 e_f19
        obtain ⟨x5_20, e_x5_20⟩ : ∃ z : Int32, z = x5 + nI 2 := ⟨_, rfl⟩
        have h := h x5_20 e_x5_20
        refine mg_iinc C (lv' := [(5, .int x5_20), (0, .ref (a 0)), (1, .int x1), (2, .int x2), (3, .long x3), (6, .int x6), (7, .int x7), (8, .int x8), (9, .int x9), (10, .int x10), (11, .int x11), (12, .int x12)]) 4 rfl (by rw [e_x5_20]; rfl) (Nat.le_of_ble_eq_true rfl) rfl dX12_packs_97 ?_
        refine mg_iload C 6 rfl dX12_packs_100 ?_
        refine mg_istore C (lv' := [(6, .int x7), (5, .int x5_20), (0, .ref (a 0)), (1, .int x1), (2, .int x2), (3, .long x3), (7, .int x7), (8, .int x8), (9, .int x9), (10, .int x10), (11, .int x11), (12, .int x12)]) (Nat.le_of_ble_eq_true rfl) rfl dX12_packs_102 ?_
        exact mg_sub [2, 3, 4, 5, 1, 0, 6, 7, 8, 9, 10, 11] rfl (sb_packs_104 C hR9 hR49 x1 x2 x3 x5_20 x7 x7 x8 x9 x10 x11 x12 v_14 f19 g_14 h)
set_option maxRecDepth 20000 in
theorem sl_packs_49 (C : mC p s m args meth c cX12_packs 13 none A D cI cJ cZ) {post : mS → Prop} {R9 : Int32 → Int32 → Int64 → Int32 → Int32 → Int32 → (Nat → Int32) → (Nat → Nat → Int32) → (Nat → Nat → Int64) → Prop} (hR9 : ∀ (x1 : Int32) (x2 : Int32) (x3 : Int64) (x5 : Int32) (x6 : Int32) (x7 : Int32) (v : Nat → Int32) (f : Nat → Nat → Int32) (g : Nat → Nat → Int64), R9 x1 x2 x3 x5 x6 x7 v f g → mG p l e (mRm 2 53) s m args below meth c A D cI cJ cZ a 13 (MQ below (va_Qv post (mB D cI cJ cZ a) A) args s 0 0 A) 9 [(0, .ref (a 0)), (1, .int x1), (2, .int x2), (3, .long x3), (5, .int x5), (6, .int x6), (7, .int x7)] [] v f g) (x1 : Int32) (x2 : Int32) (x3 : Int64) (x5 : Int32) (x6 : Int32) (x7 : Int32) (x8 : Int32) (x9 : Int32) (x10 : Int32) (x11 : Int32) (x12 : Int32) (v : Nat → Int32) (f : Nat → Nat → Int32) (g : Nat → Nat → Int64) (h : r_packs_49L (fun v f g => post (v, f, g)) R9 x1 x2 x3 x5 x6 x7 x8 x9 x10 x11 x12 v f g) : mG p l e (mRm 2 53) s m args below meth c A D cI cJ cZ a 13 (MQ below (va_Qv post (mB D cI cJ cZ a) A) args s 0 0 A) 49 [(0, .ref (a 0)), (1, .int x1), (2, .int x2), (3, .long x3), (5, .int x5), (6, .int x6), (7, .int x7), (8, .int x8), (9, .int x9), (10, .int x10), (11, .int x11), (12, .int x12)] [] v f g :=
  h (fun y => mG p l e (mRm 2 53) s m args below meth c A D cI cJ cZ a 13 (MQ below (va_Qv post (mB D cI cJ cZ a) A) args s 0 0 A) 49 [(0, .ref (a 0)), (1, .int (y.1)), (2, .int (y.2.1)), (3, .long (y.2.2.1)), (5, .int (y.2.2.2.1)), (6, .int (y.2.2.2.2.1)), (7, .int (y.2.2.2.2.2.1)), (8, .int (y.2.2.2.2.2.2.1)), (9, .int (y.2.2.2.2.2.2.2.1)), (10, .int (y.2.2.2.2.2.2.2.2.1)), (11, .int (y.2.2.2.2.2.2.2.2.2.1)), (12, .int (y.2.2.2.2.2.2.2.2.2.2.1))] [] (y.2.2.2.2.2.2.2.2.2.2.2.1) (y.2.2.2.2.2.2.2.2.2.2.2.2.1) (y.2.2.2.2.2.2.2.2.2.2.2.2.2)) (fun y hy => sb_packs_49 C hR9 (fun b0 b1 b2 b3 b4 b5 b6 b7 b8 b9 b10 v f g z => z) (y.1) (y.2.1) (y.2.2.1) (y.2.2.2.1) (y.2.2.2.2.1) (y.2.2.2.2.2.1) (y.2.2.2.2.2.2.1) (y.2.2.2.2.2.2.2.1) (y.2.2.2.2.2.2.2.2.1) (y.2.2.2.2.2.2.2.2.2.1) (y.2.2.2.2.2.2.2.2.2.2.1) (y.2.2.2.2.2.2.2.2.2.2.2.1) (y.2.2.2.2.2.2.2.2.2.2.2.2.1) (y.2.2.2.2.2.2.2.2.2.2.2.2.2) hy)
set_option maxRecDepth 20000 in
theorem sb_packs_9 (C : mC p s m args meth c cX12_packs 13 none A D cI cJ cZ) {post : mS → Prop} {R9 : Int32 → Int32 → Int64 → Int32 → Int32 → Int32 → (Nat → Int32) → (Nat → Nat → Int32) → (Nat → Nat → Int64) → Prop} (hR9 : ∀ (x1 : Int32) (x2 : Int32) (x3 : Int64) (x5 : Int32) (x6 : Int32) (x7 : Int32) (v : Nat → Int32) (f : Nat → Nat → Int32) (g : Nat → Nat → Int64), R9 x1 x2 x3 x5 x6 x7 v f g → mG p l e (mRm 2 53) s m args below meth c A D cI cJ cZ a 13 (MQ below (va_Qv post (mB D cI cJ cZ a) A) args s 0 0 A) 9 [(0, .ref (a 0)), (1, .int x1), (2, .int x2), (3, .long x3), (5, .int x5), (6, .int x6), (7, .int x7)] [] v f g) (x1 : Int32) (x2 : Int32) (x3 : Int64) (x5 : Int32) (x6 : Int32) (x7 : Int32) (v : Nat → Int32) (f : Nat → Nat → Int32) (g : Nat → Nat → Int64) (h : r_packs_9 (fun v f g => post (v, f, g)) R9 x1 x2 x3 x5 x6 x7 v f g) : mG p l e (mRm 2 53) s m args below meth c A D cI cJ cZ a 13 (MQ below (va_Qv post (mB D cI cJ cZ a) A) args s 0 0 A) 9 [(0, .ref (a 0)), (1, .int x1), (2, .int x2), (3, .long x3), (5, .int x5), (6, .int x6), (7, .int x7)] [] v f g := by
  unfold r_packs_9 at h
  refine mg_iload C 6 rfl dX12_packs_9 ?_
  refine mg_aload_n C (i := 0) rfl 0 rfl dX12_packs_11 ?_
  refine mg_arr C 20 (by decide) (by decide) rfl mL_sizes rfl dX12_packs_12 ?_
  refine mg_iload_n C (i := 1) rfl 1 rfl dX12_packs_15 ?_
  obtain ⟨hc_16, h⟩ := h
  refine mg_ialoadR C (n := 202) 20 (by decide) (by decide) rfl rfl hc_16 dX12_packs_16 ?_
  refine mg_icmp_ge C 156 (by decide) dX12_packs_17 (fun c_ => ?_) (fun c_ => ?_)
  · have h := h.1 c_
    refine mg_aload_n C (i := 0) rfl 0 rfl dX12_packs_156 ?_
    refine mg_iconst C (x := nI 0) rfl dX12_packs_157 ?_
    refine mg_put C (k := 58) (by decide) rfl mL_packedBits rfl (by decide +kernel) mT_packedBits rfl rfl dX12_packs_158 ?_
    refine mg_nmV (fun v2 e_v2 => ?_)
    have h := h v2 e_v2
    refine mg_iconst C (x := nI 0) rfl dX12_packs_161 ?_
    refine mg_istore C (lv' := [(7, .int ((nI 0))), (0, .ref (a 0)), (1, .int x1), (2, .int x2), (3, .long x3), (5, .int x5), (6, .int x6)]) (Nat.le_of_ble_eq_true rfl) rfl dX12_packs_162 ?_
    exact mg_sub [1, 5, 0] rfl (sl_packs_164 C  x5 (((nI 0))) v2 f g h)
  · have h := h.2 c_
    refine mg_aload_n C (i := 0) rfl 0 rfl dX12_packs_20 ?_
    refine mg_arr C 19 (by decide) (by decide) rfl mL_held rfl dX12_packs_21 ?_
    refine mg_bipush C (x := nI 100) rfl dX12_packs_24 ?_
    refine mg_iload_n C (i := 1) rfl 1 rfl dX12_packs_26 ?_
    refine mg_imul C dX12_packs_27 ?_
    refine mg_iload C 6 rfl dX12_packs_28 ?_
    refine mg_iadd C dX12_packs_30 ?_
    obtain ⟨hc_31, h⟩ := h
    refine mg_ialoadR C (n := 20200) 19 (by decide) (by decide) rfl rfl hc_31 dX12_packs_31 ?_
    refine mg_nmI (fun x8_9 e_x8_9 => ?_)
    have h := h x8_9 e_x8_9
    refine mg_istore C (lv' := [(8, .int x8_9), (0, .ref (a 0)), (1, .int x1), (2, .int x2), (3, .long x3), (5, .int x5), (6, .int x6), (7, .int x7)]) (Nat.le_of_ble_eq_true rfl) rfl dX12_packs_32 ?_
    refine mg_iconst C (x := nI 0) rfl dX12_packs_34 ?_
    refine mg_istore C (lv' := [(9, .int ((nI 0))), (8, .int x8_9), (0, .ref (a 0)), (1, .int x1), (2, .int x2), (3, .long x3), (5, .int x5), (6, .int x6), (7, .int x7)]) (Nat.le_of_ble_eq_true rfl) rfl dX12_packs_35 ?_
    refine mg_iconst C (x := (-1)) rfl dX12_packs_37 ?_
    refine mg_nmI (fun x10_10 e_x10_10 => ?_)
    have h := h x10_10 e_x10_10
    refine mg_istore C (lv' := [(10, .int x10_10), (9, .int ((nI 0))), (8, .int x8_9), (0, .ref (a 0)), (1, .int x1), (2, .int x2), (3, .long x3), (5, .int x5), (6, .int x6), (7, .int x7)]) (Nat.le_of_ble_eq_true rfl) rfl dX12_packs_38 ?_
    refine mg_iload C 7 rfl dX12_packs_40 ?_
    refine mg_iconst C (x := nI 1) rfl dX12_packs_42 ?_
    refine mg_iadd C dX12_packs_43 ?_
    refine mg_nmI (fun x11_11 e_x11_11 => ?_)
    have h := h x11_11 e_x11_11
    refine mg_istore C (lv' := [(11, .int x11_11), (10, .int x10_10), (9, .int ((nI 0))), (8, .int x8_9), (0, .ref (a 0)), (1, .int x1), (2, .int x2), (3, .long x3), (5, .int x5), (6, .int x6), (7, .int x7)]) (Nat.le_of_ble_eq_true rfl) rfl dX12_packs_44 ?_
    refine mg_iconst C (x := nI 0) rfl dX12_packs_46 ?_
    refine mg_istore C (lv' := [(12, .int ((nI 0))), (11, .int x11_11), (10, .int x10_10), (9, .int ((nI 0))), (8, .int x8_9), (0, .ref (a 0)), (1, .int x1), (2, .int x2), (3, .long x3), (5, .int x5), (6, .int x6), (7, .int x7)]) (Nat.le_of_ble_eq_true rfl) rfl dX12_packs_47 ?_
    exact mg_sub [5, 6, 7, 8, 9, 10, 11, 4, 3, 2, 1, 0] rfl (sl_packs_49 C hR9 x1 x2 x3 x5 x6 x7 x8_9 (((nI 0))) x10_10 x11_11 (((nI 0))) v f g h)
set_option maxRecDepth 20000 in
theorem sl_packs_9 (C : mC p s m args meth c cX12_packs 13 none A D cI cJ cZ) {post : mS → Prop}   (x1 : Int32) (x2 : Int32) (x3 : Int64) (x5 : Int32) (x6 : Int32) (x7 : Int32) (v : Nat → Int32) (f : Nat → Nat → Int32) (g : Nat → Nat → Int64) (h : r_packs_9L (fun v f g => post (v, f, g))  x1 x2 x3 x5 x6 x7 v f g) : mG p l e (mRm 2 53) s m args below meth c A D cI cJ cZ a 13 (MQ below (va_Qv post (mB D cI cJ cZ a) A) args s 0 0 A) 9 [(0, .ref (a 0)), (1, .int x1), (2, .int x2), (3, .long x3), (5, .int x5), (6, .int x6), (7, .int x7)] [] v f g :=
  h (fun y => mG p l e (mRm 2 53) s m args below meth c A D cI cJ cZ a 13 (MQ below (va_Qv post (mB D cI cJ cZ a) A) args s 0 0 A) 9 [(0, .ref (a 0)), (1, .int (y.1)), (2, .int (y.2.1)), (3, .long (y.2.2.1)), (5, .int (y.2.2.2.1)), (6, .int (y.2.2.2.2.1)), (7, .int (y.2.2.2.2.2.1))] [] (y.2.2.2.2.2.2.1) (y.2.2.2.2.2.2.2.1) (y.2.2.2.2.2.2.2.2)) (fun y hy => sb_packs_9 C  (fun b0 b1 b2 b3 b4 b5 v f g z => z) (y.1) (y.2.1) (y.2.2.1) (y.2.2.2.1) (y.2.2.2.2.1) (y.2.2.2.2.2.1) (y.2.2.2.2.2.2.1) (y.2.2.2.2.2.2.2.1) (y.2.2.2.2.2.2.2.2) hy)
end S_packs
set_option maxHeartbeats 1000000 in
set_option maxRecDepth 20000 in
theorem s_packs (l : Launch) (x1 : Int32) (x2 : Int32) (x3 : Int64) (v : Nat → Int32) (f : Nat → Nat → Int32) (g : Nat → Nat → Int64) {P : (Nat → Int32) → (Nat → Nat → Int32) → (Nat → Nat → Int64) → Prop} (h : r_packs P x1 x2 x3 v f g) : mMv l yX12_packs cX12_packs 13 none 2 53 false [.int x1, .int x2, .long x3] v f g (fun w => P w.1 w.2.1 w.2.2) := by
  intro D cI cJ cZ a sz
  refine mg_body (by decide +kernel) rfl (Nat.le_of_ble_eq_true rfl) ?_
  intro p e s m args below meth c hsz C
  clear hsz
  generalize va_A (mW cI cJ cZ a v f g) sz = A at C ⊢
  refine mg_lv (lv' := [(0, .ref (a 0)), (1, .int x1), (2, .int x2), (3, .long x3)]) rfl ?_
  unfold r_packs at h
  refine mg_iconst C (x := nI 0) rfl dX12_packs_0 ?_
  refine mg_istore C (lv' := [(5, .int ((nI 0))), (0, .ref (a 0)), (1, .int x1), (2, .int x2), (3, .long x3)]) (Nat.le_of_ble_eq_true rfl) rfl dX12_packs_1 ?_
  refine mg_iconst C (x := (-1)) rfl dX12_packs_3 ?_
  refine mg_nmI (fun x6_1 e_x6_1 => ?_)
  have h := h x6_1 e_x6_1
  refine mg_istore C (lv' := [(6, .int x6_1), (5, .int ((nI 0))), (0, .ref (a 0)), (1, .int x1), (2, .int x2), (3, .long x3)]) (Nat.le_of_ble_eq_true rfl) rfl dX12_packs_4 ?_
  refine mg_iconst C (x := nI 0) rfl dX12_packs_6 ?_
  refine mg_istore C (lv' := [(7, .int ((nI 0))), (6, .int x6_1), (5, .int ((nI 0))), (0, .ref (a 0)), (1, .int x1), (2, .int x2), (3, .long x3)]) (Nat.le_of_ble_eq_true rfl) rfl dX12_packs_7 ?_
  exact mg_sub [3, 4, 5, 6, 2, 1, 0] rfl (sl_packs_9 C  x1 x2 x3 (((nI 0))) x6_1 (((nI 0))) v f g h)
def r_bytes (Q : Int32 → (Nat → Int32) → (Nat → Nat → Int32) → (Nat → Nat → Int64) → Prop) (x1 : Int32) (x2 : Int32) (x3 : Int32) (v : Nat → Int32) (f : Nat → Nat → Int32) (g : Nat → Nat → Int64) : Prop :=
r_hasWord (fun r_1 v_1 f_1 g_1 => 
r_goes (fun r_2 v_2 f_2 g_2 => 
((¬ r_2 = 0 →
  vp_in x1 202 ∧ (vp_in x3 2200 ∧ (r_packs (fun v_3 f_3 g_3 => 
  Q ((((((v_3 58)) + ((nI 7)))) / ((nI 8)))) v_3 f_3 g_3) ((f_2 24 (x1).toNatClampNeg)) x2 (g_2 35 (x3).toNatClampNeg) v_2 f_2 g_2))) ∧
 (r_2 = 0 →
  Q ((nI 0)) v_2 f_2 g_2))) r_1 ((nI 1)) ((nI 1)) v_1 f_1 g_1) x1 x2 x3 v f g
set_option maxHeartbeats 1000000 in
set_option maxRecDepth 20000 in
theorem s_bytes (l : Launch) (x1 : Int32) (x2 : Int32) (x3 : Int32) (v : Nat → Int32) (f : Nat → Nat → Int32) (g : Nat → Nat → Int64) {P : Int32 → (Nat → Int32) → (Nat → Nat → Int32) → (Nat → Nat → Int64) → Prop} (h : r_bytes P x1 x2 x3 v f g) : mMi l yX12_bytes cX12_bytes 4 (some .int) 4 98 false [.int x1, .int x2, .int x3] v f g (fun r w => P r w.1 w.2.1 w.2.2) := by
  intro D cI cJ cZ a sz
  refine mg_body (by decide +kernel) rfl (Nat.le_of_ble_eq_true rfl) ?_
  intro p e s m args below meth c hsz C
  clear hsz
  generalize va_A (mW cI cJ cZ a v f g) sz = A at C ⊢
  refine mg_lv (lv' := [(0, .ref (a 0)), (1, .int x1), (2, .int x2), (3, .int x3)]) rfl ?_
  unfold r_bytes at h
  refine mg_aload_n C (i := 0) rfl 0 rfl dX12_bytes_0 ?_
  refine mg_aload_n C (i := 0) rfl 0 rfl dX12_bytes_1 ?_
  refine mg_iload_n C (i := 1) rfl 1 rfl dX12_bytes_2 ?_
  refine mg_iload_n C (i := 2) rfl 2 rfl dX12_bytes_3 ?_
  refine mg_iload_n C (i := 3) rfl 3 rfl dX12_bytes_4 ?_
  refine mg_calliW C (s_hasWord l x1 x2 x3 v f g h) mCal_hasWord rfl ⟨by decide, by decide⟩ rfl (Nat.le_of_ble_eq_true rfl) dX12_bytes_5 (fun r_1 v_1 f_1 g_1 h => ?_)
  refine mg_iconst C (x := nI 1) rfl dX12_bytes_8 ?_
  refine mg_iconst C (x := nI 1) rfl dX12_bytes_9 ?_
  refine mg_calliW C (s_goes l r_1 ((nI 1)) ((nI 1)) v_1 f_1 g_1 h) mCal_goes rfl ⟨by decide, by decide⟩ rfl (Nat.le_of_ble_eq_true rfl) dX12_bytes_10 (fun r_2 v_2 f_2 g_2 h => ?_)
  refine mg_if_ne C 18 (by decide) dX12_bytes_13 (fun c_ => ?_) (fun c_ => ?_)
  · have h := h.1 c_
    refine mg_aload_n C (i := 0) rfl 0 rfl dX12_bytes_18 ?_
    refine mg_aload_n C (i := 0) rfl 0 rfl dX12_bytes_19 ?_
    refine mg_arr C 24 (by decide) (by decide) rfl mL_index rfl dX12_bytes_20 ?_
    refine mg_iload_n C (i := 1) rfl 1 rfl dX12_bytes_23 ?_
    obtain ⟨hc_24, h⟩ := h
    refine mg_ialoadR C (n := 202) 24 (by decide) (by decide) rfl rfl hc_24 dX12_bytes_24 ?_
    refine mg_iload_n C (i := 2) rfl 2 rfl dX12_bytes_25 ?_
    refine mg_aload_n C (i := 0) rfl 0 rfl dX12_bytes_26 ?_
    refine mg_arr C 35 (by decide) (by decide) rfl mL_found rfl dX12_bytes_27 ?_
    refine mg_iload_n C (i := 3) rfl 3 rfl dX12_bytes_30 ?_
    obtain ⟨hc_31, h⟩ := h
    refine mg_laloadR C (n := 2200) 35 (by decide) (by decide) rfl rfl hc_31 dX12_bytes_31 ?_
    refine mg_callvW C (s_packs l ((f_2 24 (x1).toNatClampNeg)) x2 (g_2 35 (x3).toNatClampNeg) v_2 f_2 g_2 h) mCal_packs rfl ⟨by decide, by decide⟩ rfl (Nat.le_of_ble_eq_true rfl) dX12_bytes_32 (fun v_3 f_3 g_3 h => ?_)
    refine mg_aload_n C (i := 0) rfl 0 rfl dX12_bytes_35 ?_
    refine mg_getI C (k := 58) (by decide) rfl mL_packedBits rfl dX12_bytes_36 ?_
    refine mg_bipush C (x := nI 7) rfl dX12_bytes_39 ?_
    refine mg_iadd C dX12_bytes_41 ?_
    refine mg_bipush C (x := nI 8) rfl dX12_bytes_42 ?_
    refine mg_idiv C (by decide) dX12_bytes_44 ?_
    exact mg_iret C h dX12_bytes_45
  · have h := h.2 c_
    refine mg_iconst C (x := nI 0) rfl dX12_bytes_16 ?_
    exact mg_iret C h dX12_bytes_17
def r_byteAt_63 (Q : Int32 → (Nat → Int32) → (Nat → Nat → Int32) → (Nat → Nat → Int64) → Prop)  (x4 : Int32) (t0 : Int32) (v : Nat → Int32) (f : Nat → Nat → Int32) (g : Nat → Nat → Int64) : Prop :=
r_goes (fun r_2 v_2 f_2 g_2 => 
((¬ r_2 = 0 →
  vp_in x4 2400 ∧ (Q ((((f_2 37 (x4).toNatClampNeg)).toInt8.toInt32)) v_2 f_2 g_2)) ∧
 (r_2 = 0 →
  Q ((nI 0)) v_2 f_2 g_2))) t0 ((nI 1)) ((nI 1)) v f g
def r_byteAt_62 (Q : Int32 → (Nat → Int32) → (Nat → Nat → Int32) → (Nat → Nat → Int64) → Prop)  (x4 : Int32) (v : Nat → Int32) (f : Nat → Nat → Int32) (g : Nat → Nat → Int64) : Prop :=
r_byteAt_63 Q  x4 ((nI 0)) v f g
def r_byteAt_31 (Q : Int32 → (Nat → Int32) → (Nat → Nat → Int32) → (Nat → Nat → Int64) → Prop)  (x4 : Int32) (x5 : Int32) (v : Nat → Int32) (f : Nat → Nat → Int32) (g : Nat → Nat → Int64) : Prop :=
((x5 = 0 →
  r_byteAt_62 Q  x4 v f g) ∧
 (¬ x5 = 0 →
  r_in (fun r_3 v_3 f_3 g_3 => 
  ((r_3 = 0 →
    r_byteAt_62 Q  x4 v_3 f_3 g_3) ∧
   (¬ r_3 = 0 →
    r_byteAt_63 Q  x4 ((nI 1)) v_3 f_3 g_3))) x4 ((nI 0)) ((((((((v 58)) + ((nI 7)))) / ((nI 8)))) - ((nI 1)))) v f g))
def r_byteAt (Q : Int32 → (Nat → Int32) → (Nat → Nat → Int32) → (Nat → Nat → Int64) → Prop) (x1 : Int32) (x2 : Int32) (x3 : Int32) (x4 : Int32) (v : Nat → Int32) (f : Nat → Nat → Int32) (g : Nat → Nat → Int64) : Prop :=
r_hasWord (fun r_1 v_1 f_1 g_1 => 
((r_1 = 0 →
  r_byteAt_31 Q  x4 r_1 v_1 f_1 g_1) ∧
 (¬ r_1 = 0 →
  vp_in x1 202 ∧ (vp_in x3 2200 ∧ (r_packs (fun v_4 f_4 g_4 => 
  r_byteAt_31 Q  x4 r_1 v_4 f_4 g_4) ((f_1 24 (x1).toNatClampNeg)) x2 (g_1 35 (x3).toNatClampNeg) v_1 f_1 g_1))))) x1 x2 x3 v f g
section S_byteAt
variable {p : Program} {l : Launch} {e : Env} {s : State} {m : MethodId} {args : Array Value} {below : List Frame} {meth : Method} {c : Code} {A : Nat → Prop} {D : va_G} {cI cJ cZ : ClassId} {a : Nat → Nat}
set_option maxRecDepth 20000 in
theorem sb_byteAt_63 (C : mC p s m args meth c cX12_byteAt 6 (some .int) A D cI cJ cZ) {post : Int32 → mS → Prop}   (x4 : Int32) (t0 : Int32) (v : Nat → Int32) (f : Nat → Nat → Int32) (g : Nat → Nat → Int64) (h : r_byteAt_63 (fun r v f g => post r (v, f, g))  x4 t0 v f g) : mG p l e (mRm 4 98) s m args below meth c A D cI cJ cZ a 6 (MQ below (va_Qi post (mB D cI cJ cZ a) A) args s 0 0 A) 63 [(0, .ref (a 0)), (4, .int x4)] [.int t0, .ref (a 0)] v f g := by
  unfold r_byteAt_63 at h
  refine mg_iconst C (x := nI 1) rfl dX12_byteAt_63 ?_
  refine mg_iconst C (x := nI 1) rfl dX12_byteAt_64 ?_
  refine mg_calliW C (s_goes l t0 ((nI 1)) ((nI 1)) v f g h) mCal_goes rfl ⟨by decide, by decide⟩ rfl (Nat.le_of_ble_eq_true rfl) dX12_byteAt_65 (fun r_2 v_2 f_2 g_2 h => ?_)
  refine mg_if_ne C 73 (by decide) dX12_byteAt_68 (fun c_ => ?_) (fun c_ => ?_)
  · have h := h.1 c_
    refine mg_aload_n C (i := 0) rfl 0 rfl dX12_byteAt_73 ?_
    refine mg_arr C 37 (by decide) (by decide) rfl mL_packed rfl dX12_byteAt_74 ?_
    refine mg_iload C 1 rfl dX12_byteAt_77 ?_
    obtain ⟨hc_79, h⟩ := h
    refine mg_ialoadR C (n := 2400) 37 (by decide) (by decide) rfl rfl hc_79 dX12_byteAt_79 ?_
    refine mg_i2b C dX12_byteAt_80 ?_
    exact mg_iret C h dX12_byteAt_81
  · have h := h.2 c_
    refine mg_iconst C (x := nI 0) rfl dX12_byteAt_71 ?_
    exact mg_iret C h dX12_byteAt_72
set_option maxRecDepth 20000 in
theorem sb_byteAt_62 (C : mC p s m args meth c cX12_byteAt 6 (some .int) A D cI cJ cZ) {post : Int32 → mS → Prop}   (x4 : Int32) (v : Nat → Int32) (f : Nat → Nat → Int32) (g : Nat → Nat → Int64) (h : r_byteAt_62 (fun r v f g => post r (v, f, g))  x4 v f g) : mG p l e (mRm 4 98) s m args below meth c A D cI cJ cZ a 6 (MQ below (va_Qi post (mB D cI cJ cZ a) A) args s 0 0 A) 62 [(0, .ref (a 0)), (4, .int x4)] [.ref (a 0)] v f g := by
  unfold r_byteAt_62 at h
  refine mg_iconst C (x := nI 0) rfl dX12_byteAt_62 ?_
  exact mg_sub [0, 1] rfl (sb_byteAt_63 C  x4 ((nI 0)) v f g h)
set_option maxRecDepth 20000 in
theorem sb_byteAt_31 (C : mC p s m args meth c cX12_byteAt 6 (some .int) A D cI cJ cZ) {post : Int32 → mS → Prop}   (x4 : Int32) (x5 : Int32) (v : Nat → Int32) (f : Nat → Nat → Int32) (g : Nat → Nat → Int64) (h : r_byteAt_31 (fun r v f g => post r (v, f, g))  x4 x5 v f g) : mG p l e (mRm 4 98) s m args below meth c A D cI cJ cZ a 6 (MQ below (va_Qi post (mB D cI cJ cZ a) A) args s 0 0 A) 31 [(0, .ref (a 0)), (4, .int x4), (5, .int x5)] [] v f g := by
  unfold r_byteAt_31 at h
  refine mg_aload_n C (i := 0) rfl 0 rfl dX12_byteAt_31 ?_
  refine mg_iload C 2 rfl dX12_byteAt_32 ?_
  refine mg_if_eq C 62 (by decide) dX12_byteAt_34 (fun c_ => ?_) (fun c_ => ?_)
  · have h := h.1 c_
    exact mg_sub [0, 1] rfl (sb_byteAt_62 C  x4 v f g h)
  · have h := h.2 c_
    refine mg_iload C 1 rfl dX12_byteAt_37 ?_
    refine mg_iconst C (x := nI 0) rfl dX12_byteAt_39 ?_
    refine mg_aload_n C (i := 0) rfl 0 rfl dX12_byteAt_40 ?_
    refine mg_getI C (k := 58) (by decide) rfl mL_packedBits rfl dX12_byteAt_41 ?_
    refine mg_bipush C (x := nI 7) rfl dX12_byteAt_44 ?_
    refine mg_iadd C dX12_byteAt_46 ?_
    refine mg_bipush C (x := nI 8) rfl dX12_byteAt_47 ?_
    refine mg_idiv C (by decide) dX12_byteAt_49 ?_
    refine mg_iconst C (x := nI 1) rfl dX12_byteAt_50 ?_
    refine mg_isub C dX12_byteAt_51 ?_
    refine mg_callsiW C (s_in l x4 ((nI 0)) ((((((((v 58)) + ((nI 7)))) / ((nI 8)))) - ((nI 1)))) v f g h) mCal_in rfl ⟨by decide, by decide⟩ rfl (Nat.le_of_ble_eq_true rfl) dX12_byteAt_52 (fun r_3 v_3 f_3 g_3 h => ?_)
    refine mg_if_eq C 62 (by decide) dX12_byteAt_55 (fun c_ => ?_) (fun c_ => ?_)
    · have h := h.1 c_
      exact mg_sub [0, 1] rfl (sb_byteAt_62 C  x4 v_3 f_3 g_3 h)
    · have h := h.2 c_
      refine mg_iconst C (x := nI 1) rfl dX12_byteAt_58 ?_
      refine mg_goto C 63 (by decide) dX12_byteAt_59 ?_
      exact mg_sub [0, 1] rfl (sb_byteAt_63 C  x4 ((nI 1)) v_3 f_3 g_3 h)
end S_byteAt
set_option maxHeartbeats 1000000 in
set_option maxRecDepth 20000 in
theorem s_byteAt (l : Launch) (x1 : Int32) (x2 : Int32) (x3 : Int32) (x4 : Int32) (v : Nat → Int32) (f : Nat → Nat → Int32) (g : Nat → Nat → Int64) {P : Int32 → (Nat → Int32) → (Nat → Nat → Int32) → (Nat → Nat → Int64) → Prop} (h : r_byteAt P x1 x2 x3 x4 v f g) : mMi l yX12_byteAt cX12_byteAt 6 (some .int) 4 98 false [.int x1, .int x2, .int x3, .int x4] v f g (fun r w => P r w.1 w.2.1 w.2.2) := by
  intro D cI cJ cZ a sz
  refine mg_body (by decide +kernel) rfl (Nat.le_of_ble_eq_true rfl) ?_
  intro p e s m args below meth c hsz C
  clear hsz
  generalize va_A (mW cI cJ cZ a v f g) sz = A at C ⊢
  refine mg_lv (lv' := [(0, .ref (a 0)), (1, .int x1), (2, .int x2), (3, .int x3), (4, .int x4)]) rfl ?_
  unfold r_byteAt at h
  refine mg_aload_n C (i := 0) rfl 0 rfl dX12_byteAt_0 ?_
  refine mg_iload_n C (i := 1) rfl 1 rfl dX12_byteAt_1 ?_
  refine mg_iload_n C (i := 2) rfl 2 rfl dX12_byteAt_2 ?_
  refine mg_iload_n C (i := 3) rfl 3 rfl dX12_byteAt_3 ?_
  refine mg_calliW C (s_hasWord l x1 x2 x3 v f g h) mCal_hasWord rfl ⟨by decide, by decide⟩ rfl (Nat.le_of_ble_eq_true rfl) dX12_byteAt_4 (fun r_1 v_1 f_1 g_1 h => ?_)
  refine mg_istore C (lv' := [(5, .int r_1), (0, .ref (a 0)), (1, .int x1), (2, .int x2), (3, .int x3), (4, .int x4)]) (Nat.le_of_ble_eq_true rfl) rfl dX12_byteAt_7 ?_
  refine mg_iload C 0 rfl dX12_byteAt_9 ?_
  refine mg_if_eq C 31 (by decide) dX12_byteAt_11 (fun c_ => ?_) (fun c_ => ?_)
  · have h := h.1 c_
    exact mg_sub [1, 5, 0] rfl (sb_byteAt_31 C  x4 r_1 v_1 f_1 g_1 h)
  · have h := h.2 c_
    refine mg_aload_n C (i := 0) rfl 1 rfl dX12_byteAt_14 ?_
    refine mg_aload_n C (i := 0) rfl 1 rfl dX12_byteAt_15 ?_
    refine mg_arr C 24 (by decide) (by decide) rfl mL_index rfl dX12_byteAt_16 ?_
    refine mg_iload_n C (i := 1) rfl 2 rfl dX12_byteAt_19 ?_
    obtain ⟨hc_20, h⟩ := h
    refine mg_ialoadR C (n := 202) 24 (by decide) (by decide) rfl rfl hc_20 dX12_byteAt_20 ?_
    refine mg_iload_n C (i := 2) rfl 3 rfl dX12_byteAt_21 ?_
    refine mg_aload_n C (i := 0) rfl 1 rfl dX12_byteAt_22 ?_
    refine mg_arr C 35 (by decide) (by decide) rfl mL_found rfl dX12_byteAt_23 ?_
    refine mg_iload_n C (i := 3) rfl 4 rfl dX12_byteAt_26 ?_
    obtain ⟨hc_27, h⟩ := h
    refine mg_laloadR C (n := 2200) 35 (by decide) (by decide) rfl rfl hc_27 dX12_byteAt_27 ?_
    refine mg_callvW C (s_packs l ((f_1 24 (x1).toNatClampNeg)) x2 (g_1 35 (x3).toNatClampNeg) v_1 f_1 g_1 h) mCal_packs rfl ⟨by decide, by decide⟩ rfl (Nat.le_of_ble_eq_true rfl) dX12_byteAt_28 (fun v_4 f_4 g_4 h => ?_)
    exact mg_sub [1, 5, 0] rfl (sb_byteAt_31 C  x4 r_1 v_4 f_4 g_4 h)
def r_slotOf_28 (Q : Int32 → (Nat → Int32) → (Nat → Nat → Int32) → (Nat → Nat → Int64) → Prop) (R4 : Int32 → Int32 → Int32 → (Nat → Int32) → (Nat → Nat → Int32) → (Nat → Nat → Int64) → Prop) (x1 : Int32) (x3 : Int32) (t0 : Int32) (v : Nat → Int32) (f : Nat → Nat → Int32) (g : Nat → Nat → Int64) : Prop :=
∀ x3_2 : Int32, x3_2 = x3 + nI 1 → R4 x1 t0 x3_2 v f g
def r_slotOf_27 (Q : Int32 → (Nat → Int32) → (Nat → Nat → Int32) → (Nat → Nat → Int64) → Prop) (R4 : Int32 → Int32 → Int32 → (Nat → Int32) → (Nat → Nat → Int32) → (Nat → Nat → Int64) → Prop) (x1 : Int32) (x2 : Int32) (x3 : Int32) (v : Nat → Int32) (f : Nat → Nat → Int32) (g : Nat → Nat → Int64) : Prop :=
r_slotOf_28 Q R4 x1 x3 x2 v f g
def r_slotOf_4 (Q : Int32 → (Nat → Int32) → (Nat → Nat → Int32) → (Nat → Nat → Int64) → Prop) (R4 : Int32 → Int32 → Int32 → (Nat → Int32) → (Nat → Nat → Int32) → (Nat → Nat → Int64) → Prop) (x1 : Int32) (x2 : Int32) (x3 : Int32) (v : Nat → Int32) (f : Nat → Nat → Int32) (g : Nat → Nat → Int64) : Prop :=
((((nI 5)) ≤ x3 →
  Q x2 v f g) ∧
 (¬ ((nI 5)) ≤ x3 →
  ((x1 < 0 →
    r_slotOf_27 Q R4 x1 x2 x3 v f g) ∧
   (¬ x1 < 0 →
    vp_in x3 5 ∧ (((¬ ((f 29 (x3).toNatClampNeg)) = x1 →
      r_slotOf_27 Q R4 x1 x2 x3 v f g) ∧
     (((f 29 (x3).toNatClampNeg)) = x1 →
      r_slotOf_28 Q R4 x1 x3 x3 v f g)))))))
def r_slotOf_4L (Q : Int32 → (Nat → Int32) → (Nat → Nat → Int32) → (Nat → Nat → Int64) → Prop)  (x1 : Int32) (x2 : Int32) (x3 : Int32) (v : Nat → Int32) (f : Nat → Nat → Int32) (g : Nat → Nat → Int64) : Prop :=
  lfp (X := Int32 × Int32 × Int32 × (Nat → Int32) × (Nat → Nat → Int32) × (Nat → Nat → Int64)) (fun P y => r_slotOf_4 Q  (fun b0 b1 b2 v f g => P (b0, b1, b2, v, f, g)) y.1 y.2.1 y.2.2.1 y.2.2.2.1 y.2.2.2.2.1 y.2.2.2.2.2) (x1, x2, x3, v, f, g)
def r_slotOf (Q : Int32 → (Nat → Int32) → (Nat → Nat → Int32) → (Nat → Nat → Int64) → Prop) (x1 : Int32) (v : Nat → Int32) (f : Nat → Nat → Int32) (g : Nat → Nat → Int64) : Prop :=
∀ x2_1 : Int32, x2_1 = ((-1)) → r_slotOf_4L Q  x1 x2_1 (((nI 0))) v f g
section S_slotOf
variable {p : Program} {l : Launch} {e : Env} {s : State} {m : MethodId} {args : Array Value} {below : List Frame} {meth : Method} {c : Code} {A : Nat → Prop} {D : va_G} {cI cJ cZ : ClassId} {a : Nat → Nat}
set_option maxRecDepth 20000 in
theorem sb_slotOf_28 (C : mC p s m args meth c cX12_slotOf 4 (some .int) A D cI cJ cZ) {post : Int32 → mS → Prop} {R4 : Int32 → Int32 → Int32 → (Nat → Int32) → (Nat → Nat → Int32) → (Nat → Nat → Int64) → Prop} (hR4 : ∀ (x1 : Int32) (x2 : Int32) (x3 : Int32) (v : Nat → Int32) (f : Nat → Nat → Int32) (g : Nat → Nat → Int64), R4 x1 x2 x3 v f g → mG p l e (mRm 0 0) s m args below meth c A D cI cJ cZ a 4 (MQ below (va_Qi post (mB D cI cJ cZ a) A) args s 0 0 A) 4 [(0, .ref (a 0)), (1, .int x1), (2, .int x2), (3, .int x3)] [] v f g) (x1 : Int32) (x3 : Int32) (t0 : Int32) (v : Nat → Int32) (f : Nat → Nat → Int32) (g : Nat → Nat → Int64) (h : r_slotOf_28 (fun r v f g => post r (v, f, g)) R4 x1 x3 t0 v f g) : mG p l e (mRm 0 0) s m args below meth c A D cI cJ cZ a 4 (MQ below (va_Qi post (mB D cI cJ cZ a) A) args s 0 0 A) 28 [(0, .ref (a 0)), (1, .int x1), (3, .int x3)] [.int t0] v f g := by
  unfold r_slotOf_28 at h
  refine mg_istore_n C (i := 2) (lv' := [(2, .int t0), (0, .ref (a 0)), (1, .int x1), (3, .int x3)]) rfl (Nat.le_of_ble_eq_true rfl) rfl dX12_slotOf_28 ?_
  obtain ⟨x3_2, e_x3_2⟩ : ∃ z : Int32, z = x3 + nI 1 := ⟨_, rfl⟩
  have h := h x3_2 e_x3_2
  refine mg_iinc C (lv' := [(3, .int x3_2), (2, .int t0), (0, .ref (a 0)), (1, .int x1)]) 3 rfl (by rw [e_x3_2]; rfl) (Nat.le_of_ble_eq_true rfl) rfl dX12_slotOf_29 ?_
  refine mg_goto C 4 (by decide) dX12_slotOf_32 ?_
  exact mg_sub [2, 3, 1, 0] rfl (hR4 x1 t0 x3_2 v f g h)
set_option maxRecDepth 20000 in
theorem sb_slotOf_27 (C : mC p s m args meth c cX12_slotOf 4 (some .int) A D cI cJ cZ) {post : Int32 → mS → Prop} {R4 : Int32 → Int32 → Int32 → (Nat → Int32) → (Nat → Nat → Int32) → (Nat → Nat → Int64) → Prop} (hR4 : ∀ (x1 : Int32) (x2 : Int32) (x3 : Int32) (v : Nat → Int32) (f : Nat → Nat → Int32) (g : Nat → Nat → Int64), R4 x1 x2 x3 v f g → mG p l e (mRm 0 0) s m args below meth c A D cI cJ cZ a 4 (MQ below (va_Qi post (mB D cI cJ cZ a) A) args s 0 0 A) 4 [(0, .ref (a 0)), (1, .int x1), (2, .int x2), (3, .int x3)] [] v f g) (x1 : Int32) (x2 : Int32) (x3 : Int32) (v : Nat → Int32) (f : Nat → Nat → Int32) (g : Nat → Nat → Int64) (h : r_slotOf_27 (fun r v f g => post r (v, f, g)) R4 x1 x2 x3 v f g) : mG p l e (mRm 0 0) s m args below meth c A D cI cJ cZ a 4 (MQ below (va_Qi post (mB D cI cJ cZ a) A) args s 0 0 A) 27 [(0, .ref (a 0)), (1, .int x1), (2, .int x2), (3, .int x3)] [] v f g := by
  unfold r_slotOf_27 at h
  refine mg_iload_n C (i := 2) rfl 2 rfl dX12_slotOf_27 ?_
  exact mg_sub [0, 1, 3] rfl (sb_slotOf_28 C hR4 x1 x3 x2 v f g h)
set_option maxRecDepth 20000 in
theorem sb_slotOf_4 (C : mC p s m args meth c cX12_slotOf 4 (some .int) A D cI cJ cZ) {post : Int32 → mS → Prop} {R4 : Int32 → Int32 → Int32 → (Nat → Int32) → (Nat → Nat → Int32) → (Nat → Nat → Int64) → Prop} (hR4 : ∀ (x1 : Int32) (x2 : Int32) (x3 : Int32) (v : Nat → Int32) (f : Nat → Nat → Int32) (g : Nat → Nat → Int64), R4 x1 x2 x3 v f g → mG p l e (mRm 0 0) s m args below meth c A D cI cJ cZ a 4 (MQ below (va_Qi post (mB D cI cJ cZ a) A) args s 0 0 A) 4 [(0, .ref (a 0)), (1, .int x1), (2, .int x2), (3, .int x3)] [] v f g) (x1 : Int32) (x2 : Int32) (x3 : Int32) (v : Nat → Int32) (f : Nat → Nat → Int32) (g : Nat → Nat → Int64) (h : r_slotOf_4 (fun r v f g => post r (v, f, g)) R4 x1 x2 x3 v f g) : mG p l e (mRm 0 0) s m args below meth c A D cI cJ cZ a 4 (MQ below (va_Qi post (mB D cI cJ cZ a) A) args s 0 0 A) 4 [(0, .ref (a 0)), (1, .int x1), (2, .int x2), (3, .int x3)] [] v f g := by
  unfold r_slotOf_4 at h
  refine mg_iload_n C (i := 3) rfl 3 rfl dX12_slotOf_4 ?_
  refine mg_iconst C (x := nI 5) rfl dX12_slotOf_5 ?_
  refine mg_icmp_ge C 35 (by decide) dX12_slotOf_6 (fun c_ => ?_) (fun c_ => ?_)
  · have h := h.1 c_
    refine mg_iload_n C (i := 2) rfl 2 rfl dX12_slotOf_35 ?_
    exact mg_iret C h dX12_slotOf_36
  · have h := h.2 c_
    refine mg_iload_n C (i := 1) rfl 1 rfl dX12_slotOf_9 ?_
    refine mg_if_lt C 27 (by decide) dX12_slotOf_10 (fun c_ => ?_) (fun c_ => ?_)
    · have h := h.1 c_
      exact mg_sub [0, 1, 2, 3] rfl (sb_slotOf_27 C hR4 x1 x2 x3 v f g h)
    · have h := h.2 c_
      refine mg_aload_n C (i := 0) rfl 0 rfl dX12_slotOf_13 ?_
      refine mg_arr C 29 (by decide) (by decide) rfl mL_lookNumbers rfl dX12_slotOf_14 ?_
      refine mg_iload_n C (i := 3) rfl 3 rfl dX12_slotOf_17 ?_
      obtain ⟨hc_18, h⟩ := h
      refine mg_ialoadR C (n := 5) 29 (by decide) (by decide) rfl rfl hc_18 dX12_slotOf_18 ?_
      refine mg_iload_n C (i := 1) rfl 1 rfl dX12_slotOf_19 ?_
      refine mg_icmp_ne C 27 (by decide) dX12_slotOf_20 (fun c_ => ?_) (fun c_ => ?_)
      · have h := h.1 c_
        exact mg_sub [0, 1, 2, 3] rfl (sb_slotOf_27 C hR4 x1 x2 x3 v f g h)
      · have h := h.2 c_
        refine mg_iload_n C (i := 3) rfl 3 rfl dX12_slotOf_23 ?_
        refine mg_goto C 28 (by decide) dX12_slotOf_24 ?_
        exact mg_sub [0, 1, 3] rfl (sb_slotOf_28 C hR4 x1 x3 x3 v f g h)
set_option maxRecDepth 20000 in
theorem sl_slotOf_4 (C : mC p s m args meth c cX12_slotOf 4 (some .int) A D cI cJ cZ) {post : Int32 → mS → Prop}   (x1 : Int32) (x2 : Int32) (x3 : Int32) (v : Nat → Int32) (f : Nat → Nat → Int32) (g : Nat → Nat → Int64) (h : r_slotOf_4L (fun r v f g => post r (v, f, g))  x1 x2 x3 v f g) : mG p l e (mRm 0 0) s m args below meth c A D cI cJ cZ a 4 (MQ below (va_Qi post (mB D cI cJ cZ a) A) args s 0 0 A) 4 [(0, .ref (a 0)), (1, .int x1), (2, .int x2), (3, .int x3)] [] v f g :=
  h (fun y => mG p l e (mRm 0 0) s m args below meth c A D cI cJ cZ a 4 (MQ below (va_Qi post (mB D cI cJ cZ a) A) args s 0 0 A) 4 [(0, .ref (a 0)), (1, .int (y.1)), (2, .int (y.2.1)), (3, .int (y.2.2.1))] [] (y.2.2.2.1) (y.2.2.2.2.1) (y.2.2.2.2.2)) (fun y hy => sb_slotOf_4 C  (fun b0 b1 b2 v f g z => z) (y.1) (y.2.1) (y.2.2.1) (y.2.2.2.1) (y.2.2.2.2.1) (y.2.2.2.2.2) hy)
end S_slotOf
set_option maxHeartbeats 1000000 in
set_option maxRecDepth 20000 in
theorem s_slotOf (l : Launch) (x1 : Int32) (v : Nat → Int32) (f : Nat → Nat → Int32) (g : Nat → Nat → Int64) {P : Int32 → (Nat → Int32) → (Nat → Nat → Int32) → (Nat → Nat → Int64) → Prop} (h : r_slotOf P x1 v f g) : mMi l yX12_slotOf cX12_slotOf 4 (some .int) 0 0 false [.int x1] v f g (fun r w => P r w.1 w.2.1 w.2.2) := by
  intro D cI cJ cZ a sz
  refine mg_body (by decide +kernel) rfl (Nat.le_of_ble_eq_true rfl) ?_
  intro p e s m args below meth c hsz C
  clear hsz
  generalize va_A (mW cI cJ cZ a v f g) sz = A at C ⊢
  refine mg_lv (lv' := [(0, .ref (a 0)), (1, .int x1)]) rfl ?_
  unfold r_slotOf at h
  refine mg_iconst C (x := (-1)) rfl dX12_slotOf_0 ?_
  refine mg_nmI (fun x2_1 e_x2_1 => ?_)
  have h := h x2_1 e_x2_1
  refine mg_istore_n C (i := 2) (lv' := [(2, .int x2_1), (0, .ref (a 0)), (1, .int x1)]) rfl (Nat.le_of_ble_eq_true rfl) rfl dX12_slotOf_1 ?_
  refine mg_iconst C (x := nI 0) rfl dX12_slotOf_2 ?_
  refine mg_istore_n C (i := 3) (lv' := [(3, .int ((nI 0))), (2, .int x2_1), (0, .ref (a 0)), (1, .int x1)]) rfl (Nat.le_of_ble_eq_true rfl) rfl dX12_slotOf_3 ?_
  exact mg_sub [2, 3, 1, 0] rfl (sl_slotOf_4 C  x1 x2_1 (((nI 0))) v f g h)
def r_look_205 (Q : Int32 → (Nat → Int32) → (Nat → Nat → Int32) → (Nat → Nat → Int64) → Prop) (R102 : Int32 → Int32 → Int32 → (Nat → Int32) → (Nat → Nat → Int32) → (Nat → Nat → Int64) → Prop) (R154 : Int32 → Int32 → Int32 → Int32 → Int32 → (Nat → Int32) → (Nat → Nat → Int32) → (Nat → Nat → Int64) → Prop) (x1 : Int32) (x2 : Int32) (x3 : Int32) (x4 : Int32) (x5 : Int32) (t0 : Int32) (t1 : Int32) (v : Nat → Int32) (f : Nat → Nat → Int32) (g : Nat → Nat → Int64) : Prop :=
vp_in t1 101000 ∧ (isZ t0 ∧ (∀ f9 : Nat → Nat → Int32, f9 = mU f 32 (t1).toNatClampNeg t0 → ∀ x5_10 : Int32, x5_10 = x5 + nI 1 → R154 x1 x2 x3 x4 x5_10 v f9 g))
def r_look_154 (Q : Int32 → (Nat → Int32) → (Nat → Nat → Int32) → (Nat → Nat → Int64) → Prop) (R102 : Int32 → Int32 → Int32 → (Nat → Int32) → (Nat → Nat → Int32) → (Nat → Nat → Int64) → Prop) (R154 : Int32 → Int32 → Int32 → Int32 → Int32 → (Nat → Int32) → (Nat → Nat → Int32) → (Nat → Nat → Int64) → Prop) (x1 : Int32) (x2 : Int32) (x3 : Int32) (x4 : Int32) (x5 : Int32) (v : Nat → Int32) (f : Nat → Nat → Int32) (g : Nat → Nat → Int64) : Prop :=
vp_in x4 202 ∧ (((((((((nI 100)) * x4)) + ((f 20 (x4).toNatClampNeg)))) ≤ x5 →
  ∀ x3_8 : Int32, x3_8 = x3 + nI 1 → R102 x1 x2 x3_8 v f g) ∧
 (¬ ((((((nI 100)) * x4)) + ((f 20 (x4).toNatClampNeg)))) ≤ x5 →
  ((x1 = 0 →
    vp_in x5 20200 ∧ (r_look_205 Q R102 R154 x1 x2 x3 x4 x5 ((f 26 (x5).toNatClampNeg)) ((((((nI 20200)) * x2)) + x5)) v f g)) ∧
   (¬ x1 = 0 →
    vp_in x5 20200 ∧ (r_look_205 Q R102 R154 x1 x2 x3 x4 x5 ((f 21 (x5).toNatClampNeg)) ((((((nI 20200)) * x2)) + x5)) v f g))))))
def r_look_154L (Q : Int32 → (Nat → Int32) → (Nat → Nat → Int32) → (Nat → Nat → Int64) → Prop) (R102 : Int32 → Int32 → Int32 → (Nat → Int32) → (Nat → Nat → Int32) → (Nat → Nat → Int64) → Prop) (x1 : Int32) (x2 : Int32) (x3 : Int32) (x4 : Int32) (x5 : Int32) (v : Nat → Int32) (f : Nat → Nat → Int32) (g : Nat → Nat → Int64) : Prop :=
  lfp (X := Int32 × Int32 × Int32 × Int32 × Int32 × (Nat → Int32) × (Nat → Nat → Int32) × (Nat → Nat → Int64)) (fun P y => r_look_154 Q R102 (fun b0 b1 b2 b3 b4 v f g => P (b0, b1, b2, b3, b4, v, f, g)) y.1 y.2.1 y.2.2.1 y.2.2.2.1 y.2.2.2.2.1 y.2.2.2.2.2.1 y.2.2.2.2.2.2.1 y.2.2.2.2.2.2.2) (x1, x2, x3, x4, x5, v, f, g)
def r_look_131 (Q : Int32 → (Nat → Int32) → (Nat → Nat → Int32) → (Nat → Nat → Int64) → Prop) (R102 : Int32 → Int32 → Int32 → (Nat → Int32) → (Nat → Nat → Int32) → (Nat → Nat → Int64) → Prop) (x1 : Int32) (x2 : Int32) (x3 : Int32) (t0 : Int32) (v : Nat → Int32) (f : Nat → Nat → Int32) (g : Nat → Nat → Int64) : Prop :=
vp_in ((((((nI 202)) * x2)) + x3)) 1010 ∧ (∀ f6 : Nat → Nat → Int32, f6 = mU f 30 ((((((nI 202)) * x2)) + x3)).toNatClampNeg t0 → ∀ x5_7 : Int32, x5_7 = (((nI 100)) * t0) → r_look_154L Q R102 x1 x2 x3 t0 x5_7 v f6 g)
def r_look_102 (Q : Int32 → (Nat → Int32) → (Nat → Nat → Int32) → (Nat → Nat → Int64) → Prop) (R102 : Int32 → Int32 → Int32 → (Nat → Int32) → (Nat → Nat → Int32) → (Nat → Nat → Int64) → Prop) (x1 : Int32) (x2 : Int32) (x3 : Int32) (v : Nat → Int32) (f : Nat → Nat → Int32) (g : Nat → Nat → Int64) : Prop :=
vp_in x2 5 ∧ (((((f 31 (x2).toNatClampNeg)) ≤ x3 →
  ∀ v5 : Nat → Int32, v5 = upd v 48 ((((v 48)) + ((nI 1)))) → Q ((((v5 48)) - ((nI 1)))) v5 f g) ∧
 (¬ ((f 31 (x2).toNatClampNeg)) ≤ x3 →
  ((x1 = 0 →
    vp_in x3 202 ∧ (r_look_131 Q R102 x1 x2 x3 ((f 25 (x3).toNatClampNeg)) v f g)) ∧
   (¬ x1 = 0 →
    vp_in x3 202 ∧ (r_look_131 Q R102 x1 x2 x3 ((f 24 (x3).toNatClampNeg)) v f g))))))
def r_look_102L (Q : Int32 → (Nat → Int32) → (Nat → Nat → Int32) → (Nat → Nat → Int64) → Prop)  (x1 : Int32) (x2 : Int32) (x3 : Int32) (v : Nat → Int32) (f : Nat → Nat → Int32) (g : Nat → Nat → Int64) : Prop :=
  lfp (X := Int32 × Int32 × Int32 × (Nat → Int32) × (Nat → Nat → Int32) × (Nat → Nat → Int64)) (fun P y => r_look_102 Q  (fun b0 b1 b2 v f g => P (b0, b1, b2, v, f, g)) y.1 y.2.1 y.2.2.1 y.2.2.2.1 y.2.2.2.2.1 y.2.2.2.2.2) (x1, x2, x3, v, f, g)
def r_look_99 (Q : Int32 → (Nat → Int32) → (Nat → Nat → Int32) → (Nat → Nat → Int64) → Prop)  (x1 : Int32) (x2 : Int32) (t0 : Int32) (t1 : Int32) (v : Nat → Int32) (f : Nat → Nat → Int32) (g : Nat → Nat → Int64) : Prop :=
vp_in t1 5 ∧ (∀ f4 : Nat → Nat → Int32, f4 = mU f 31 (t1).toNatClampNeg t0 → r_look_102L Q  x1 x2 (((nI 0))) v f4 g)
def r_look_48 (Q : Int32 → (Nat → Int32) → (Nat → Nat → Int32) → (Nat → Nat → Int64) → Prop)  (x1 : Int32) (x2 : Int32) (t0 : Int32) (v : Nat → Int32) (f : Nat → Nat → Int32) (g : Nat → Nat → Int64) : Prop :=
r_goes (fun r_2 v_2 f_2 g_2 => 
((¬ r_2 = 0 →
  vp_in x2 5 ∧ (∀ f3 : Nat → Nat → Int32, f3 = mU f_2 29 (x2).toNatClampNeg ((v_2 48)) → ((x1 = 0 →
    ((((v_2 35)) = 0 →
      r_look_99 Q  x1 x2 ((nI 0)) x2 v_2 f3 g_2) ∧
     (¬ ((v_2 35)) = 0 →
      r_look_99 Q  x1 x2 ((v_2 37)) x2 v_2 f3 g_2))) ∧
   (¬ x1 = 0 →
    r_look_99 Q  x1 x2 ((v_2 34)) x2 v_2 f3 g_2)))) ∧
 (r_2 = 0 →
  Q ((nI 0)) v_2 f_2 g_2))) t0 ((nI 1)) ((nI 1)) v f g
def r_look_47 (Q : Int32 → (Nat → Int32) → (Nat → Nat → Int32) → (Nat → Nat → Int64) → Prop)  (x1 : Int32) (x2 : Int32) (v : Nat → Int32) (f : Nat → Nat → Int32) (g : Nat → Nat → Int64) : Prop :=
r_look_48 Q  x1 x2 ((nI 0)) v f g
def r_look_23 (Q : Int32 → (Nat → Int32) → (Nat → Nat → Int32) → (Nat → Nat → Int64) → Prop) (R4 : Int32 → Int32 → Int32 → (Nat → Int32) → (Nat → Nat → Int32) → (Nat → Nat → Int64) → Prop) (x1 : Int32) (x3 : Int32) (t0 : Int32) (v : Nat → Int32) (f : Nat → Nat → Int32) (g : Nat → Nat → Int64) : Prop :=
∀ x3_11 : Int32, x3_11 = x3 + (-1) → R4 x1 t0 x3_11 v f g
def r_look_4 (Q : Int32 → (Nat → Int32) → (Nat → Nat → Int32) → (Nat → Nat → Int64) → Prop) (R4 : Int32 → Int32 → Int32 → (Nat → Int32) → (Nat → Nat → Int32) → (Nat → Nat → Int64) → Prop) (x1 : Int32) (x2 : Int32) (x3 : Int32) (v : Nat → Int32) (f : Nat → Nat → Int32) (g : Nat → Nat → Int64) : Prop :=
((x3 < 0 →
  ((¬ ((v 98)) = 0 →
    r_look_47 Q  x1 x2 v f g) ∧
   (((v 98)) = 0 →
    ((x2 = (((-1))) →
      r_look_47 Q  x1 x2 v f g) ∧
     (¬ x2 = (((-1))) →
      r_look_48 Q  x1 x2 ((nI 1)) v f g))))) ∧
 (¬ x3 < 0 →
  vp_in x3 5 ∧ (((¬ ((f 29 (x3).toNatClampNeg)) = (((-1))) →
    r_look_23 Q R4 x1 x3 x2 v f g) ∧
   (((f 29 (x3).toNatClampNeg)) = (((-1))) →
    r_look_23 Q R4 x1 x3 x3 v f g)))))
def r_look_4L (Q : Int32 → (Nat → Int32) → (Nat → Nat → Int32) → (Nat → Nat → Int64) → Prop)  (x1 : Int32) (x2 : Int32) (x3 : Int32) (v : Nat → Int32) (f : Nat → Nat → Int32) (g : Nat → Nat → Int64) : Prop :=
  lfp (X := Int32 × Int32 × Int32 × (Nat → Int32) × (Nat → Nat → Int32) × (Nat → Nat → Int64)) (fun P y => r_look_4 Q  (fun b0 b1 b2 v f g => P (b0, b1, b2, v, f, g)) y.1 y.2.1 y.2.2.1 y.2.2.2.1 y.2.2.2.2.1 y.2.2.2.2.2) (x1, x2, x3, v, f, g)
def r_look (Q : Int32 → (Nat → Int32) → (Nat → Nat → Int32) → (Nat → Nat → Int64) → Prop) (x1 : Int32) (v : Nat → Int32) (f : Nat → Nat → Int32) (g : Nat → Nat → Int64) : Prop :=
∀ x2_1 : Int32, x2_1 = ((-1)) → r_look_4L Q  x1 x2_1 (((nI 4))) v f g
section S_look
variable {p : Program} {l : Launch} {e : Env} {s : State} {m : MethodId} {args : Array Value} {below : List Frame} {meth : Method} {c : Code} {A : Nat → Prop} {D : va_G} {cI cJ cZ : ClassId} {a : Nat → Nat}
set_option maxRecDepth 20000 in
theorem sb_look_205 (C : mC p s m args meth c cX12_look 6 (some .int) A D cI cJ cZ) {post : Int32 → mS → Prop} {R102 : Int32 → Int32 → Int32 → (Nat → Int32) → (Nat → Nat → Int32) → (Nat → Nat → Int64) → Prop} {R154 : Int32 → Int32 → Int32 → Int32 → Int32 → (Nat → Int32) → (Nat → Nat → Int32) → (Nat → Nat → Int64) → Prop} (hR102 : ∀ (x1 : Int32) (x2 : Int32) (x3 : Int32) (v : Nat → Int32) (f : Nat → Nat → Int32) (g : Nat → Nat → Int64), R102 x1 x2 x3 v f g → mG p l e (mRm 1 23) s m args below meth c A D cI cJ cZ a 6 (MQ below (va_Qi post (mB D cI cJ cZ a) A) args s 0 0 A) 102 [(0, .ref (a 0)), (1, .int x1), (2, .int x2), (3, .int x3)] [] v f g) (hR154 : ∀ (x1 : Int32) (x2 : Int32) (x3 : Int32) (x4 : Int32) (x5 : Int32) (v : Nat → Int32) (f : Nat → Nat → Int32) (g : Nat → Nat → Int64), R154 x1 x2 x3 x4 x5 v f g → mG p l e (mRm 1 23) s m args below meth c A D cI cJ cZ a 6 (MQ below (va_Qi post (mB D cI cJ cZ a) A) args s 0 0 A) 154 [(0, .ref (a 0)), (1, .int x1), (2, .int x2), (3, .int x3), (4, .int x4), (5, .int x5)] [] v f g) (x1 : Int32) (x2 : Int32) (x3 : Int32) (x4 : Int32) (x5 : Int32) (t0 : Int32) (t1 : Int32) (v : Nat → Int32) (f : Nat → Nat → Int32) (g : Nat → Nat → Int64) (h : r_look_205 (fun r v f g => post r (v, f, g)) R102 R154 x1 x2 x3 x4 x5 t0 t1 v f g) : mG p l e (mRm 1 23) s m args below meth c A D cI cJ cZ a 6 (MQ below (va_Qi post (mB D cI cJ cZ a) A) args s 0 0 A) 205 [(0, .ref (a 0)), (1, .int x1), (2, .int x2), (3, .int x3), (4, .int x4), (5, .int x5)] [.int t0, .int t1, .ref (a 32)] v f g := by
  unfold r_look_205 at h
  obtain ⟨hc_205, h⟩ := h
  obtain ⟨hz_205, h⟩ := h
  refine mg_bastoreR C (n := 101000) 32 (by decide) (by decide) rfl rfl hc_205 (isZ_vp hz_205) dX12_look_205 ?_
  refine mg_nmF (fun f9 e_f9 => ?_)
  have h := h f9 e_f9
  obtain ⟨x5_10, e_x5_10⟩ : ∃ z : Int32, z = x5 + nI 1 := ⟨_, rfl⟩
  have h := h x5_10 e_x5_10
  refine mg_iinc C (lv' := [(5, .int x5_10), (0, .ref (a 0)), (1, .int x1), (2, .int x2), (3, .int x3), (4, .int x4)]) 5 rfl (by rw [e_x5_10]; rfl) (Nat.le_of_ble_eq_true rfl) rfl dX12_look_206 ?_
  refine mg_goto C 154 (by decide) dX12_look_209 ?_
  exact mg_sub [1, 2, 3, 4, 5, 0] rfl (hR154 x1 x2 x3 x4 x5_10 v f9 g h)
set_option maxRecDepth 20000 in
theorem sb_look_154 (C : mC p s m args meth c cX12_look 6 (some .int) A D cI cJ cZ) {post : Int32 → mS → Prop} {R102 : Int32 → Int32 → Int32 → (Nat → Int32) → (Nat → Nat → Int32) → (Nat → Nat → Int64) → Prop} {R154 : Int32 → Int32 → Int32 → Int32 → Int32 → (Nat → Int32) → (Nat → Nat → Int32) → (Nat → Nat → Int64) → Prop} (hR102 : ∀ (x1 : Int32) (x2 : Int32) (x3 : Int32) (v : Nat → Int32) (f : Nat → Nat → Int32) (g : Nat → Nat → Int64), R102 x1 x2 x3 v f g → mG p l e (mRm 1 23) s m args below meth c A D cI cJ cZ a 6 (MQ below (va_Qi post (mB D cI cJ cZ a) A) args s 0 0 A) 102 [(0, .ref (a 0)), (1, .int x1), (2, .int x2), (3, .int x3)] [] v f g) (hR154 : ∀ (x1 : Int32) (x2 : Int32) (x3 : Int32) (x4 : Int32) (x5 : Int32) (v : Nat → Int32) (f : Nat → Nat → Int32) (g : Nat → Nat → Int64), R154 x1 x2 x3 x4 x5 v f g → mG p l e (mRm 1 23) s m args below meth c A D cI cJ cZ a 6 (MQ below (va_Qi post (mB D cI cJ cZ a) A) args s 0 0 A) 154 [(0, .ref (a 0)), (1, .int x1), (2, .int x2), (3, .int x3), (4, .int x4), (5, .int x5)] [] v f g) (x1 : Int32) (x2 : Int32) (x3 : Int32) (x4 : Int32) (x5 : Int32) (v : Nat → Int32) (f : Nat → Nat → Int32) (g : Nat → Nat → Int64) (h : r_look_154 (fun r v f g => post r (v, f, g)) R102 R154 x1 x2 x3 x4 x5 v f g) : mG p l e (mRm 1 23) s m args below meth c A D cI cJ cZ a 6 (MQ below (va_Qi post (mB D cI cJ cZ a) A) args s 0 0 A) 154 [(0, .ref (a 0)), (1, .int x1), (2, .int x2), (3, .int x3), (4, .int x4), (5, .int x5)] [] v f g := by
  unfold r_look_154 at h
  refine mg_iload C 5 rfl dX12_look_154 ?_
  refine mg_bipush C (x := nI 100) rfl dX12_look_156 ?_
  refine mg_iload C 4 rfl dX12_look_158 ?_
  refine mg_imul C dX12_look_160 ?_
  refine mg_aload_n C (i := 0) rfl 0 rfl dX12_look_161 ?_
  refine mg_arr C 20 (by decide) (by decide) rfl mL_sizes rfl dX12_look_162 ?_
  refine mg_iload C 4 rfl dX12_look_165 ?_
  obtain ⟨hc_167, h⟩ := h
  refine mg_ialoadR C (n := 202) 20 (by decide) (by decide) rfl rfl hc_167 dX12_look_167 ?_
  refine mg_iadd C dX12_look_168 ?_
  refine mg_icmp_ge C 212 (by decide) dX12_look_169 (fun c_ => ?_) (fun c_ => ?_)
  · have h := h.1 c_
    obtain ⟨x3_8, e_x3_8⟩ : ∃ z : Int32, z = x3 + nI 1 := ⟨_, rfl⟩
    have h := h x3_8 e_x3_8
    refine mg_iinc C (lv' := [(3, .int x3_8), (0, .ref (a 0)), (1, .int x1), (2, .int x2), (4, .int x4), (5, .int x5)]) 3 rfl (by rw [e_x3_8]; rfl) (Nat.le_of_ble_eq_true rfl) rfl dX12_look_212 ?_
    refine mg_goto C 102 (by decide) dX12_look_215 ?_
    exact mg_sub [1, 2, 3, 0] rfl (hR102 x1 x2 x3_8 v f g h)
  · have h := h.2 c_
    refine mg_aload_n C (i := 0) rfl 0 rfl dX12_look_172 ?_
    refine mg_arr C 32 (by decide) (by decide) rfl mL_lookedLive rfl dX12_look_173 ?_
    refine mg_sipush C (x := nI 20200) rfl dX12_look_176 ?_
    refine mg_iload_n C (i := 2) rfl 2 rfl dX12_look_179 ?_
    refine mg_imul C dX12_look_180 ?_
    refine mg_iload C 5 rfl dX12_look_181 ?_
    refine mg_iadd C dX12_look_183 ?_
    refine mg_iload_n C (i := 1) rfl 1 rfl dX12_look_184 ?_
    refine mg_if_eq C 198 (by decide) dX12_look_185 (fun c_ => ?_) (fun c_ => ?_)
    · have h := h.1 c_
      refine mg_aload_n C (i := 0) rfl 0 rfl dX12_look_198 ?_
      refine mg_arr C 26 (by decide) (by decide) rfl mL_committedLive rfl dX12_look_199 ?_
      refine mg_iload C 5 rfl dX12_look_202 ?_
      obtain ⟨hc_204, h⟩ := h
      refine mg_baloadR C (n := 20200) 26 (by decide) (by decide) rfl rfl hc_204 dX12_look_204 ?_
      exact mg_sub [0, 1, 2, 3, 4, 5] rfl (sb_look_205 C hR102 hR154 x1 x2 x3 x4 x5 ((f 26 (x5).toNatClampNeg)) ((((((nI 20200)) * x2)) + x5)) v f g h)
    · have h := h.2 c_
      refine mg_aload_n C (i := 0) rfl 0 rfl dX12_look_188 ?_
      refine mg_arr C 21 (by decide) (by decide) rfl mL_live rfl dX12_look_189 ?_
      refine mg_iload C 5 rfl dX12_look_192 ?_
      obtain ⟨hc_194, h⟩ := h
      refine mg_baloadR C (n := 20200) 21 (by decide) (by decide) rfl rfl hc_194 dX12_look_194 ?_
      refine mg_goto C 205 (by decide) dX12_look_195 ?_
      exact mg_sub [0, 1, 2, 3, 4, 5] rfl (sb_look_205 C hR102 hR154 x1 x2 x3 x4 x5 ((f 21 (x5).toNatClampNeg)) ((((((nI 20200)) * x2)) + x5)) v f g h)
set_option maxRecDepth 20000 in
theorem sl_look_154 (C : mC p s m args meth c cX12_look 6 (some .int) A D cI cJ cZ) {post : Int32 → mS → Prop} {R102 : Int32 → Int32 → Int32 → (Nat → Int32) → (Nat → Nat → Int32) → (Nat → Nat → Int64) → Prop} (hR102 : ∀ (x1 : Int32) (x2 : Int32) (x3 : Int32) (v : Nat → Int32) (f : Nat → Nat → Int32) (g : Nat → Nat → Int64), R102 x1 x2 x3 v f g → mG p l e (mRm 1 23) s m args below meth c A D cI cJ cZ a 6 (MQ below (va_Qi post (mB D cI cJ cZ a) A) args s 0 0 A) 102 [(0, .ref (a 0)), (1, .int x1), (2, .int x2), (3, .int x3)] [] v f g) (x1 : Int32) (x2 : Int32) (x3 : Int32) (x4 : Int32) (x5 : Int32) (v : Nat → Int32) (f : Nat → Nat → Int32) (g : Nat → Nat → Int64) (h : r_look_154L (fun r v f g => post r (v, f, g)) R102 x1 x2 x3 x4 x5 v f g) : mG p l e (mRm 1 23) s m args below meth c A D cI cJ cZ a 6 (MQ below (va_Qi post (mB D cI cJ cZ a) A) args s 0 0 A) 154 [(0, .ref (a 0)), (1, .int x1), (2, .int x2), (3, .int x3), (4, .int x4), (5, .int x5)] [] v f g :=
  h (fun y => mG p l e (mRm 1 23) s m args below meth c A D cI cJ cZ a 6 (MQ below (va_Qi post (mB D cI cJ cZ a) A) args s 0 0 A) 154 [(0, .ref (a 0)), (1, .int (y.1)), (2, .int (y.2.1)), (3, .int (y.2.2.1)), (4, .int (y.2.2.2.1)), (5, .int (y.2.2.2.2.1))] [] (y.2.2.2.2.2.1) (y.2.2.2.2.2.2.1) (y.2.2.2.2.2.2.2)) (fun y hy => sb_look_154 C hR102 (fun b0 b1 b2 b3 b4 v f g z => z) (y.1) (y.2.1) (y.2.2.1) (y.2.2.2.1) (y.2.2.2.2.1) (y.2.2.2.2.2.1) (y.2.2.2.2.2.2.1) (y.2.2.2.2.2.2.2) hy)
set_option maxRecDepth 20000 in
theorem sb_look_131 (C : mC p s m args meth c cX12_look 6 (some .int) A D cI cJ cZ) {post : Int32 → mS → Prop} {R102 : Int32 → Int32 → Int32 → (Nat → Int32) → (Nat → Nat → Int32) → (Nat → Nat → Int64) → Prop} (hR102 : ∀ (x1 : Int32) (x2 : Int32) (x3 : Int32) (v : Nat → Int32) (f : Nat → Nat → Int32) (g : Nat → Nat → Int64), R102 x1 x2 x3 v f g → mG p l e (mRm 1 23) s m args below meth c A D cI cJ cZ a 6 (MQ below (va_Qi post (mB D cI cJ cZ a) A) args s 0 0 A) 102 [(0, .ref (a 0)), (1, .int x1), (2, .int x2), (3, .int x3)] [] v f g) (x1 : Int32) (x2 : Int32) (x3 : Int32) (t0 : Int32) (v : Nat → Int32) (f : Nat → Nat → Int32) (g : Nat → Nat → Int64) (h : r_look_131 (fun r v f g => post r (v, f, g)) R102 x1 x2 x3 t0 v f g) : mG p l e (mRm 1 23) s m args below meth c A D cI cJ cZ a 6 (MQ below (va_Qi post (mB D cI cJ cZ a) A) args s 0 0 A) 131 [(0, .ref (a 0)), (1, .int x1), (2, .int x2), (3, .int x3)] [.int t0] v f g := by
  unfold r_look_131 at h
  refine mg_istore C (lv' := [(4, .int t0), (0, .ref (a 0)), (1, .int x1), (2, .int x2), (3, .int x3)]) (Nat.le_of_ble_eq_true rfl) rfl dX12_look_131 ?_
  refine mg_aload_n C (i := 0) rfl 1 rfl dX12_look_133 ?_
  refine mg_arr C 30 (by decide) (by decide) rfl mL_looked rfl dX12_look_134 ?_
  refine mg_sipush C (x := nI 202) rfl dX12_look_137 ?_
  refine mg_iload_n C (i := 2) rfl 3 rfl dX12_look_140 ?_
  refine mg_imul C dX12_look_141 ?_
  refine mg_iload_n C (i := 3) rfl 4 rfl dX12_look_142 ?_
  refine mg_iadd C dX12_look_143 ?_
  refine mg_iload C 0 rfl dX12_look_144 ?_
  obtain ⟨hc_146, h⟩ := h
  refine mg_iastoreR C (n := 1010) 30 (by decide) (by decide) rfl rfl hc_146 dX12_look_146 ?_
  refine mg_nmF (fun f6 e_f6 => ?_)
  have h := h f6 e_f6
  refine mg_bipush C (x := nI 100) rfl dX12_look_147 ?_
  refine mg_iload C 0 rfl dX12_look_149 ?_
  refine mg_imul C dX12_look_151 ?_
  refine mg_nmI (fun x5_7 e_x5_7 => ?_)
  have h := h x5_7 e_x5_7
  refine mg_istore C (lv' := [(5, .int x5_7), (4, .int t0), (0, .ref (a 0)), (1, .int x1), (2, .int x2), (3, .int x3)]) (Nat.le_of_ble_eq_true rfl) rfl dX12_look_152 ?_
  exact mg_sub [2, 3, 4, 5, 1, 0] rfl (sl_look_154 C hR102 x1 x2 x3 t0 x5_7 v f6 g h)
set_option maxRecDepth 20000 in
theorem sb_look_102 (C : mC p s m args meth c cX12_look 6 (some .int) A D cI cJ cZ) {post : Int32 → mS → Prop} {R102 : Int32 → Int32 → Int32 → (Nat → Int32) → (Nat → Nat → Int32) → (Nat → Nat → Int64) → Prop} (hR102 : ∀ (x1 : Int32) (x2 : Int32) (x3 : Int32) (v : Nat → Int32) (f : Nat → Nat → Int32) (g : Nat → Nat → Int64), R102 x1 x2 x3 v f g → mG p l e (mRm 1 23) s m args below meth c A D cI cJ cZ a 6 (MQ below (va_Qi post (mB D cI cJ cZ a) A) args s 0 0 A) 102 [(0, .ref (a 0)), (1, .int x1), (2, .int x2), (3, .int x3)] [] v f g) (x1 : Int32) (x2 : Int32) (x3 : Int32) (v : Nat → Int32) (f : Nat → Nat → Int32) (g : Nat → Nat → Int64) (h : r_look_102 (fun r v f g => post r (v, f, g)) R102 x1 x2 x3 v f g) : mG p l e (mRm 1 23) s m args below meth c A D cI cJ cZ a 6 (MQ below (va_Qi post (mB D cI cJ cZ a) A) args s 0 0 A) 102 [(0, .ref (a 0)), (1, .int x1), (2, .int x2), (3, .int x3)] [] v f g := by
  unfold r_look_102 at h
  refine mg_iload_n C (i := 3) rfl 3 rfl dX12_look_102 ?_
  refine mg_aload_n C (i := 0) rfl 0 rfl dX12_look_103 ?_
  refine mg_arr C 31 (by decide) (by decide) rfl mL_lookedMany rfl dX12_look_104 ?_
  refine mg_iload_n C (i := 2) rfl 2 rfl dX12_look_107 ?_
  obtain ⟨hc_108, h⟩ := h
  refine mg_ialoadR C (n := 5) 31 (by decide) (by decide) rfl rfl hc_108 dX12_look_108 ?_
  refine mg_icmp_ge C 218 (by decide) dX12_look_109 (fun c_ => ?_) (fun c_ => ?_)
  · have h := h.1 c_
    refine mg_aload_n C (i := 0) rfl 0 rfl dX12_look_218 ?_
    refine mg_dup C rfl dX12_look_219 ?_
    refine mg_getI C (k := 48) (by decide) rfl mL_looks rfl dX12_look_220 ?_
    refine mg_iconst C (x := nI 1) rfl dX12_look_223 ?_
    refine mg_iadd C dX12_look_224 ?_
    refine mg_put C (k := 48) (by decide) rfl mL_looks rfl (by decide +kernel) mT_looks rfl rfl dX12_look_225 ?_
    refine mg_nmV (fun v5 e_v5 => ?_)
    have h := h v5 e_v5
    refine mg_aload_n C (i := 0) rfl 0 rfl dX12_look_228 ?_
    refine mg_getI C (k := 48) (by decide) rfl mL_looks rfl dX12_look_229 ?_
    refine mg_iconst C (x := nI 1) rfl dX12_look_232 ?_
    refine mg_isub C dX12_look_233 ?_
    exact mg_iret C h dX12_look_234
  · have h := h.2 c_
    refine mg_iload_n C (i := 1) rfl 1 rfl dX12_look_112 ?_
    refine mg_if_eq C 125 (by decide) dX12_look_113 (fun c_ => ?_) (fun c_ => ?_)
    · have h := h.1 c_
      refine mg_aload_n C (i := 0) rfl 0 rfl dX12_look_125 ?_
      refine mg_arr C 25 (by decide) (by decide) rfl mL_committed rfl dX12_look_126 ?_
      refine mg_iload_n C (i := 3) rfl 3 rfl dX12_look_129 ?_
      obtain ⟨hc_130, h⟩ := h
      refine mg_ialoadR C (n := 202) 25 (by decide) (by decide) rfl rfl hc_130 dX12_look_130 ?_
      exact mg_sub [0, 1, 2, 3] rfl (sb_look_131 C hR102 x1 x2 x3 ((f 25 (x3).toNatClampNeg)) v f g h)
    · have h := h.2 c_
      refine mg_aload_n C (i := 0) rfl 0 rfl dX12_look_116 ?_
      refine mg_arr C 24 (by decide) (by decide) rfl mL_index rfl dX12_look_117 ?_
      refine mg_iload_n C (i := 3) rfl 3 rfl dX12_look_120 ?_
      obtain ⟨hc_121, h⟩ := h
      refine mg_ialoadR C (n := 202) 24 (by decide) (by decide) rfl rfl hc_121 dX12_look_121 ?_
      refine mg_goto C 131 (by decide) dX12_look_122 ?_
      exact mg_sub [0, 1, 2, 3] rfl (sb_look_131 C hR102 x1 x2 x3 ((f 24 (x3).toNatClampNeg)) v f g h)
set_option maxRecDepth 20000 in
theorem sl_look_102 (C : mC p s m args meth c cX12_look 6 (some .int) A D cI cJ cZ) {post : Int32 → mS → Prop}   (x1 : Int32) (x2 : Int32) (x3 : Int32) (v : Nat → Int32) (f : Nat → Nat → Int32) (g : Nat → Nat → Int64) (h : r_look_102L (fun r v f g => post r (v, f, g))  x1 x2 x3 v f g) : mG p l e (mRm 1 23) s m args below meth c A D cI cJ cZ a 6 (MQ below (va_Qi post (mB D cI cJ cZ a) A) args s 0 0 A) 102 [(0, .ref (a 0)), (1, .int x1), (2, .int x2), (3, .int x3)] [] v f g :=
  h (fun y => mG p l e (mRm 1 23) s m args below meth c A D cI cJ cZ a 6 (MQ below (va_Qi post (mB D cI cJ cZ a) A) args s 0 0 A) 102 [(0, .ref (a 0)), (1, .int (y.1)), (2, .int (y.2.1)), (3, .int (y.2.2.1))] [] (y.2.2.2.1) (y.2.2.2.2.1) (y.2.2.2.2.2)) (fun y hy => sb_look_102 C  (fun b0 b1 b2 v f g z => z) (y.1) (y.2.1) (y.2.2.1) (y.2.2.2.1) (y.2.2.2.2.1) (y.2.2.2.2.2) hy)
set_option maxRecDepth 20000 in
theorem sb_look_99 (C : mC p s m args meth c cX12_look 6 (some .int) A D cI cJ cZ) {post : Int32 → mS → Prop}   (x1 : Int32) (x2 : Int32) (t0 : Int32) (t1 : Int32) (v : Nat → Int32) (f : Nat → Nat → Int32) (g : Nat → Nat → Int64) (h : r_look_99 (fun r v f g => post r (v, f, g))  x1 x2 t0 t1 v f g) : mG p l e (mRm 1 23) s m args below meth c A D cI cJ cZ a 6 (MQ below (va_Qi post (mB D cI cJ cZ a) A) args s 0 0 A) 99 [(0, .ref (a 0)), (1, .int x1), (2, .int x2)] [.int t0, .int t1, .ref (a 31)] v f g := by
  unfold r_look_99 at h
  obtain ⟨hc_99, h⟩ := h
  refine mg_iastoreR C (n := 5) 31 (by decide) (by decide) rfl rfl hc_99 dX12_look_99 ?_
  refine mg_nmF (fun f4 e_f4 => ?_)
  have h := h f4 e_f4
  refine mg_iconst C (x := nI 0) rfl dX12_look_100 ?_
  refine mg_istore_n C (i := 3) (lv' := [(3, .int ((nI 0))), (0, .ref (a 0)), (1, .int x1), (2, .int x2)]) rfl (Nat.le_of_ble_eq_true rfl) rfl dX12_look_101 ?_
  exact mg_sub [1, 2, 3, 0] rfl (sl_look_102 C  x1 x2 (((nI 0))) v f4 g h)
set_option maxRecDepth 20000 in
theorem sb_look_48 (C : mC p s m args meth c cX12_look 6 (some .int) A D cI cJ cZ) {post : Int32 → mS → Prop}   (x1 : Int32) (x2 : Int32) (t0 : Int32) (v : Nat → Int32) (f : Nat → Nat → Int32) (g : Nat → Nat → Int64) (h : r_look_48 (fun r v f g => post r (v, f, g))  x1 x2 t0 v f g) : mG p l e (mRm 1 23) s m args below meth c A D cI cJ cZ a 6 (MQ below (va_Qi post (mB D cI cJ cZ a) A) args s 0 0 A) 48 [(0, .ref (a 0)), (1, .int x1), (2, .int x2)] [.int t0, .ref (a 0)] v f g := by
  unfold r_look_48 at h
  refine mg_iconst C (x := nI 1) rfl dX12_look_48 ?_
  refine mg_iconst C (x := nI 1) rfl dX12_look_49 ?_
  refine mg_calliW C (s_goes l t0 ((nI 1)) ((nI 1)) v f g h) mCal_goes rfl ⟨by decide, by decide⟩ rfl (Nat.le_of_ble_eq_true rfl) dX12_look_50 (fun r_2 v_2 f_2 g_2 h => ?_)
  refine mg_if_ne C 58 (by decide) dX12_look_53 (fun c_ => ?_) (fun c_ => ?_)
  · have h := h.1 c_
    refine mg_aload_n C (i := 0) rfl 0 rfl dX12_look_58 ?_
    refine mg_arr C 29 (by decide) (by decide) rfl mL_lookNumbers rfl dX12_look_59 ?_
    refine mg_iload_n C (i := 2) rfl 2 rfl dX12_look_62 ?_
    refine mg_aload_n C (i := 0) rfl 0 rfl dX12_look_63 ?_
    refine mg_getI C (k := 48) (by decide) rfl mL_looks rfl dX12_look_64 ?_
    obtain ⟨hc_67, h⟩ := h
    refine mg_iastoreR C (n := 5) 29 (by decide) (by decide) rfl rfl hc_67 dX12_look_67 ?_
    refine mg_nmF (fun f3 e_f3 => ?_)
    have h := h f3 e_f3
    refine mg_aload_n C (i := 0) rfl 0 rfl dX12_look_68 ?_
    refine mg_arr C 31 (by decide) (by decide) rfl mL_lookedMany rfl dX12_look_69 ?_
    refine mg_iload_n C (i := 2) rfl 2 rfl dX12_look_72 ?_
    refine mg_iload_n C (i := 1) rfl 1 rfl dX12_look_73 ?_
    refine mg_if_eq C 84 (by decide) dX12_look_74 (fun c_ => ?_) (fun c_ => ?_)
    · have h := h.1 c_
      refine mg_aload_n C (i := 0) rfl 0 rfl dX12_look_84 ?_
      refine mg_getI C (k := 35) (by decide) rfl mL_isCommitted rfl dX12_look_85 ?_
      refine mg_if_eq C 98 (by decide) dX12_look_88 (fun c_ => ?_) (fun c_ => ?_)
      · have h := h.1 c_
        refine mg_iconst C (x := nI 0) rfl dX12_look_98 ?_
        exact mg_sub [0, 1, 2] rfl (sb_look_99 C  x1 x2 ((nI 0)) x2 v_2 f3 g_2 h)
      · have h := h.2 c_
        refine mg_aload_n C (i := 0) rfl 0 rfl dX12_look_91 ?_
        refine mg_getI C (k := 37) (by decide) rfl mL_committedMany rfl dX12_look_92 ?_
        refine mg_goto C 99 (by decide) dX12_look_95 ?_
        exact mg_sub [0, 1, 2] rfl (sb_look_99 C  x1 x2 ((v_2 37)) x2 v_2 f3 g_2 h)
    · have h := h.2 c_
      refine mg_aload_n C (i := 0) rfl 0 rfl dX12_look_77 ?_
      refine mg_getI C (k := 34) (by decide) rfl mL_indexed rfl dX12_look_78 ?_
      refine mg_goto C 99 (by decide) dX12_look_81 ?_
      exact mg_sub [0, 1, 2] rfl (sb_look_99 C  x1 x2 ((v_2 34)) x2 v_2 f3 g_2 h)
  · have h := h.2 c_
    refine mg_iconst C (x := nI 0) rfl dX12_look_56 ?_
    exact mg_iret C h dX12_look_57
set_option maxRecDepth 20000 in
theorem sb_look_47 (C : mC p s m args meth c cX12_look 6 (some .int) A D cI cJ cZ) {post : Int32 → mS → Prop}   (x1 : Int32) (x2 : Int32) (v : Nat → Int32) (f : Nat → Nat → Int32) (g : Nat → Nat → Int64) (h : r_look_47 (fun r v f g => post r (v, f, g))  x1 x2 v f g) : mG p l e (mRm 1 23) s m args below meth c A D cI cJ cZ a 6 (MQ below (va_Qi post (mB D cI cJ cZ a) A) args s 0 0 A) 47 [(0, .ref (a 0)), (1, .int x1), (2, .int x2)] [.ref (a 0)] v f g := by
  unfold r_look_47 at h
  refine mg_iconst C (x := nI 0) rfl dX12_look_47 ?_
  exact mg_sub [0, 1, 2] rfl (sb_look_48 C  x1 x2 ((nI 0)) v f g h)
set_option maxRecDepth 20000 in
theorem sb_look_23 (C : mC p s m args meth c cX12_look 6 (some .int) A D cI cJ cZ) {post : Int32 → mS → Prop} {R4 : Int32 → Int32 → Int32 → (Nat → Int32) → (Nat → Nat → Int32) → (Nat → Nat → Int64) → Prop} (hR4 : ∀ (x1 : Int32) (x2 : Int32) (x3 : Int32) (v : Nat → Int32) (f : Nat → Nat → Int32) (g : Nat → Nat → Int64), R4 x1 x2 x3 v f g → mG p l e (mRm 1 23) s m args below meth c A D cI cJ cZ a 6 (MQ below (va_Qi post (mB D cI cJ cZ a) A) args s 0 0 A) 4 [(0, .ref (a 0)), (1, .int x1), (2, .int x2), (3, .int x3)] [] v f g) (x1 : Int32) (x3 : Int32) (t0 : Int32) (v : Nat → Int32) (f : Nat → Nat → Int32) (g : Nat → Nat → Int64) (h : r_look_23 (fun r v f g => post r (v, f, g)) R4 x1 x3 t0 v f g) : mG p l e (mRm 1 23) s m args below meth c A D cI cJ cZ a 6 (MQ below (va_Qi post (mB D cI cJ cZ a) A) args s 0 0 A) 23 [(0, .ref (a 0)), (1, .int x1), (3, .int x3)] [.int t0] v f g := by
  unfold r_look_23 at h
  refine mg_istore_n C (i := 2) (lv' := [(2, .int t0), (0, .ref (a 0)), (1, .int x1), (3, .int x3)]) rfl (Nat.le_of_ble_eq_true rfl) rfl dX12_look_23 ?_
  obtain ⟨x3_11, e_x3_11⟩ : ∃ z : Int32, z = x3 + (-1) := ⟨_, rfl⟩
  have h := h x3_11 e_x3_11
  refine mg_iinc C (lv' := [(3, .int x3_11), (2, .int t0), (0, .ref (a 0)), (1, .int x1)]) 3 rfl (by rw [e_x3_11]; rfl) (Nat.le_of_ble_eq_true rfl) rfl dX12_look_24 ?_
  refine mg_goto C 4 (by decide) dX12_look_27 ?_
  exact mg_sub [2, 3, 1, 0] rfl (hR4 x1 t0 x3_11 v f g h)
set_option maxRecDepth 20000 in
theorem sb_look_4 (C : mC p s m args meth c cX12_look 6 (some .int) A D cI cJ cZ) {post : Int32 → mS → Prop} {R4 : Int32 → Int32 → Int32 → (Nat → Int32) → (Nat → Nat → Int32) → (Nat → Nat → Int64) → Prop} (hR4 : ∀ (x1 : Int32) (x2 : Int32) (x3 : Int32) (v : Nat → Int32) (f : Nat → Nat → Int32) (g : Nat → Nat → Int64), R4 x1 x2 x3 v f g → mG p l e (mRm 1 23) s m args below meth c A D cI cJ cZ a 6 (MQ below (va_Qi post (mB D cI cJ cZ a) A) args s 0 0 A) 4 [(0, .ref (a 0)), (1, .int x1), (2, .int x2), (3, .int x3)] [] v f g) (x1 : Int32) (x2 : Int32) (x3 : Int32) (v : Nat → Int32) (f : Nat → Nat → Int32) (g : Nat → Nat → Int64) (h : r_look_4 (fun r v f g => post r (v, f, g)) R4 x1 x2 x3 v f g) : mG p l e (mRm 1 23) s m args below meth c A D cI cJ cZ a 6 (MQ below (va_Qi post (mB D cI cJ cZ a) A) args s 0 0 A) 4 [(0, .ref (a 0)), (1, .int x1), (2, .int x2), (3, .int x3)] [] v f g := by
  unfold r_look_4 at h
  refine mg_iload_n C (i := 3) rfl 3 rfl dX12_look_4 ?_
  refine mg_if_lt C 30 (by decide) dX12_look_5 (fun c_ => ?_) (fun c_ => ?_)
  · have h := h.1 c_
    refine mg_aload_n C (i := 0) rfl 0 rfl dX12_look_30 ?_
    refine mg_aload_n C (i := 0) rfl 0 rfl dX12_look_31 ?_
    refine mg_getI C (k := 98) (by decide) rfl mL_down rfl dX12_look_32 ?_
    refine mg_if_ne C 47 (by decide) dX12_look_35 (fun c_ => ?_) (fun c_ => ?_)
    · have h := h.1 c_
      exact mg_sub [0, 1, 2] rfl (sb_look_47 C  x1 x2 v f g h)
    · have h := h.2 c_
      refine mg_iload_n C (i := 2) rfl 2 rfl dX12_look_38 ?_
      refine mg_iconst C (x := (-1)) rfl dX12_look_39 ?_
      refine mg_icmp_eq C 47 (by decide) dX12_look_40 (fun c_ => ?_) (fun c_ => ?_)
      · have h := h.1 c_
        exact mg_sub [0, 1, 2] rfl (sb_look_47 C  x1 x2 v f g h)
      · have h := h.2 c_
        refine mg_iconst C (x := nI 1) rfl dX12_look_43 ?_
        refine mg_goto C 48 (by decide) dX12_look_44 ?_
        exact mg_sub [0, 1, 2] rfl (sb_look_48 C  x1 x2 ((nI 1)) v f g h)
  · have h := h.2 c_
    refine mg_aload_n C (i := 0) rfl 0 rfl dX12_look_8 ?_
    refine mg_arr C 29 (by decide) (by decide) rfl mL_lookNumbers rfl dX12_look_9 ?_
    refine mg_iload_n C (i := 3) rfl 3 rfl dX12_look_12 ?_
    obtain ⟨hc_13, h⟩ := h
    refine mg_ialoadR C (n := 5) 29 (by decide) (by decide) rfl rfl hc_13 dX12_look_13 ?_
    refine mg_iconst C (x := (-1)) rfl dX12_look_14 ?_
    refine mg_icmp_ne C 22 (by decide) dX12_look_15 (fun c_ => ?_) (fun c_ => ?_)
    · have h := h.1 c_
      refine mg_iload_n C (i := 2) rfl 2 rfl dX12_look_22 ?_
      exact mg_sub [0, 1, 3] rfl (sb_look_23 C hR4 x1 x3 x2 v f g h)
    · have h := h.2 c_
      refine mg_iload_n C (i := 3) rfl 3 rfl dX12_look_18 ?_
      refine mg_goto C 23 (by decide) dX12_look_19 ?_
      exact mg_sub [0, 1, 3] rfl (sb_look_23 C hR4 x1 x3 x3 v f g h)
set_option maxRecDepth 20000 in
theorem sl_look_4 (C : mC p s m args meth c cX12_look 6 (some .int) A D cI cJ cZ) {post : Int32 → mS → Prop}   (x1 : Int32) (x2 : Int32) (x3 : Int32) (v : Nat → Int32) (f : Nat → Nat → Int32) (g : Nat → Nat → Int64) (h : r_look_4L (fun r v f g => post r (v, f, g))  x1 x2 x3 v f g) : mG p l e (mRm 1 23) s m args below meth c A D cI cJ cZ a 6 (MQ below (va_Qi post (mB D cI cJ cZ a) A) args s 0 0 A) 4 [(0, .ref (a 0)), (1, .int x1), (2, .int x2), (3, .int x3)] [] v f g :=
  h (fun y => mG p l e (mRm 1 23) s m args below meth c A D cI cJ cZ a 6 (MQ below (va_Qi post (mB D cI cJ cZ a) A) args s 0 0 A) 4 [(0, .ref (a 0)), (1, .int (y.1)), (2, .int (y.2.1)), (3, .int (y.2.2.1))] [] (y.2.2.2.1) (y.2.2.2.2.1) (y.2.2.2.2.2)) (fun y hy => sb_look_4 C  (fun b0 b1 b2 v f g z => z) (y.1) (y.2.1) (y.2.2.1) (y.2.2.2.1) (y.2.2.2.2.1) (y.2.2.2.2.2) hy)
end S_look
set_option maxHeartbeats 1000000 in
set_option maxRecDepth 20000 in
theorem s_look (l : Launch) (x1 : Int32) (v : Nat → Int32) (f : Nat → Nat → Int32) (g : Nat → Nat → Int64) {P : Int32 → (Nat → Int32) → (Nat → Nat → Int32) → (Nat → Nat → Int64) → Prop} (h : r_look P x1 v f g) : mMi l yX12_look cX12_look 6 (some .int) 1 23 false [.int x1] v f g (fun r w => P r w.1 w.2.1 w.2.2) := by
  intro D cI cJ cZ a sz
  refine mg_body (by decide +kernel) rfl (Nat.le_of_ble_eq_true rfl) ?_
  intro p e s m args below meth c hsz C
  clear hsz
  generalize va_A (mW cI cJ cZ a v f g) sz = A at C ⊢
  refine mg_lv (lv' := [(0, .ref (a 0)), (1, .int x1)]) rfl ?_
  unfold r_look at h
  refine mg_iconst C (x := (-1)) rfl dX12_look_0 ?_
  refine mg_nmI (fun x2_1 e_x2_1 => ?_)
  have h := h x2_1 e_x2_1
  refine mg_istore_n C (i := 2) (lv' := [(2, .int x2_1), (0, .ref (a 0)), (1, .int x1)]) rfl (Nat.le_of_ble_eq_true rfl) rfl dX12_look_1 ?_
  refine mg_iconst C (x := nI 4) rfl dX12_look_2 ?_
  refine mg_istore_n C (i := 3) (lv' := [(3, .int ((nI 4))), (2, .int x2_1), (0, .ref (a 0)), (1, .int x1)]) rfl (Nat.le_of_ble_eq_true rfl) rfl dX12_look_3 ?_
  exact mg_sub [2, 3, 1, 0] rfl (sl_look_4 C  x1 x2_1 (((nI 4))) v f g h)
def r_shut_17 (Q : Int32 → (Nat → Int32) → (Nat → Nat → Int32) → (Nat → Nat → Int64) → Prop)  (x2 : Int32) (t0 : Int32) (v : Nat → Int32) (f : Nat → Nat → Int32) (g : Nat → Nat → Int64) : Prop :=
r_goes (fun r_2 v_2 f_2 g_2 => 
((¬ r_2 = 0 →
  vp_in x2 5 ∧ (∀ f3 : Nat → Nat → Int32, f3 = mU f_2 29 (x2).toNatClampNeg (((-1))) → r_filesNow (fun r_4 v_4 f_4 g_4 => 
  Q r_4 v_4 f_4 g_4)  v_2 f3 g_2)) ∧
 (r_2 = 0 →
  Q ((nI 0)) v_2 f_2 g_2))) t0 ((nI 1)) ((nI 1)) v f g
def r_shut (Q : Int32 → (Nat → Int32) → (Nat → Nat → Int32) → (Nat → Nat → Int64) → Prop) (x1 : Int32) (v : Nat → Int32) (f : Nat → Nat → Int32) (g : Nat → Nat → Int64) : Prop :=
r_slotOf (fun r_1 v_1 f_1 g_1 => 
((r_1 = (((-1))) →
  r_shut_17 Q  r_1 ((nI 0)) v_1 f_1 g_1) ∧
 (¬ r_1 = (((-1))) →
  r_shut_17 Q  r_1 ((nI 1)) v_1 f_1 g_1))) x1 v f g
section S_shut
variable {p : Program} {l : Launch} {e : Env} {s : State} {m : MethodId} {args : Array Value} {below : List Frame} {meth : Method} {c : Code} {A : Nat → Prop} {D : va_G} {cI cJ cZ : ClassId} {a : Nat → Nat}
set_option maxRecDepth 20000 in
theorem sb_shut_17 (C : mC p s m args meth c cX12_shut 3 (some .int) A D cI cJ cZ) {post : Int32 → mS → Prop}   (x2 : Int32) (t0 : Int32) (v : Nat → Int32) (f : Nat → Nat → Int32) (g : Nat → Nat → Int64) (h : r_shut_17 (fun r v f g => post r (v, f, g))  x2 t0 v f g) : mG p l e (mRm 2 52) s m args below meth c A D cI cJ cZ a 3 (MQ below (va_Qi post (mB D cI cJ cZ a) A) args s 0 0 A) 17 [(0, .ref (a 0)), (2, .int x2)] [.int t0, .ref (a 0)] v f g := by
  unfold r_shut_17 at h
  refine mg_iconst C (x := nI 1) rfl dX12_shut_17 ?_
  refine mg_iconst C (x := nI 1) rfl dX12_shut_18 ?_
  refine mg_calliW C (s_goes l t0 ((nI 1)) ((nI 1)) v f g h) mCal_goes rfl ⟨by decide, by decide⟩ rfl (Nat.le_of_ble_eq_true rfl) dX12_shut_19 (fun r_2 v_2 f_2 g_2 h => ?_)
  refine mg_if_ne C 27 (by decide) dX12_shut_22 (fun c_ => ?_) (fun c_ => ?_)
  · have h := h.1 c_
    refine mg_aload_n C (i := 0) rfl 0 rfl dX12_shut_27 ?_
    refine mg_arr C 29 (by decide) (by decide) rfl mL_lookNumbers rfl dX12_shut_28 ?_
    refine mg_iload_n C (i := 2) rfl 1 rfl dX12_shut_31 ?_
    refine mg_iconst C (x := (-1)) rfl dX12_shut_32 ?_
    obtain ⟨hc_33, h⟩ := h
    refine mg_iastoreR C (n := 5) 29 (by decide) (by decide) rfl rfl hc_33 dX12_shut_33 ?_
    refine mg_nmF (fun f3 e_f3 => ?_)
    have h := h f3 e_f3
    refine mg_aload_n C (i := 0) rfl 0 rfl dX12_shut_34 ?_
    refine mg_calliW C (s_filesNow l  v_2 f3 g_2 h) mCal_filesNow rfl ⟨by decide, by decide⟩ rfl (Nat.le_of_ble_eq_true rfl) dX12_shut_35 (fun r_4 v_4 f_4 g_4 h => ?_)
    exact mg_iret C h dX12_shut_38
  · have h := h.2 c_
    refine mg_iconst C (x := nI 0) rfl dX12_shut_25 ?_
    exact mg_iret C h dX12_shut_26
end S_shut
set_option maxHeartbeats 1000000 in
set_option maxRecDepth 20000 in
theorem s_shut (l : Launch) (x1 : Int32) (v : Nat → Int32) (f : Nat → Nat → Int32) (g : Nat → Nat → Int64) {P : Int32 → (Nat → Int32) → (Nat → Nat → Int32) → (Nat → Nat → Int64) → Prop} (h : r_shut P x1 v f g) : mMi l yX12_shut cX12_shut 3 (some .int) 2 52 false [.int x1] v f g (fun r w => P r w.1 w.2.1 w.2.2) := by
  intro D cI cJ cZ a sz
  refine mg_body (by decide +kernel) rfl (Nat.le_of_ble_eq_true rfl) ?_
  intro p e s m args below meth c hsz C
  clear hsz
  generalize va_A (mW cI cJ cZ a v f g) sz = A at C ⊢
  refine mg_lv (lv' := [(0, .ref (a 0)), (1, .int x1)]) rfl ?_
  unfold r_shut at h
  refine mg_aload_n C (i := 0) rfl 0 rfl dX12_shut_0 ?_
  refine mg_iload_n C (i := 1) rfl 1 rfl dX12_shut_1 ?_
  refine mg_calliW C (s_slotOf l x1 v f g h) mCal_slotOf rfl ⟨by decide, by decide⟩ rfl (Nat.le_of_ble_eq_true rfl) dX12_shut_2 (fun r_1 v_1 f_1 g_1 h => ?_)
  refine mg_istore_n C (i := 2) (lv' := [(2, .int r_1), (0, .ref (a 0)), (1, .int x1)]) rfl (Nat.le_of_ble_eq_true rfl) rfl dX12_shut_5 ?_
  refine mg_aload_n C (i := 0) rfl 1 rfl dX12_shut_6 ?_
  refine mg_iload_n C (i := 2) rfl 0 rfl dX12_shut_7 ?_
  refine mg_iconst C (x := (-1)) rfl dX12_shut_8 ?_
  refine mg_icmp_eq C 16 (by decide) dX12_shut_9 (fun c_ => ?_) (fun c_ => ?_)
  · have h := h.1 c_
    refine mg_iconst C (x := nI 0) rfl dX12_shut_16 ?_
    exact mg_sub [1, 0] rfl (sb_shut_17 C  r_1 ((nI 0)) v_1 f_1 g_1 h)
  · have h := h.2 c_
    refine mg_iconst C (x := nI 1) rfl dX12_shut_12 ?_
    refine mg_goto C 17 (by decide) dX12_shut_13 ?_
    exact mg_sub [1, 0] rfl (sb_shut_17 C  r_1 ((nI 1)) v_1 f_1 g_1 h)
def r_lays_94 (Q : (Nat → Int32) → (Nat → Nat → Int32) → (Nat → Nat → Int64) → Prop) (R7 : Int32 → Int32 → (Nat → Int32) → (Nat → Nat → Int32) → (Nat → Nat → Int64) → Prop) (R36 : Int32 → Int32 → Int32 → Int32 → (Nat → Int32) → (Nat → Nat → Int32) → (Nat → Nat → Int64) → Prop) (x1 : Int32) (x2 : Int32) (x3 : Int32) (x4 : Int32) (v : Nat → Int32) (f : Nat → Nat → Int32) (g : Nat → Nat → Int64) : Prop :=
∀ x4_5 : Int32, x4_5 = x4 + nI 1 → R36 x1 x2 x3 x4_5 v f g
def r_lays_36 (Q : (Nat → Int32) → (Nat → Nat → Int32) → (Nat → Nat → Int64) → Prop) (R7 : Int32 → Int32 → (Nat → Int32) → (Nat → Nat → Int32) → (Nat → Nat → Int64) → Prop) (R36 : Int32 → Int32 → Int32 → Int32 → (Nat → Int32) → (Nat → Nat → Int32) → (Nat → Nat → Int64) → Prop) (x1 : Int32) (x2 : Int32) (x3 : Int32) (x4 : Int32) (v : Nat → Int32) (f : Nat → Nat → Int32) (g : Nat → Nat → Int64) : Prop :=
vp_in x3 202 ∧ (((((((((nI 100)) * x3)) + ((f 20 (x3).toNatClampNeg)))) ≤ x4 →
  ∀ x2_4 : Int32, x2_4 = x2 + nI 1 → R7 x1 x2_4 v f g) ∧
 (¬ ((((((nI 100)) * x3)) + ((f 20 (x3).toNatClampNeg)))) ≤ x4 →
  vp_in ((((((nI 20200)) * x1)) + x4)) 101000 ∧ (((((f 32 ((((((nI 20200)) * x1)) + x4)).toNatClampNeg)) = 0 →
    r_lays_94 Q R7 R36 x1 x2 x3 x4 v f g) ∧
   (¬ ((f 32 ((((((nI 20200)) * x1)) + x4)).toNatClampNeg)) = 0 →
    vp_in x4 20200 ∧ (vp_in ((v 60)) 2424 ∧ (∀ f6 : Nat → Nat → Int32, f6 = mU f 38 ((v 60)).toNatClampNeg ((f 19 (x4).toNatClampNeg)) → ∀ v7 : Nat → Int32, v7 = upd v 60 ((((v 60)) + ((nI 1)))) → r_lays_94 Q R7 R36 x1 x2 x3 x4 v7 f6 g))))))))
def r_lays_36L (Q : (Nat → Int32) → (Nat → Nat → Int32) → (Nat → Nat → Int64) → Prop) (R7 : Int32 → Int32 → (Nat → Int32) → (Nat → Nat → Int32) → (Nat → Nat → Int64) → Prop) (x1 : Int32) (x2 : Int32) (x3 : Int32) (x4 : Int32) (v : Nat → Int32) (f : Nat → Nat → Int32) (g : Nat → Nat → Int64) : Prop :=
  lfp (X := Int32 × Int32 × Int32 × Int32 × (Nat → Int32) × (Nat → Nat → Int32) × (Nat → Nat → Int64)) (fun P y => r_lays_36 Q R7 (fun b0 b1 b2 b3 v f g => P (b0, b1, b2, b3, v, f, g)) y.1 y.2.1 y.2.2.1 y.2.2.2.1 y.2.2.2.2.1 y.2.2.2.2.2.1 y.2.2.2.2.2.2) (x1, x2, x3, x4, v, f, g)
def r_lays_7 (Q : (Nat → Int32) → (Nat → Nat → Int32) → (Nat → Nat → Int64) → Prop) (R7 : Int32 → Int32 → (Nat → Int32) → (Nat → Nat → Int32) → (Nat → Nat → Int64) → Prop) (x1 : Int32) (x2 : Int32) (v : Nat → Int32) (f : Nat → Nat → Int32) (g : Nat → Nat → Int64) : Prop :=
vp_in x1 5 ∧ (((((f 31 (x1).toNatClampNeg)) ≤ x2 →
  Q v f g) ∧
 (¬ ((f 31 (x1).toNatClampNeg)) ≤ x2 →
  vp_in ((((((nI 202)) * x1)) + x2)) 1010 ∧ (∀ x3_2 : Int32, x3_2 = (f 30 ((((((nI 202)) * x1)) + x2)).toNatClampNeg) → ∀ x4_3 : Int32, x4_3 = (((nI 100)) * x3_2) → r_lays_36L Q R7 x1 x2 x3_2 x4_3 v f g))))
def r_lays_7L (Q : (Nat → Int32) → (Nat → Nat → Int32) → (Nat → Nat → Int64) → Prop)  (x1 : Int32) (x2 : Int32) (v : Nat → Int32) (f : Nat → Nat → Int32) (g : Nat → Nat → Int64) : Prop :=
  lfp (X := Int32 × Int32 × (Nat → Int32) × (Nat → Nat → Int32) × (Nat → Nat → Int64)) (fun P y => r_lays_7 Q  (fun b0 b1 v f g => P (b0, b1, v, f, g)) y.1 y.2.1 y.2.2.1 y.2.2.2.1 y.2.2.2.2) (x1, x2, v, f, g)
def r_lays (Q : (Nat → Int32) → (Nat → Nat → Int32) → (Nat → Nat → Int64) → Prop) (x1 : Int32) (v : Nat → Int32) (f : Nat → Nat → Int32) (g : Nat → Nat → Int64) : Prop :=
∀ v1 : Nat → Int32, v1 = upd v 60 ((nI 0)) → r_lays_7L Q  x1 (((nI 0))) v1 f g
section S_lays
variable {p : Program} {l : Launch} {e : Env} {s : State} {m : MethodId} {args : Array Value} {below : List Frame} {meth : Method} {c : Code} {A : Nat → Prop} {D : va_G} {cI cJ cZ : ClassId} {a : Nat → Nat}
set_option maxRecDepth 20000 in
theorem sb_lays_94 (C : mC p s m args meth c cX12_lays 5 none A D cI cJ cZ) {post : mS → Prop} {R7 : Int32 → Int32 → (Nat → Int32) → (Nat → Nat → Int32) → (Nat → Nat → Int64) → Prop} {R36 : Int32 → Int32 → Int32 → Int32 → (Nat → Int32) → (Nat → Nat → Int32) → (Nat → Nat → Int64) → Prop} (hR7 : ∀ (x1 : Int32) (x2 : Int32) (v : Nat → Int32) (f : Nat → Nat → Int32) (g : Nat → Nat → Int64), R7 x1 x2 v f g → mG p l e (mRm 0 0) s m args below meth c A D cI cJ cZ a 5 (MQ below (va_Qv post (mB D cI cJ cZ a) A) args s 0 0 A) 7 [(0, .ref (a 0)), (1, .int x1), (2, .int x2)] [] v f g) (hR36 : ∀ (x1 : Int32) (x2 : Int32) (x3 : Int32) (x4 : Int32) (v : Nat → Int32) (f : Nat → Nat → Int32) (g : Nat → Nat → Int64), R36 x1 x2 x3 x4 v f g → mG p l e (mRm 0 0) s m args below meth c A D cI cJ cZ a 5 (MQ below (va_Qv post (mB D cI cJ cZ a) A) args s 0 0 A) 36 [(0, .ref (a 0)), (1, .int x1), (2, .int x2), (3, .int x3), (4, .int x4)] [] v f g) (x1 : Int32) (x2 : Int32) (x3 : Int32) (x4 : Int32) (v : Nat → Int32) (f : Nat → Nat → Int32) (g : Nat → Nat → Int64) (h : r_lays_94 (fun v f g => post (v, f, g)) R7 R36 x1 x2 x3 x4 v f g) : mG p l e (mRm 0 0) s m args below meth c A D cI cJ cZ a 5 (MQ below (va_Qv post (mB D cI cJ cZ a) A) args s 0 0 A) 94 [(0, .ref (a 0)), (1, .int x1), (2, .int x2), (3, .int x3), (4, .int x4)] [] v f g := by
  unfold r_lays_94 at h
  obtain ⟨x4_5, e_x4_5⟩ : ∃ z : Int32, z = x4 + nI 1 := ⟨_, rfl⟩
  have h := h x4_5 e_x4_5
  refine mg_iinc C (lv' := [(4, .int x4_5), (0, .ref (a 0)), (1, .int x1), (2, .int x2), (3, .int x3)]) 4 rfl (by rw [e_x4_5]; rfl) (Nat.le_of_ble_eq_true rfl) rfl dX12_lays_94 ?_
  refine mg_goto C 36 (by decide) dX12_lays_97 ?_
  exact mg_sub [1, 2, 3, 4, 0] rfl (hR36 x1 x2 x3 x4_5 v f g h)
set_option maxRecDepth 20000 in
theorem sb_lays_36 (C : mC p s m args meth c cX12_lays 5 none A D cI cJ cZ) {post : mS → Prop} {R7 : Int32 → Int32 → (Nat → Int32) → (Nat → Nat → Int32) → (Nat → Nat → Int64) → Prop} {R36 : Int32 → Int32 → Int32 → Int32 → (Nat → Int32) → (Nat → Nat → Int32) → (Nat → Nat → Int64) → Prop} (hR7 : ∀ (x1 : Int32) (x2 : Int32) (v : Nat → Int32) (f : Nat → Nat → Int32) (g : Nat → Nat → Int64), R7 x1 x2 v f g → mG p l e (mRm 0 0) s m args below meth c A D cI cJ cZ a 5 (MQ below (va_Qv post (mB D cI cJ cZ a) A) args s 0 0 A) 7 [(0, .ref (a 0)), (1, .int x1), (2, .int x2)] [] v f g) (hR36 : ∀ (x1 : Int32) (x2 : Int32) (x3 : Int32) (x4 : Int32) (v : Nat → Int32) (f : Nat → Nat → Int32) (g : Nat → Nat → Int64), R36 x1 x2 x3 x4 v f g → mG p l e (mRm 0 0) s m args below meth c A D cI cJ cZ a 5 (MQ below (va_Qv post (mB D cI cJ cZ a) A) args s 0 0 A) 36 [(0, .ref (a 0)), (1, .int x1), (2, .int x2), (3, .int x3), (4, .int x4)] [] v f g) (x1 : Int32) (x2 : Int32) (x3 : Int32) (x4 : Int32) (v : Nat → Int32) (f : Nat → Nat → Int32) (g : Nat → Nat → Int64) (h : r_lays_36 (fun v f g => post (v, f, g)) R7 R36 x1 x2 x3 x4 v f g) : mG p l e (mRm 0 0) s m args below meth c A D cI cJ cZ a 5 (MQ below (va_Qv post (mB D cI cJ cZ a) A) args s 0 0 A) 36 [(0, .ref (a 0)), (1, .int x1), (2, .int x2), (3, .int x3), (4, .int x4)] [] v f g := by
  unfold r_lays_36 at h
  refine mg_iload C 4 rfl dX12_lays_36 ?_
  refine mg_bipush C (x := nI 100) rfl dX12_lays_38 ?_
  refine mg_iload_n C (i := 3) rfl 3 rfl dX12_lays_40 ?_
  refine mg_imul C dX12_lays_41 ?_
  refine mg_aload_n C (i := 0) rfl 0 rfl dX12_lays_42 ?_
  refine mg_arr C 20 (by decide) (by decide) rfl mL_sizes rfl dX12_lays_43 ?_
  refine mg_iload_n C (i := 3) rfl 3 rfl dX12_lays_46 ?_
  obtain ⟨hc_47, h⟩ := h
  refine mg_ialoadR C (n := 202) 20 (by decide) (by decide) rfl rfl hc_47 dX12_lays_47 ?_
  refine mg_iadd C dX12_lays_48 ?_
  refine mg_icmp_ge C 100 (by decide) dX12_lays_49 (fun c_ => ?_) (fun c_ => ?_)
  · have h := h.1 c_
    obtain ⟨x2_4, e_x2_4⟩ : ∃ z : Int32, z = x2 + nI 1 := ⟨_, rfl⟩
    have h := h x2_4 e_x2_4
    refine mg_iinc C (lv' := [(2, .int x2_4), (0, .ref (a 0)), (1, .int x1), (3, .int x3), (4, .int x4)]) 2 rfl (by rw [e_x2_4]; rfl) (Nat.le_of_ble_eq_true rfl) rfl dX12_lays_100 ?_
    refine mg_goto C 7 (by decide) dX12_lays_103 ?_
    exact mg_sub [1, 2, 0] rfl (hR7 x1 x2_4 v f g h)
  · have h := h.2 c_
    refine mg_aload_n C (i := 0) rfl 0 rfl dX12_lays_52 ?_
    refine mg_arr C 32 (by decide) (by decide) rfl mL_lookedLive rfl dX12_lays_53 ?_
    refine mg_sipush C (x := nI 20200) rfl dX12_lays_56 ?_
    refine mg_iload_n C (i := 1) rfl 1 rfl dX12_lays_59 ?_
    refine mg_imul C dX12_lays_60 ?_
    refine mg_iload C 4 rfl dX12_lays_61 ?_
    refine mg_iadd C dX12_lays_63 ?_
    obtain ⟨hc_64, h⟩ := h
    refine mg_baloadR C (n := 101000) 32 (by decide) (by decide) rfl rfl hc_64 dX12_lays_64 ?_
    refine mg_if_eq C 94 (by decide) dX12_lays_65 (fun c_ => ?_) (fun c_ => ?_)
    · have h := h.1 c_
      exact mg_sub [0, 1, 2, 3, 4] rfl (sb_lays_94 C hR7 hR36 x1 x2 x3 x4 v f g h)
    · have h := h.2 c_
      refine mg_aload_n C (i := 0) rfl 0 rfl dX12_lays_68 ?_
      refine mg_arr C 38 (by decide) (by decide) rfl mL_alive rfl dX12_lays_69 ?_
      refine mg_aload_n C (i := 0) rfl 0 rfl dX12_lays_72 ?_
      refine mg_getI C (k := 60) (by decide) rfl mL_liveMany rfl dX12_lays_73 ?_
      refine mg_aload_n C (i := 0) rfl 0 rfl dX12_lays_76 ?_
      refine mg_arr C 19 (by decide) (by decide) rfl mL_held rfl dX12_lays_77 ?_
      refine mg_iload C 4 rfl dX12_lays_80 ?_
      obtain ⟨hc_82, h⟩ := h
      refine mg_ialoadR C (n := 20200) 19 (by decide) (by decide) rfl rfl hc_82 dX12_lays_82 ?_
      obtain ⟨hc_83, h⟩ := h
      refine mg_iastoreR C (n := 2424) 38 (by decide) (by decide) rfl rfl hc_83 dX12_lays_83 ?_
      refine mg_nmF (fun f6 e_f6 => ?_)
      have h := h f6 e_f6
      refine mg_aload_n C (i := 0) rfl 0 rfl dX12_lays_84 ?_
      refine mg_dup C rfl dX12_lays_85 ?_
      refine mg_getI C (k := 60) (by decide) rfl mL_liveMany rfl dX12_lays_86 ?_
      refine mg_iconst C (x := nI 1) rfl dX12_lays_89 ?_
      refine mg_iadd C dX12_lays_90 ?_
      refine mg_put C (k := 60) (by decide) rfl mL_liveMany rfl (by decide +kernel) mT_liveMany rfl rfl dX12_lays_91 ?_
      refine mg_nmV (fun v7 e_v7 => ?_)
      have h := h v7 e_v7
      exact mg_sub [0, 1, 2, 3, 4] rfl (sb_lays_94 C hR7 hR36 x1 x2 x3 x4 v7 f6 g h)
set_option maxRecDepth 20000 in
theorem sl_lays_36 (C : mC p s m args meth c cX12_lays 5 none A D cI cJ cZ) {post : mS → Prop} {R7 : Int32 → Int32 → (Nat → Int32) → (Nat → Nat → Int32) → (Nat → Nat → Int64) → Prop} (hR7 : ∀ (x1 : Int32) (x2 : Int32) (v : Nat → Int32) (f : Nat → Nat → Int32) (g : Nat → Nat → Int64), R7 x1 x2 v f g → mG p l e (mRm 0 0) s m args below meth c A D cI cJ cZ a 5 (MQ below (va_Qv post (mB D cI cJ cZ a) A) args s 0 0 A) 7 [(0, .ref (a 0)), (1, .int x1), (2, .int x2)] [] v f g) (x1 : Int32) (x2 : Int32) (x3 : Int32) (x4 : Int32) (v : Nat → Int32) (f : Nat → Nat → Int32) (g : Nat → Nat → Int64) (h : r_lays_36L (fun v f g => post (v, f, g)) R7 x1 x2 x3 x4 v f g) : mG p l e (mRm 0 0) s m args below meth c A D cI cJ cZ a 5 (MQ below (va_Qv post (mB D cI cJ cZ a) A) args s 0 0 A) 36 [(0, .ref (a 0)), (1, .int x1), (2, .int x2), (3, .int x3), (4, .int x4)] [] v f g :=
  h (fun y => mG p l e (mRm 0 0) s m args below meth c A D cI cJ cZ a 5 (MQ below (va_Qv post (mB D cI cJ cZ a) A) args s 0 0 A) 36 [(0, .ref (a 0)), (1, .int (y.1)), (2, .int (y.2.1)), (3, .int (y.2.2.1)), (4, .int (y.2.2.2.1))] [] (y.2.2.2.2.1) (y.2.2.2.2.2.1) (y.2.2.2.2.2.2)) (fun y hy => sb_lays_36 C hR7 (fun b0 b1 b2 b3 v f g z => z) (y.1) (y.2.1) (y.2.2.1) (y.2.2.2.1) (y.2.2.2.2.1) (y.2.2.2.2.2.1) (y.2.2.2.2.2.2) hy)
set_option maxRecDepth 20000 in
theorem sb_lays_7 (C : mC p s m args meth c cX12_lays 5 none A D cI cJ cZ) {post : mS → Prop} {R7 : Int32 → Int32 → (Nat → Int32) → (Nat → Nat → Int32) → (Nat → Nat → Int64) → Prop} (hR7 : ∀ (x1 : Int32) (x2 : Int32) (v : Nat → Int32) (f : Nat → Nat → Int32) (g : Nat → Nat → Int64), R7 x1 x2 v f g → mG p l e (mRm 0 0) s m args below meth c A D cI cJ cZ a 5 (MQ below (va_Qv post (mB D cI cJ cZ a) A) args s 0 0 A) 7 [(0, .ref (a 0)), (1, .int x1), (2, .int x2)] [] v f g) (x1 : Int32) (x2 : Int32) (v : Nat → Int32) (f : Nat → Nat → Int32) (g : Nat → Nat → Int64) (h : r_lays_7 (fun v f g => post (v, f, g)) R7 x1 x2 v f g) : mG p l e (mRm 0 0) s m args below meth c A D cI cJ cZ a 5 (MQ below (va_Qv post (mB D cI cJ cZ a) A) args s 0 0 A) 7 [(0, .ref (a 0)), (1, .int x1), (2, .int x2)] [] v f g := by
  unfold r_lays_7 at h
  refine mg_iload_n C (i := 2) rfl 2 rfl dX12_lays_7 ?_
  refine mg_aload_n C (i := 0) rfl 0 rfl dX12_lays_8 ?_
  refine mg_arr C 31 (by decide) (by decide) rfl mL_lookedMany rfl dX12_lays_9 ?_
  refine mg_iload_n C (i := 1) rfl 1 rfl dX12_lays_12 ?_
  obtain ⟨hc_13, h⟩ := h
  refine mg_ialoadR C (n := 5) 31 (by decide) (by decide) rfl rfl hc_13 dX12_lays_13 ?_
  refine mg_icmp_ge C 106 (by decide) dX12_lays_14 (fun c_ => ?_) (fun c_ => ?_)
  · have h := h.1 c_
    exact mg_vret C h dX12_lays_106
  · have h := h.2 c_
    refine mg_aload_n C (i := 0) rfl 0 rfl dX12_lays_17 ?_
    refine mg_arr C 30 (by decide) (by decide) rfl mL_looked rfl dX12_lays_18 ?_
    refine mg_sipush C (x := nI 202) rfl dX12_lays_21 ?_
    refine mg_iload_n C (i := 1) rfl 1 rfl dX12_lays_24 ?_
    refine mg_imul C dX12_lays_25 ?_
    refine mg_iload_n C (i := 2) rfl 2 rfl dX12_lays_26 ?_
    refine mg_iadd C dX12_lays_27 ?_
    obtain ⟨hc_28, h⟩ := h
    refine mg_ialoadR C (n := 1010) 30 (by decide) (by decide) rfl rfl hc_28 dX12_lays_28 ?_
    refine mg_nmI (fun x3_2 e_x3_2 => ?_)
    have h := h x3_2 e_x3_2
    refine mg_istore_n C (i := 3) (lv' := [(3, .int x3_2), (0, .ref (a 0)), (1, .int x1), (2, .int x2)]) rfl (Nat.le_of_ble_eq_true rfl) rfl dX12_lays_29 ?_
    refine mg_bipush C (x := nI 100) rfl dX12_lays_30 ?_
    refine mg_iload_n C (i := 3) rfl 0 rfl dX12_lays_32 ?_
    refine mg_imul C dX12_lays_33 ?_
    refine mg_nmI (fun x4_3 e_x4_3 => ?_)
    have h := h x4_3 e_x4_3
    refine mg_istore C (lv' := [(4, .int x4_3), (3, .int x3_2), (0, .ref (a 0)), (1, .int x1), (2, .int x2)]) (Nat.le_of_ble_eq_true rfl) rfl dX12_lays_34 ?_
    exact mg_sub [2, 3, 4, 1, 0] rfl (sl_lays_36 C hR7 x1 x2 x3_2 x4_3 v f g h)
set_option maxRecDepth 20000 in
theorem sl_lays_7 (C : mC p s m args meth c cX12_lays 5 none A D cI cJ cZ) {post : mS → Prop}   (x1 : Int32) (x2 : Int32) (v : Nat → Int32) (f : Nat → Nat → Int32) (g : Nat → Nat → Int64) (h : r_lays_7L (fun v f g => post (v, f, g))  x1 x2 v f g) : mG p l e (mRm 0 0) s m args below meth c A D cI cJ cZ a 5 (MQ below (va_Qv post (mB D cI cJ cZ a) A) args s 0 0 A) 7 [(0, .ref (a 0)), (1, .int x1), (2, .int x2)] [] v f g :=
  h (fun y => mG p l e (mRm 0 0) s m args below meth c A D cI cJ cZ a 5 (MQ below (va_Qv post (mB D cI cJ cZ a) A) args s 0 0 A) 7 [(0, .ref (a 0)), (1, .int (y.1)), (2, .int (y.2.1))] [] (y.2.2.1) (y.2.2.2.1) (y.2.2.2.2)) (fun y hy => sb_lays_7 C  (fun b0 b1 v f g z => z) (y.1) (y.2.1) (y.2.2.1) (y.2.2.2.1) (y.2.2.2.2) hy)
end S_lays
set_option maxHeartbeats 1000000 in
set_option maxRecDepth 20000 in
theorem s_lays (l : Launch) (x1 : Int32) (v : Nat → Int32) (f : Nat → Nat → Int32) (g : Nat → Nat → Int64) {P : (Nat → Int32) → (Nat → Nat → Int32) → (Nat → Nat → Int64) → Prop} (h : r_lays P x1 v f g) : mMv l yX12_lays cX12_lays 5 none 0 0 false [.int x1] v f g (fun w => P w.1 w.2.1 w.2.2) := by
  intro D cI cJ cZ a sz
  refine mg_body (by decide +kernel) rfl (Nat.le_of_ble_eq_true rfl) ?_
  intro p e s m args below meth c hsz C
  clear hsz
  generalize va_A (mW cI cJ cZ a v f g) sz = A at C ⊢
  refine mg_lv (lv' := [(0, .ref (a 0)), (1, .int x1)]) rfl ?_
  unfold r_lays at h
  refine mg_aload_n C (i := 0) rfl 0 rfl dX12_lays_0 ?_
  refine mg_iconst C (x := nI 0) rfl dX12_lays_1 ?_
  refine mg_put C (k := 60) (by decide) rfl mL_liveMany rfl (by decide +kernel) mT_liveMany rfl rfl dX12_lays_2 ?_
  refine mg_nmV (fun v1 e_v1 => ?_)
  have h := h v1 e_v1
  refine mg_iconst C (x := nI 0) rfl dX12_lays_5 ?_
  refine mg_istore_n C (i := 2) (lv' := [(2, .int ((nI 0))), (0, .ref (a 0)), (1, .int x1)]) rfl (Nat.le_of_ble_eq_true rfl) rfl dX12_lays_6 ?_
  exact mg_sub [1, 2, 0] rfl (sl_lays_7 C  x1 (((nI 0))) v1 f g h)
def r_documents_17 (Q : Int32 → (Nat → Int32) → (Nat → Nat → Int32) → (Nat → Nat → Int64) → Prop)  (x2 : Int32) (t0 : Int32) (v : Nat → Int32) (f : Nat → Nat → Int32) (g : Nat → Nat → Int64) : Prop :=
r_goes (fun r_2 v_2 f_2 g_2 => 
((¬ r_2 = 0 →
  r_lays (fun v_3 f_3 g_3 => 
  Q ((v_3 60)) v_3 f_3 g_3) x2 v_2 f_2 g_2) ∧
 (r_2 = 0 →
  Q ((nI 0)) v_2 f_2 g_2))) t0 ((nI 1)) ((nI 1)) v f g
def r_documents (Q : Int32 → (Nat → Int32) → (Nat → Nat → Int32) → (Nat → Nat → Int64) → Prop) (x1 : Int32) (v : Nat → Int32) (f : Nat → Nat → Int32) (g : Nat → Nat → Int64) : Prop :=
r_slotOf (fun r_1 v_1 f_1 g_1 => 
((r_1 = (((-1))) →
  r_documents_17 Q  r_1 ((nI 0)) v_1 f_1 g_1) ∧
 (¬ r_1 = (((-1))) →
  r_documents_17 Q  r_1 ((nI 1)) v_1 f_1 g_1))) x1 v f g
section S_documents
variable {p : Program} {l : Launch} {e : Env} {s : State} {m : MethodId} {args : Array Value} {below : List Frame} {meth : Method} {c : Code} {A : Nat → Prop} {D : va_G} {cI cJ cZ : ClassId} {a : Nat → Nat}
set_option maxRecDepth 20000 in
theorem sb_documents_17 (C : mC p s m args meth c cX12_documents 3 (some .int) A D cI cJ cZ) {post : Int32 → mS → Prop}   (x2 : Int32) (t0 : Int32) (v : Nat → Int32) (f : Nat → Nat → Int32) (g : Nat → Nat → Int64) (h : r_documents_17 (fun r v f g => post r (v, f, g))  x2 t0 v f g) : mG p l e (mRm 1 24) s m args below meth c A D cI cJ cZ a 3 (MQ below (va_Qi post (mB D cI cJ cZ a) A) args s 0 0 A) 17 [(0, .ref (a 0)), (2, .int x2)] [.int t0, .ref (a 0)] v f g := by
  unfold r_documents_17 at h
  refine mg_iconst C (x := nI 1) rfl dX12_documents_17 ?_
  refine mg_iconst C (x := nI 1) rfl dX12_documents_18 ?_
  refine mg_calliW C (s_goes l t0 ((nI 1)) ((nI 1)) v f g h) mCal_goes rfl ⟨by decide, by decide⟩ rfl (Nat.le_of_ble_eq_true rfl) dX12_documents_19 (fun r_2 v_2 f_2 g_2 h => ?_)
  refine mg_if_ne C 27 (by decide) dX12_documents_22 (fun c_ => ?_) (fun c_ => ?_)
  · have h := h.1 c_
    refine mg_aload_n C (i := 0) rfl 0 rfl dX12_documents_27 ?_
    refine mg_iload_n C (i := 2) rfl 1 rfl dX12_documents_28 ?_
    refine mg_callvW C (s_lays l x2 v_2 f_2 g_2 h) mCal_lays rfl ⟨by decide, by decide⟩ rfl (Nat.le_of_ble_eq_true rfl) dX12_documents_29 (fun v_3 f_3 g_3 h => ?_)
    refine mg_aload_n C (i := 0) rfl 0 rfl dX12_documents_32 ?_
    refine mg_getI C (k := 60) (by decide) rfl mL_liveMany rfl dX12_documents_33 ?_
    exact mg_iret C h dX12_documents_36
  · have h := h.2 c_
    refine mg_iconst C (x := nI 0) rfl dX12_documents_25 ?_
    exact mg_iret C h dX12_documents_26
end S_documents
set_option maxHeartbeats 1000000 in
set_option maxRecDepth 20000 in
theorem s_documents (l : Launch) (x1 : Int32) (v : Nat → Int32) (f : Nat → Nat → Int32) (g : Nat → Nat → Int64) {P : Int32 → (Nat → Int32) → (Nat → Nat → Int32) → (Nat → Nat → Int64) → Prop} (h : r_documents P x1 v f g) : mMi l yX12_documents cX12_documents 3 (some .int) 1 24 false [.int x1] v f g (fun r w => P r w.1 w.2.1 w.2.2) := by
  intro D cI cJ cZ a sz
  refine mg_body (by decide +kernel) rfl (Nat.le_of_ble_eq_true rfl) ?_
  intro p e s m args below meth c hsz C
  clear hsz
  generalize va_A (mW cI cJ cZ a v f g) sz = A at C ⊢
  refine mg_lv (lv' := [(0, .ref (a 0)), (1, .int x1)]) rfl ?_
  unfold r_documents at h
  refine mg_aload_n C (i := 0) rfl 0 rfl dX12_documents_0 ?_
  refine mg_iload_n C (i := 1) rfl 1 rfl dX12_documents_1 ?_
  refine mg_calliW C (s_slotOf l x1 v f g h) mCal_slotOf rfl ⟨by decide, by decide⟩ rfl (Nat.le_of_ble_eq_true rfl) dX12_documents_2 (fun r_1 v_1 f_1 g_1 h => ?_)
  refine mg_istore_n C (i := 2) (lv' := [(2, .int r_1), (0, .ref (a 0)), (1, .int x1)]) rfl (Nat.le_of_ble_eq_true rfl) rfl dX12_documents_5 ?_
  refine mg_aload_n C (i := 0) rfl 1 rfl dX12_documents_6 ?_
  refine mg_iload_n C (i := 2) rfl 0 rfl dX12_documents_7 ?_
  refine mg_iconst C (x := (-1)) rfl dX12_documents_8 ?_
  refine mg_icmp_eq C 16 (by decide) dX12_documents_9 (fun c_ => ?_) (fun c_ => ?_)
  · have h := h.1 c_
    refine mg_iconst C (x := nI 0) rfl dX12_documents_16 ?_
    exact mg_sub [1, 0] rfl (sb_documents_17 C  r_1 ((nI 0)) v_1 f_1 g_1 h)
  · have h := h.2 c_
    refine mg_iconst C (x := nI 1) rfl dX12_documents_12 ?_
    refine mg_goto C 17 (by decide) dX12_documents_13 ?_
    exact mg_sub [1, 0] rfl (sb_documents_17 C  r_1 ((nI 1)) v_1 f_1 g_1 h)
def r_draftAt (Q : Int32 → (Nat → Int32) → (Nat → Nat → Int32) → (Nat → Nat → Int64) → Prop)  (v : Nat → Int32) (f : Nat → Nat → Int32) (g : Nat → Nat → Int64) : Prop :=
Q ((nI 1920)) v f g
set_option maxHeartbeats 1000000 in
set_option maxRecDepth 20000 in
theorem s_draftAt (l : Launch)  (v : Nat → Int32) (f : Nat → Nat → Int32) (g : Nat → Nat → Int64) {P : Int32 → (Nat → Int32) → (Nat → Nat → Int32) → (Nat → Nat → Int64) → Prop} (h : r_draftAt P  v f g) : mMi l yX12_draftAt cX12_draftAt 0 (some .int) 0 0 true [] v f g (fun r w => P r w.1 w.2.1 w.2.2) := by
  intro D cI cJ cZ a sz
  refine mg_body (by decide +kernel) rfl (Nat.le_of_ble_eq_true rfl) ?_
  intro p e s m args below meth c hsz C
  clear hsz
  generalize va_A (mW cI cJ cZ a v f g) sz = A at C ⊢
  refine mg_lv (lv' := []) rfl ?_
  unfold r_draftAt at h
  refine mg_sipush C (x := nI 1920) rfl dX12_draftAt_0 ?_
  exact mg_iret C h dX12_draftAt_3
def r_hasTokens_75 (Q : Int32 → (Nat → Int32) → (Nat → Nat → Int32) → (Nat → Nat → Int64) → Prop) (R11 : Int32 → Int32 → Int32 → (Nat → Int32) → (Nat → Nat → Int32) → (Nat → Nat → Int64) → Prop) (x1 : Int32) (x2 : Int32) (x3 : Int32) (v : Nat → Int32) (f : Nat → Nat → Int32) (g : Nat → Nat → Int64) : Prop :=
∀ x3_6 : Int32, x3_6 = x3 + nI 1 → R11 x1 x2 x3_6 v f g
def r_hasTokens_11 (Q : Int32 → (Nat → Int32) → (Nat → Nat → Int32) → (Nat → Nat → Int64) → Prop) (R11 : Int32 → Int32 → Int32 → (Nat → Int32) → (Nat → Nat → Int32) → (Nat → Nat → Int64) → Prop) (x1 : Int32) (x2 : Int32) (x3 : Int32) (v : Nat → Int32) (f : Nat → Nat → Int32) (g : Nat → Nat → Int64) : Prop :=
((((v 4)) ≤ x3 →
  r_in (fun r_3 v_3 f_3 g_3 => 
  isZ r_3 ∧ (Q r_3 v_3 f_3 g_3)) ((v 77)) x1 x2 v f g) ∧
 (¬ ((v 4)) ≤ x3 →
  vp_in x3 20 ∧ (r_stem (fun r_4 v_4 f_4 g_4 => 
  r_isStop (fun r_5 v_5 f_5 g_5 => 
  ((¬ r_5 = 0 →
    r_hasTokens_75 Q R11 x1 x2 x3 v_5 f_5 g_5) ∧
   (r_5 = 0 →
    vp_in x3 20 ∧ (r_stem (fun r_7 v_7 f_7 g_7 => 
    vp_in ((v_5 77)) 20 ∧ (∀ g8 : Nat → Nat → Int64, g8 = mU g_7 50 ((v_5 77)).toNatClampNeg r_7 → vp_in ((v_7 77)) 20 ∧ (∀ f9 : Nat → Nat → Int32, f9 = mU f_7 51 ((v_7 77)).toNatClampNeg x3 → ∀ v10 : Nat → Int32, v10 = upd v_7 77 ((((v_7 77)) + ((nI 1)))) → r_hasTokens_75 Q R11 x1 x2 x3 v10 f9 g8))) (g_5 3 (x3).toNatClampNeg) v_5 f_5 g_5)))) r_4 v_4 f_4 g_4) (g 3 (x3).toNatClampNeg) v f g)))
def r_hasTokens_11L (Q : Int32 → (Nat → Int32) → (Nat → Nat → Int32) → (Nat → Nat → Int64) → Prop)  (x1 : Int32) (x2 : Int32) (x3 : Int32) (v : Nat → Int32) (f : Nat → Nat → Int32) (g : Nat → Nat → Int64) : Prop :=
  lfp (X := Int32 × Int32 × Int32 × (Nat → Int32) × (Nat → Nat → Int32) × (Nat → Nat → Int64)) (fun P y => r_hasTokens_11 Q  (fun b0 b1 b2 v f g => P (b0, b1, b2, v, f, g)) y.1 y.2.1 y.2.2.1 y.2.2.2.1 y.2.2.2.2.1 y.2.2.2.2.2) (x1, x2, x3, v, f, g)
def r_hasTokens (Q : Int32 → (Nat → Int32) → (Nat → Nat → Int32) → (Nat → Nat → Int64) → Prop) (x1 : Int32) (x2 : Int32) (v : Nat → Int32) (f : Nat → Nat → Int32) (g : Nat → Nat → Int64) : Prop :=
r_reads (fun v_1 f_1 g_1 => 
∀ v2 : Nat → Int32, v2 = upd v_1 77 ((nI 0)) → r_hasTokens_11L Q  x1 x2 (((nI 0))) v2 f_1 g_1)  v f g
section S_hasTokens
variable {p : Program} {l : Launch} {e : Env} {s : State} {m : MethodId} {args : Array Value} {below : List Frame} {meth : Method} {c : Code} {A : Nat → Prop} {D : va_G} {cI cJ cZ : ClassId} {a : Nat → Nat}
set_option maxRecDepth 20000 in
theorem sb_hasTokens_75 (C : mC p s m args meth c cX12_hasTokens 4 (some .boolean) A D cI cJ cZ) {post : Int32 → mS → Prop} {R11 : Int32 → Int32 → Int32 → (Nat → Int32) → (Nat → Nat → Int32) → (Nat → Nat → Int64) → Prop} (hR11 : ∀ (x1 : Int32) (x2 : Int32) (x3 : Int32) (v : Nat → Int32) (f : Nat → Nat → Int32) (g : Nat → Nat → Int64), R11 x1 x2 x3 v f g → mG p l e (mRm 4 90) s m args below meth c A D cI cJ cZ a 4 (MQ below (va_Qi post (mB D cI cJ cZ a) A) args s 0 0 A) 11 [(0, .ref (a 0)), (1, .int x1), (2, .int x2), (3, .int x3)] [] v f g) (x1 : Int32) (x2 : Int32) (x3 : Int32) (v : Nat → Int32) (f : Nat → Nat → Int32) (g : Nat → Nat → Int64) (h : r_hasTokens_75 (fun r v f g => post r (v, f, g)) R11 x1 x2 x3 v f g) : mG p l e (mRm 4 90) s m args below meth c A D cI cJ cZ a 4 (MQ below (va_Qi post (mB D cI cJ cZ a) A) args s 0 0 A) 75 [(0, .ref (a 0)), (1, .int x1), (2, .int x2), (3, .int x3)] [] v f g := by
  unfold r_hasTokens_75 at h
  obtain ⟨x3_6, e_x3_6⟩ : ∃ z : Int32, z = x3 + nI 1 := ⟨_, rfl⟩
  have h := h x3_6 e_x3_6
  refine mg_iinc C (lv' := [(3, .int x3_6), (0, .ref (a 0)), (1, .int x1), (2, .int x2)]) 3 rfl (by rw [e_x3_6]; rfl) (Nat.le_of_ble_eq_true rfl) rfl dX12_hasTokens_75 ?_
  refine mg_goto C 11 (by decide) dX12_hasTokens_78 ?_
  exact mg_sub [1, 2, 3, 0] rfl (hR11 x1 x2 x3_6 v f g h)
set_option maxRecDepth 20000 in
theorem sb_hasTokens_11 (C : mC p s m args meth c cX12_hasTokens 4 (some .boolean) A D cI cJ cZ) {post : Int32 → mS → Prop} {R11 : Int32 → Int32 → Int32 → (Nat → Int32) → (Nat → Nat → Int32) → (Nat → Nat → Int64) → Prop} (hR11 : ∀ (x1 : Int32) (x2 : Int32) (x3 : Int32) (v : Nat → Int32) (f : Nat → Nat → Int32) (g : Nat → Nat → Int64), R11 x1 x2 x3 v f g → mG p l e (mRm 4 90) s m args below meth c A D cI cJ cZ a 4 (MQ below (va_Qi post (mB D cI cJ cZ a) A) args s 0 0 A) 11 [(0, .ref (a 0)), (1, .int x1), (2, .int x2), (3, .int x3)] [] v f g) (x1 : Int32) (x2 : Int32) (x3 : Int32) (v : Nat → Int32) (f : Nat → Nat → Int32) (g : Nat → Nat → Int64) (h : r_hasTokens_11 (fun r v f g => post r (v, f, g)) R11 x1 x2 x3 v f g) : mG p l e (mRm 4 90) s m args below meth c A D cI cJ cZ a 4 (MQ below (va_Qi post (mB D cI cJ cZ a) A) args s 0 0 A) 11 [(0, .ref (a 0)), (1, .int x1), (2, .int x2), (3, .int x3)] [] v f g := by
  unfold r_hasTokens_11 at h
  refine mg_iload_n C (i := 3) rfl 3 rfl dX12_hasTokens_11 ?_
  refine mg_aload_n C (i := 0) rfl 0 rfl dX12_hasTokens_12 ?_
  refine mg_getI C (k := 4) (by decide) rfl mL_worded rfl dX12_hasTokens_13 ?_
  refine mg_icmp_ge C 81 (by decide) dX12_hasTokens_16 (fun c_ => ?_) (fun c_ => ?_)
  · have h := h.1 c_
    refine mg_aload_n C (i := 0) rfl 0 rfl dX12_hasTokens_81 ?_
    refine mg_getI C (k := 77) (by decide) rfl mL_tokened rfl dX12_hasTokens_82 ?_
    refine mg_iload_n C (i := 1) rfl 1 rfl dX12_hasTokens_85 ?_
    refine mg_iload_n C (i := 2) rfl 2 rfl dX12_hasTokens_86 ?_
    refine mg_callsiW C (s_in l ((v 77)) x1 x2 v f g h) mCal_in rfl ⟨by decide, by decide⟩ rfl (Nat.le_of_ble_eq_true rfl) dX12_hasTokens_87 (fun r_3 v_3 f_3 g_3 h => ?_)
    obtain ⟨hc_90, h⟩ := h
    exact mg_zret C (isZ_nar hc_90) h dX12_hasTokens_90
  · have h := h.2 c_
    refine mg_aload_n C (i := 0) rfl 0 rfl dX12_hasTokens_19 ?_
    refine mg_aload_n C (i := 0) rfl 0 rfl dX12_hasTokens_20 ?_
    refine mg_aload_n C (i := 0) rfl 0 rfl dX12_hasTokens_21 ?_
    refine mg_arr C 3 (by decide) (by decide) rfl mL_words rfl dX12_hasTokens_22 ?_
    refine mg_iload_n C (i := 3) rfl 3 rfl dX12_hasTokens_25 ?_
    obtain ⟨hc_26, h⟩ := h
    refine mg_laloadR C (n := 20) 3 (by decide) (by decide) rfl rfl hc_26 dX12_hasTokens_26 ?_
    refine mg_calllW C (s_stem l (g 3 (x3).toNatClampNeg) v f g h) mCal_stem rfl ⟨by decide, by decide⟩ rfl (Nat.le_of_ble_eq_true rfl) dX12_hasTokens_27 (fun r_4 v_4 f_4 g_4 h => ?_)
    refine mg_calliW C (s_isStop l r_4 v_4 f_4 g_4 h) mCal_isStop rfl ⟨by decide, by decide⟩ rfl (Nat.le_of_ble_eq_true rfl) dX12_hasTokens_30 (fun r_5 v_5 f_5 g_5 h => ?_)
    refine mg_if_ne C 75 (by decide) dX12_hasTokens_33 (fun c_ => ?_) (fun c_ => ?_)
    · have h := h.1 c_
      exact mg_sub [0, 1, 2, 3] rfl (sb_hasTokens_75 C hR11 x1 x2 x3 v_5 f_5 g_5 h)
    · have h := h.2 c_
      refine mg_aload_n C (i := 0) rfl 0 rfl dX12_hasTokens_36 ?_
      refine mg_arr C 50 (by decide) (by decide) rfl mL_tokens rfl dX12_hasTokens_37 ?_
      refine mg_aload_n C (i := 0) rfl 0 rfl dX12_hasTokens_40 ?_
      refine mg_getI C (k := 77) (by decide) rfl mL_tokened rfl dX12_hasTokens_41 ?_
      refine mg_aload_n C (i := 0) rfl 0 rfl dX12_hasTokens_44 ?_
      refine mg_aload_n C (i := 0) rfl 0 rfl dX12_hasTokens_45 ?_
      refine mg_arr C 3 (by decide) (by decide) rfl mL_words rfl dX12_hasTokens_46 ?_
      refine mg_iload_n C (i := 3) rfl 3 rfl dX12_hasTokens_49 ?_
      obtain ⟨hc_50, h⟩ := h
      refine mg_laloadR C (n := 20) 3 (by decide) (by decide) rfl rfl hc_50 dX12_hasTokens_50 ?_
      refine mg_calllW C (s_stem l (g_5 3 (x3).toNatClampNeg) v_5 f_5 g_5 h) mCal_stem rfl ⟨by decide, by decide⟩ rfl (Nat.le_of_ble_eq_true rfl) dX12_hasTokens_51 (fun r_7 v_7 f_7 g_7 h => ?_)
      obtain ⟨hc_54, h⟩ := h
      refine mg_lastoreR C (n := 20) 50 (by decide) (by decide) rfl rfl hc_54 dX12_hasTokens_54 ?_
      refine mg_nmG (fun g8 e_g8 => ?_)
      have h := h g8 e_g8
      refine mg_aload_n C (i := 0) rfl 0 rfl dX12_hasTokens_55 ?_
      refine mg_arr C 51 (by decide) (by decide) rfl mL_tokenPlaces rfl dX12_hasTokens_56 ?_
      refine mg_aload_n C (i := 0) rfl 0 rfl dX12_hasTokens_59 ?_
      refine mg_getI C (k := 77) (by decide) rfl mL_tokened rfl dX12_hasTokens_60 ?_
      refine mg_iload_n C (i := 3) rfl 3 rfl dX12_hasTokens_63 ?_
      obtain ⟨hc_64, h⟩ := h
      refine mg_iastoreR C (n := 20) 51 (by decide) (by decide) rfl rfl hc_64 dX12_hasTokens_64 ?_
      refine mg_nmF (fun f9 e_f9 => ?_)
      have h := h f9 e_f9
      refine mg_aload_n C (i := 0) rfl 0 rfl dX12_hasTokens_65 ?_
      refine mg_dup C rfl dX12_hasTokens_66 ?_
      refine mg_getI C (k := 77) (by decide) rfl mL_tokened rfl dX12_hasTokens_67 ?_
      refine mg_iconst C (x := nI 1) rfl dX12_hasTokens_70 ?_
      refine mg_iadd C dX12_hasTokens_71 ?_
      refine mg_put C (k := 77) (by decide) rfl mL_tokened rfl (by decide +kernel) mT_tokened rfl rfl dX12_hasTokens_72 ?_
      refine mg_nmV (fun v10 e_v10 => ?_)
      have h := h v10 e_v10
      exact mg_sub [0, 1, 2, 3] rfl (sb_hasTokens_75 C hR11 x1 x2 x3 v10 f9 g8 h)
set_option maxRecDepth 20000 in
theorem sl_hasTokens_11 (C : mC p s m args meth c cX12_hasTokens 4 (some .boolean) A D cI cJ cZ) {post : Int32 → mS → Prop}   (x1 : Int32) (x2 : Int32) (x3 : Int32) (v : Nat → Int32) (f : Nat → Nat → Int32) (g : Nat → Nat → Int64) (h : r_hasTokens_11L (fun r v f g => post r (v, f, g))  x1 x2 x3 v f g) : mG p l e (mRm 4 90) s m args below meth c A D cI cJ cZ a 4 (MQ below (va_Qi post (mB D cI cJ cZ a) A) args s 0 0 A) 11 [(0, .ref (a 0)), (1, .int x1), (2, .int x2), (3, .int x3)] [] v f g :=
  h (fun y => mG p l e (mRm 4 90) s m args below meth c A D cI cJ cZ a 4 (MQ below (va_Qi post (mB D cI cJ cZ a) A) args s 0 0 A) 11 [(0, .ref (a 0)), (1, .int (y.1)), (2, .int (y.2.1)), (3, .int (y.2.2.1))] [] (y.2.2.2.1) (y.2.2.2.2.1) (y.2.2.2.2.2)) (fun y hy => sb_hasTokens_11 C  (fun b0 b1 b2 v f g z => z) (y.1) (y.2.1) (y.2.2.1) (y.2.2.2.1) (y.2.2.2.2.1) (y.2.2.2.2.2) hy)
end S_hasTokens
set_option maxHeartbeats 1000000 in
set_option maxRecDepth 20000 in
theorem s_hasTokens (l : Launch) (x1 : Int32) (x2 : Int32) (v : Nat → Int32) (f : Nat → Nat → Int32) (g : Nat → Nat → Int64) {P : Int32 → (Nat → Int32) → (Nat → Nat → Int32) → (Nat → Nat → Int64) → Prop} (h : r_hasTokens P x1 x2 v f g) : mMi l yX12_hasTokens cX12_hasTokens 4 (some .boolean) 4 90 false [.int x1, .int x2] v f g (fun r w => P r w.1 w.2.1 w.2.2) := by
  intro D cI cJ cZ a sz
  refine mg_body (by decide +kernel) rfl (Nat.le_of_ble_eq_true rfl) ?_
  intro p e s m args below meth c hsz C
  clear hsz
  generalize va_A (mW cI cJ cZ a v f g) sz = A at C ⊢
  refine mg_lv (lv' := [(0, .ref (a 0)), (1, .int x1), (2, .int x2)]) rfl ?_
  unfold r_hasTokens at h
  refine mg_aload_n C (i := 0) rfl 0 rfl dX12_hasTokens_0 ?_
  refine mg_callvW C (s_reads l  v f g h) mCal_reads rfl ⟨by decide, by decide⟩ rfl (Nat.le_of_ble_eq_true rfl) dX12_hasTokens_1 (fun v_1 f_1 g_1 h => ?_)
  refine mg_aload_n C (i := 0) rfl 0 rfl dX12_hasTokens_4 ?_
  refine mg_iconst C (x := nI 0) rfl dX12_hasTokens_5 ?_
  refine mg_put C (k := 77) (by decide) rfl mL_tokened rfl (by decide +kernel) mT_tokened rfl rfl dX12_hasTokens_6 ?_
  refine mg_nmV (fun v2 e_v2 => ?_)
  have h := h v2 e_v2
  refine mg_iconst C (x := nI 0) rfl dX12_hasTokens_9 ?_
  refine mg_istore_n C (i := 3) (lv' := [(3, .int ((nI 0))), (0, .ref (a 0)), (1, .int x1), (2, .int x2)]) rfl (Nat.le_of_ble_eq_true rfl) rfl dX12_hasTokens_10 ?_
  exact mg_sub [1, 2, 3, 0] rfl (sl_hasTokens_11 C  x1 x2 (((nI 0))) v2 f_1 g_1 h)
def r_hasRoom (Q : Int32 → (Nat → Int32) → (Nat → Nat → Int32) → (Nat → Nat → Int64) → Prop)  (v : Nat → Int32) (f : Nat → Nat → Int32) (g : Nat → Nat → Int64) : Prop :=
((((nI 8)) ≤ ((v 72)) →
  Q ((bI false)) v f g) ∧
 (¬ ((nI 8)) ≤ ((v 72)) →
  ((((nI 24)) ≤ ((v 71)) →
    Q ((bI false)) v f g) ∧
   (¬ ((nI 24)) ≤ ((v 71)) →
    Q ((bI true)) v f g))))
set_option maxHeartbeats 1000000 in
set_option maxRecDepth 20000 in
theorem s_hasRoom (l : Launch)  (v : Nat → Int32) (f : Nat → Nat → Int32) (g : Nat → Nat → Int64) {P : Int32 → (Nat → Int32) → (Nat → Nat → Int32) → (Nat → Nat → Int64) → Prop} (h : r_hasRoom P  v f g) : mMi l yX12_hasRoom cX12_hasRoom 1 (some .boolean) 0 0 false [] v f g (fun r w => P r w.1 w.2.1 w.2.2) := by
  intro D cI cJ cZ a sz
  refine mg_body (by decide +kernel) rfl (Nat.le_of_ble_eq_true rfl) ?_
  intro p e s m args below meth c hsz C
  clear hsz
  generalize va_A (mW cI cJ cZ a v f g) sz = A at C ⊢
  refine mg_lv (lv' := [(0, .ref (a 0))]) rfl ?_
  unfold r_hasRoom at h
  refine mg_aload_n C (i := 0) rfl 0 rfl dX12_hasRoom_0 ?_
  refine mg_getI C (k := 72) (by decide) rfl mL_partsMany rfl dX12_hasRoom_1 ?_
  refine mg_bipush C (x := nI 8) rfl dX12_hasRoom_4 ?_
  refine mg_icmp_ge C 22 (by decide) dX12_hasRoom_6 (fun c_ => ?_) (fun c_ => ?_)
  · have h := h.1 c_
    refine mg_iconst C (x := nI 0) rfl dX12_hasRoom_22 ?_
    refine mg_cast (bI false) rfl ?_
    exact mg_zret C (bI_nar _) h dX12_hasRoom_23
  · have h := h.2 c_
    refine mg_aload_n C (i := 0) rfl 0 rfl dX12_hasRoom_9 ?_
    refine mg_getI C (k := 71) (by decide) rfl mL_leaves rfl dX12_hasRoom_10 ?_
    refine mg_bipush C (x := nI 24) rfl dX12_hasRoom_13 ?_
    refine mg_icmp_ge C 22 (by decide) dX12_hasRoom_15 (fun c_ => ?_) (fun c_ => ?_)
    · have h := h.1 c_
      refine mg_iconst C (x := nI 0) rfl dX12_hasRoom_22 ?_
      refine mg_cast (bI false) rfl ?_
      exact mg_zret C (bI_nar _) h dX12_hasRoom_23
    · have h := h.2 c_
      refine mg_iconst C (x := nI 1) rfl dX12_hasRoom_18 ?_
      refine mg_goto C 23 (by decide) dX12_hasRoom_19 ?_
      refine mg_cast (bI true) rfl ?_
      exact mg_zret C (bI_nar _) h dX12_hasRoom_23
def r_leaf_149 (Q : Int32 → (Nat → Int32) → (Nat → Nat → Int32) → (Nat → Nat → Int64) → Prop)   (v : Nat → Int32) (f : Nat → Nat → Int32) (g : Nat → Nat → Int64) : Prop :=
vp_in ((nI 40)) 41 ∧ (vp_in ((nI 40)) 41 ∧ (∀ f8 : Nat → Nat → Int32, f8 = mU f 48 ((nI 40)).toNatClampNeg ((((f 48 ((nI 40)).toNatClampNeg)) + ((nI 1)))) → ∀ v9 : Nat → Int32, v9 = upd v 71 ((((v 71)) + ((nI 1)))) → ∀ v10 : Nat → Int32, v10 = upd v9 72 ((((v9 72)) + ((nI 1)))) → ∀ v11 : Nat → Int32, v11 = upd v10 2 ((nI 0)) → Q ((v11 72)) v11 f8 g))
def r_leaf_120 (Q : Int32 → (Nat → Int32) → (Nat → Nat → Int32) → (Nat → Nat → Int64) → Prop)  (x1 : Int32) (x5 : Int32) (v : Nat → Int32) (f : Nat → Nat → Int32) (g : Nat → Nat → Int64) : Prop :=
((x1 < ((nI 3)) →
  r_leaf_149 Q  v f g) ∧
 (¬ x1 < ((nI 3)) →
  vp_in ((nI 0)) 20 ∧ (vp_in ((((nI 6)) * x5)) 11808 ∧ (∀ g12 : Nat → Nat → Int64, g12 = mU g 45 ((((nI 6)) * x5)).toNatClampNeg (g 3 ((nI 0)).toNatClampNeg) → vp_in x5 1968 ∧ (∀ f13 : Nat → Nat → Int32, f13 = mU f 44 (x5).toNatClampNeg ((nI 1)) → r_leaf_149 Q  v f13 g12)))))
def r_leaf_60 (Q : Int32 → (Nat → Int32) → (Nat → Nat → Int32) → (Nat → Nat → Int64) → Prop) (R60 : Int32 → Int32 → Int32 → (Nat → Int32) → (Nat → Nat → Int32) → (Nat → Nat → Int64) → Prop) (x1 : Int32) (x5 : Int32) (x6 : Int32) (v : Nat → Int32) (f : Nat → Nat → Int32) (g : Nat → Nat → Int64) : Prop :=
((((v 77)) ≤ x6 →
  r_leaf_120 Q  x1 x5 v f g) ∧
 (¬ ((v 77)) ≤ x6 →
  ((((nI 3)) ≤ x1 →
    r_leaf_120 Q  x1 x5 v f g) ∧
   (¬ ((nI 3)) ≤ x1 →
    vp_in x6 20 ∧ (vp_in ((((((nI 6)) * x5)) + x6)) 11808 ∧ (∀ g14 : Nat → Nat → Int64, g14 = mU g 45 ((((((nI 6)) * x5)) + x6)).toNatClampNeg (g 50 (x6).toNatClampNeg) → vp_in x6 20 ∧ (vp_in ((((((nI 6)) * x5)) + x6)) 11808 ∧ (∀ f15 : Nat → Nat → Int32, f15 = mU f 46 ((((((nI 6)) * x5)) + x6)).toNatClampNeg ((f 51 (x6).toNatClampNeg)) → ∀ x6_16 : Int32, x6_16 = x6 + nI 1 → R60 x1 x5 x6_16 v f15 g14))))))))
def r_leaf_60L (Q : Int32 → (Nat → Int32) → (Nat → Nat → Int32) → (Nat → Nat → Int64) → Prop)  (x1 : Int32) (x5 : Int32) (x6 : Int32) (v : Nat → Int32) (f : Nat → Nat → Int32) (g : Nat → Nat → Int64) : Prop :=
  lfp (X := Int32 × Int32 × Int32 × (Nat → Int32) × (Nat → Nat → Int32) × (Nat → Nat → Int64)) (fun P y => r_leaf_60 Q  (fun b0 b1 b2 v f g => P (b0, b1, b2, v, f, g)) y.1 y.2.1 y.2.2.1 y.2.2.2.1 y.2.2.2.2.1 y.2.2.2.2.2) (x1, x5, x6, v, f, g)
def r_leaf (Q : Int32 → (Nat → Int32) → (Nat → Nat → Int32) → (Nat → Nat → Int64) → Prop) (x1 : Int32) (x2 : Int32) (x3 : Int32) (x4 : Int32) (v : Nat → Int32) (f : Nat → Nat → Int32) (g : Nat → Nat → Int64) : Prop :=
r_draftAt (fun r_1 v_1 f_1 g_1 => 
vp_in ((nI 40)) 41 ∧ (∀ x5_2 : Int32, x5_2 = (r_1 + ((f_1 48 ((nI 40)).toNatClampNeg))) → vp_in x5_2 1968 ∧ (∀ f3 : Nat → Nat → Int32, f3 = mU f_1 40 (x5_2).toNatClampNeg x1 → vp_in x5_2 1968 ∧ (∀ f4 : Nat → Nat → Int32, f4 = mU f3 41 (x5_2).toNatClampNeg x2 → vp_in x5_2 1968 ∧ (∀ f5 : Nat → Nat → Int32, f5 = mU f4 42 (x5_2).toNatClampNeg x3 → vp_in x5_2 1968 ∧ (isZ x4 ∧ (∀ f6 : Nat → Nat → Int32, f6 = mU f5 43 (x5_2).toNatClampNeg x4 → vp_in x5_2 1968 ∧ (∀ f7 : Nat → Nat → Int32, f7 = mU f6 44 (x5_2).toNatClampNeg ((v_1 77)) → r_leaf_60L Q  x1 x5_2 (((nI 0))) v_1 f7 g_1))))))))  v f g
section S_leaf
variable {p : Program} {l : Launch} {e : Env} {s : State} {m : MethodId} {args : Array Value} {below : List Frame} {meth : Method} {c : Code} {A : Nat → Prop} {D : va_G} {cI cJ cZ : ClassId} {a : Nat → Nat}
set_option maxRecDepth 20000 in
theorem sb_leaf_149 (C : mC p s m args meth c cX12_leaf 7 (some .int) A D cI cJ cZ) {post : Int32 → mS → Prop}    (v : Nat → Int32) (f : Nat → Nat → Int32) (g : Nat → Nat → Int64) (h : r_leaf_149 (fun r v f g => post r (v, f, g))   v f g) : mG p l e (mRm 1 19) s m args below meth c A D cI cJ cZ a 7 (MQ below (va_Qi post (mB D cI cJ cZ a) A) args s 0 0 A) 149 [(0, .ref (a 0))] [] v f g := by
  unfold r_leaf_149 at h
  refine mg_aload_n C (i := 0) rfl 0 rfl dX12_leaf_149 ?_
  refine mg_arr C 48 (by decide) (by decide) rfl mL_opsMany rfl dX12_leaf_150 ?_
  refine mg_bipush C (x := nI 40) rfl dX12_leaf_153 ?_
  refine mg_dup2 C rfl rfl dX12_leaf_155 ?_
  obtain ⟨hc_156, h⟩ := h
  refine mg_ialoadR C (n := 41) 48 (by decide) (by decide) rfl rfl hc_156 dX12_leaf_156 ?_
  refine mg_iconst C (x := nI 1) rfl dX12_leaf_157 ?_
  refine mg_iadd C dX12_leaf_158 ?_
  obtain ⟨hc_159, h⟩ := h
  refine mg_iastoreR C (n := 41) 48 (by decide) (by decide) rfl rfl hc_159 dX12_leaf_159 ?_
  refine mg_nmF (fun f8 e_f8 => ?_)
  have h := h f8 e_f8
  refine mg_aload_n C (i := 0) rfl 0 rfl dX12_leaf_160 ?_
  refine mg_dup C rfl dX12_leaf_161 ?_
  refine mg_getI C (k := 71) (by decide) rfl mL_leaves rfl dX12_leaf_162 ?_
  refine mg_iconst C (x := nI 1) rfl dX12_leaf_165 ?_
  refine mg_iadd C dX12_leaf_166 ?_
  refine mg_put C (k := 71) (by decide) rfl mL_leaves rfl (by decide +kernel) mT_leaves rfl rfl dX12_leaf_167 ?_
  refine mg_nmV (fun v9 e_v9 => ?_)
  have h := h v9 e_v9
  refine mg_aload_n C (i := 0) rfl 0 rfl dX12_leaf_170 ?_
  refine mg_dup C rfl dX12_leaf_171 ?_
  refine mg_getI C (k := 72) (by decide) rfl mL_partsMany rfl dX12_leaf_172 ?_
  refine mg_iconst C (x := nI 1) rfl dX12_leaf_175 ?_
  refine mg_iadd C dX12_leaf_176 ?_
  refine mg_put C (k := 72) (by decide) rfl mL_partsMany rfl (by decide +kernel) mT_partsMany rfl rfl dX12_leaf_177 ?_
  refine mg_nmV (fun v10 e_v10 => ?_)
  have h := h v10 e_v10
  refine mg_aload_n C (i := 0) rfl 0 rfl dX12_leaf_180 ?_
  refine mg_iconst C (x := nI 0) rfl dX12_leaf_181 ?_
  refine mg_put C (k := 2) (by decide) rfl mL_padded rfl (by decide +kernel) mT_padded rfl rfl dX12_leaf_182 ?_
  refine mg_nmV (fun v11 e_v11 => ?_)
  have h := h v11 e_v11
  refine mg_aload_n C (i := 0) rfl 0 rfl dX12_leaf_185 ?_
  refine mg_getI C (k := 72) (by decide) rfl mL_partsMany rfl dX12_leaf_186 ?_
  exact mg_iret C h dX12_leaf_189
set_option maxRecDepth 20000 in
theorem sb_leaf_120 (C : mC p s m args meth c cX12_leaf 7 (some .int) A D cI cJ cZ) {post : Int32 → mS → Prop}   (x1 : Int32) (x5 : Int32) (v : Nat → Int32) (f : Nat → Nat → Int32) (g : Nat → Nat → Int64) (h : r_leaf_120 (fun r v f g => post r (v, f, g))  x1 x5 v f g) : mG p l e (mRm 1 19) s m args below meth c A D cI cJ cZ a 7 (MQ below (va_Qi post (mB D cI cJ cZ a) A) args s 0 0 A) 120 [(0, .ref (a 0)), (1, .int x1), (5, .int x5)] [] v f g := by
  unfold r_leaf_120 at h
  refine mg_iload_n C (i := 1) rfl 1 rfl dX12_leaf_120 ?_
  refine mg_iconst C (x := nI 3) rfl dX12_leaf_121 ?_
  refine mg_icmp_lt C 149 (by decide) dX12_leaf_122 (fun c_ => ?_) (fun c_ => ?_)
  · have h := h.1 c_
    exact mg_sub [0] rfl (sb_leaf_149 C  v f g h)
  · have h := h.2 c_
    refine mg_aload_n C (i := 0) rfl 0 rfl dX12_leaf_125 ?_
    refine mg_arr C 45 (by decide) (by decide) rfl mL_leafTokens rfl dX12_leaf_126 ?_
    refine mg_bipush C (x := nI 6) rfl dX12_leaf_129 ?_
    refine mg_iload C 2 rfl dX12_leaf_131 ?_
    refine mg_imul C dX12_leaf_133 ?_
    refine mg_aload_n C (i := 0) rfl 0 rfl dX12_leaf_134 ?_
    refine mg_arr C 3 (by decide) (by decide) rfl mL_words rfl dX12_leaf_135 ?_
    refine mg_iconst C (x := nI 0) rfl dX12_leaf_138 ?_
    obtain ⟨hc_139, h⟩ := h
    refine mg_laloadR C (n := 20) 3 (by decide) (by decide) rfl rfl hc_139 dX12_leaf_139 ?_
    obtain ⟨hc_140, h⟩ := h
    refine mg_lastoreR C (n := 11808) 45 (by decide) (by decide) rfl rfl hc_140 dX12_leaf_140 ?_
    refine mg_nmG (fun g12 e_g12 => ?_)
    have h := h g12 e_g12
    refine mg_aload_n C (i := 0) rfl 0 rfl dX12_leaf_141 ?_
    refine mg_arr C 44 (by decide) (by decide) rfl mL_many rfl dX12_leaf_142 ?_
    refine mg_iload C 2 rfl dX12_leaf_145 ?_
    refine mg_iconst C (x := nI 1) rfl dX12_leaf_147 ?_
    obtain ⟨hc_148, h⟩ := h
    refine mg_iastoreR C (n := 1968) 44 (by decide) (by decide) rfl rfl hc_148 dX12_leaf_148 ?_
    refine mg_nmF (fun f13 e_f13 => ?_)
    have h := h f13 e_f13
    exact mg_sub [0] rfl (sb_leaf_149 C  v f13 g12 h)
set_option maxRecDepth 20000 in
theorem sb_leaf_60 (C : mC p s m args meth c cX12_leaf 7 (some .int) A D cI cJ cZ) {post : Int32 → mS → Prop} {R60 : Int32 → Int32 → Int32 → (Nat → Int32) → (Nat → Nat → Int32) → (Nat → Nat → Int64) → Prop} (hR60 : ∀ (x1 : Int32) (x5 : Int32) (x6 : Int32) (v : Nat → Int32) (f : Nat → Nat → Int32) (g : Nat → Nat → Int64), R60 x1 x5 x6 v f g → mG p l e (mRm 1 19) s m args below meth c A D cI cJ cZ a 7 (MQ below (va_Qi post (mB D cI cJ cZ a) A) args s 0 0 A) 60 [(0, .ref (a 0)), (1, .int x1), (5, .int x5), (6, .int x6)] [] v f g) (x1 : Int32) (x5 : Int32) (x6 : Int32) (v : Nat → Int32) (f : Nat → Nat → Int32) (g : Nat → Nat → Int64) (h : r_leaf_60 (fun r v f g => post r (v, f, g)) R60 x1 x5 x6 v f g) : mG p l e (mRm 1 19) s m args below meth c A D cI cJ cZ a 7 (MQ below (va_Qi post (mB D cI cJ cZ a) A) args s 0 0 A) 60 [(0, .ref (a 0)), (1, .int x1), (5, .int x5), (6, .int x6)] [] v f g := by
  unfold r_leaf_60 at h
  refine mg_iload C 3 rfl dX12_leaf_60 ?_
  refine mg_aload_n C (i := 0) rfl 0 rfl dX12_leaf_62 ?_
  refine mg_getI C (k := 77) (by decide) rfl mL_tokened rfl dX12_leaf_63 ?_
  refine mg_icmp_ge C 120 (by decide) dX12_leaf_66 (fun c_ => ?_) (fun c_ => ?_)
  · have h := h.1 c_
    exact mg_sub [0, 1, 2] rfl (sb_leaf_120 C  x1 x5 v f g h)
  · have h := h.2 c_
    refine mg_iload_n C (i := 1) rfl 1 rfl dX12_leaf_69 ?_
    refine mg_iconst C (x := nI 3) rfl dX12_leaf_70 ?_
    refine mg_icmp_ge C 120 (by decide) dX12_leaf_71 (fun c_ => ?_) (fun c_ => ?_)
    · have h := h.1 c_
      exact mg_sub [0, 1, 2] rfl (sb_leaf_120 C  x1 x5 v f g h)
    · have h := h.2 c_
      refine mg_aload_n C (i := 0) rfl 0 rfl dX12_leaf_74 ?_
      refine mg_arr C 45 (by decide) (by decide) rfl mL_leafTokens rfl dX12_leaf_75 ?_
      refine mg_bipush C (x := nI 6) rfl dX12_leaf_78 ?_
      refine mg_iload C 2 rfl dX12_leaf_80 ?_
      refine mg_imul C dX12_leaf_82 ?_
      refine mg_iload C 3 rfl dX12_leaf_83 ?_
      refine mg_iadd C dX12_leaf_85 ?_
      refine mg_aload_n C (i := 0) rfl 0 rfl dX12_leaf_86 ?_
      refine mg_arr C 50 (by decide) (by decide) rfl mL_tokens rfl dX12_leaf_87 ?_
      refine mg_iload C 3 rfl dX12_leaf_90 ?_
      obtain ⟨hc_92, h⟩ := h
      refine mg_laloadR C (n := 20) 50 (by decide) (by decide) rfl rfl hc_92 dX12_leaf_92 ?_
      obtain ⟨hc_93, h⟩ := h
      refine mg_lastoreR C (n := 11808) 45 (by decide) (by decide) rfl rfl hc_93 dX12_leaf_93 ?_
      refine mg_nmG (fun g14 e_g14 => ?_)
      have h := h g14 e_g14
      refine mg_aload_n C (i := 0) rfl 0 rfl dX12_leaf_94 ?_
      refine mg_arr C 46 (by decide) (by decide) rfl mL_leafPlaces rfl dX12_leaf_95 ?_
      refine mg_bipush C (x := nI 6) rfl dX12_leaf_98 ?_
      refine mg_iload C 2 rfl dX12_leaf_100 ?_
      refine mg_imul C dX12_leaf_102 ?_
      refine mg_iload C 3 rfl dX12_leaf_103 ?_
      refine mg_iadd C dX12_leaf_105 ?_
      refine mg_aload_n C (i := 0) rfl 0 rfl dX12_leaf_106 ?_
      refine mg_arr C 51 (by decide) (by decide) rfl mL_tokenPlaces rfl dX12_leaf_107 ?_
      refine mg_iload C 3 rfl dX12_leaf_110 ?_
      obtain ⟨hc_112, h⟩ := h
      refine mg_ialoadR C (n := 20) 51 (by decide) (by decide) rfl rfl hc_112 dX12_leaf_112 ?_
      obtain ⟨hc_113, h⟩ := h
      refine mg_iastoreR C (n := 11808) 46 (by decide) (by decide) rfl rfl hc_113 dX12_leaf_113 ?_
      refine mg_nmF (fun f15 e_f15 => ?_)
      have h := h f15 e_f15
      obtain ⟨x6_16, e_x6_16⟩ : ∃ z : Int32, z = x6 + nI 1 := ⟨_, rfl⟩
      have h := h x6_16 e_x6_16
      refine mg_iinc C (lv' := [(6, .int x6_16), (0, .ref (a 0)), (1, .int x1), (5, .int x5)]) 3 rfl (by rw [e_x6_16]; rfl) (Nat.le_of_ble_eq_true rfl) rfl dX12_leaf_114 ?_
      refine mg_goto C 60 (by decide) dX12_leaf_117 ?_
      exact mg_sub [1, 2, 3, 0] rfl (hR60 x1 x5 x6_16 v f15 g14 h)
set_option maxRecDepth 20000 in
theorem sl_leaf_60 (C : mC p s m args meth c cX12_leaf 7 (some .int) A D cI cJ cZ) {post : Int32 → mS → Prop}   (x1 : Int32) (x5 : Int32) (x6 : Int32) (v : Nat → Int32) (f : Nat → Nat → Int32) (g : Nat → Nat → Int64) (h : r_leaf_60L (fun r v f g => post r (v, f, g))  x1 x5 x6 v f g) : mG p l e (mRm 1 19) s m args below meth c A D cI cJ cZ a 7 (MQ below (va_Qi post (mB D cI cJ cZ a) A) args s 0 0 A) 60 [(0, .ref (a 0)), (1, .int x1), (5, .int x5), (6, .int x6)] [] v f g :=
  h (fun y => mG p l e (mRm 1 19) s m args below meth c A D cI cJ cZ a 7 (MQ below (va_Qi post (mB D cI cJ cZ a) A) args s 0 0 A) 60 [(0, .ref (a 0)), (1, .int (y.1)), (5, .int (y.2.1)), (6, .int (y.2.2.1))] [] (y.2.2.2.1) (y.2.2.2.2.1) (y.2.2.2.2.2)) (fun y hy => sb_leaf_60 C  (fun b0 b1 b2 v f g z => z) (y.1) (y.2.1) (y.2.2.1) (y.2.2.2.1) (y.2.2.2.2.1) (y.2.2.2.2.2) hy)
end S_leaf
set_option maxHeartbeats 1000000 in
set_option maxRecDepth 20000 in
theorem s_leaf (l : Launch) (x1 : Int32) (x2 : Int32) (x3 : Int32) (x4 : Int32) (v : Nat → Int32) (f : Nat → Nat → Int32) (g : Nat → Nat → Int64) {P : Int32 → (Nat → Int32) → (Nat → Nat → Int32) → (Nat → Nat → Int64) → Prop} (h : r_leaf P x1 x2 x3 x4 v f g) : mMi l yX12_leaf cX12_leaf 7 (some .int) 1 19 false [.int x1, .int x2, .int x3, .int x4] v f g (fun r w => P r w.1 w.2.1 w.2.2) := by
  intro D cI cJ cZ a sz
  refine mg_body (by decide +kernel) rfl (Nat.le_of_ble_eq_true rfl) ?_
  intro p e s m args below meth c hsz C
  clear hsz
  generalize va_A (mW cI cJ cZ a v f g) sz = A at C ⊢
  refine mg_lv (lv' := [(0, .ref (a 0)), (1, .int x1), (2, .int x2), (3, .int x3), (4, .int x4)]) rfl ?_
  unfold r_leaf at h
  refine mg_callsiW C (s_draftAt l  v f g h) mCal_draftAt rfl ⟨by decide, by decide⟩ rfl (Nat.le_of_ble_eq_true rfl) dX12_leaf_0 (fun r_1 v_1 f_1 g_1 h => ?_)
  refine mg_aload_n C (i := 0) rfl 0 rfl dX12_leaf_3 ?_
  refine mg_arr C 48 (by decide) (by decide) rfl mL_opsMany rfl dX12_leaf_4 ?_
  refine mg_bipush C (x := nI 40) rfl dX12_leaf_7 ?_
  obtain ⟨hc_9, h⟩ := h
  refine mg_ialoadR C (n := 41) 48 (by decide) (by decide) rfl rfl hc_9 dX12_leaf_9 ?_
  refine mg_iadd C dX12_leaf_10 ?_
  refine mg_nmI (fun x5_2 e_x5_2 => ?_)
  have h := h x5_2 e_x5_2
  refine mg_istore C (lv' := [(5, .int x5_2), (0, .ref (a 0)), (1, .int x1), (2, .int x2), (3, .int x3), (4, .int x4)]) (Nat.le_of_ble_eq_true rfl) rfl dX12_leaf_11 ?_
  refine mg_aload_n C (i := 0) rfl 1 rfl dX12_leaf_13 ?_
  refine mg_arr C 40 (by decide) (by decide) rfl mL_kinds rfl dX12_leaf_14 ?_
  refine mg_iload C 0 rfl dX12_leaf_17 ?_
  refine mg_iload_n C (i := 1) rfl 2 rfl dX12_leaf_19 ?_
  obtain ⟨hc_20, h⟩ := h
  refine mg_iastoreR C (n := 1968) 40 (by decide) (by decide) rfl rfl hc_20 dX12_leaf_20 ?_
  refine mg_nmF (fun f3 e_f3 => ?_)
  have h := h f3 e_f3
  refine mg_aload_n C (i := 0) rfl 1 rfl dX12_leaf_21 ?_
  refine mg_arr C 41 (by decide) (by decide) rfl mL_fields rfl dX12_leaf_22 ?_
  refine mg_iload C 0 rfl dX12_leaf_25 ?_
  refine mg_iload_n C (i := 2) rfl 3 rfl dX12_leaf_27 ?_
  obtain ⟨hc_28, h⟩ := h
  refine mg_iastoreR C (n := 1968) 41 (by decide) (by decide) rfl rfl hc_28 dX12_leaf_28 ?_
  refine mg_nmF (fun f4 e_f4 => ?_)
  have h := h f4 e_f4
  refine mg_aload_n C (i := 0) rfl 1 rfl dX12_leaf_29 ?_
  refine mg_arr C 42 (by decide) (by decide) rfl mL_amounts rfl dX12_leaf_30 ?_
  refine mg_iload C 0 rfl dX12_leaf_33 ?_
  refine mg_iload_n C (i := 3) rfl 4 rfl dX12_leaf_35 ?_
  obtain ⟨hc_36, h⟩ := h
  refine mg_iastoreR C (n := 1968) 42 (by decide) (by decide) rfl rfl hc_36 dX12_leaf_36 ?_
  refine mg_nmF (fun f5 e_f5 => ?_)
  have h := h f5 e_f5
  refine mg_aload_n C (i := 0) rfl 1 rfl dX12_leaf_37 ?_
  refine mg_arr C 43 (by decide) (by decide) rfl mL_ordered rfl dX12_leaf_38 ?_
  refine mg_iload C 0 rfl dX12_leaf_41 ?_
  refine mg_iload C 5 rfl dX12_leaf_43 ?_
  obtain ⟨hc_45, h⟩ := h
  obtain ⟨hz_45, h⟩ := h
  refine mg_bastoreR C (n := 1968) 43 (by decide) (by decide) rfl rfl hc_45 (isZ_vp hz_45) dX12_leaf_45 ?_
  refine mg_nmF (fun f6 e_f6 => ?_)
  have h := h f6 e_f6
  refine mg_aload_n C (i := 0) rfl 1 rfl dX12_leaf_46 ?_
  refine mg_arr C 44 (by decide) (by decide) rfl mL_many rfl dX12_leaf_47 ?_
  refine mg_iload C 0 rfl dX12_leaf_50 ?_
  refine mg_aload_n C (i := 0) rfl 1 rfl dX12_leaf_52 ?_
  refine mg_getI C (k := 77) (by decide) rfl mL_tokened rfl dX12_leaf_53 ?_
  obtain ⟨hc_56, h⟩ := h
  refine mg_iastoreR C (n := 1968) 44 (by decide) (by decide) rfl rfl hc_56 dX12_leaf_56 ?_
  refine mg_nmF (fun f7 e_f7 => ?_)
  have h := h f7 e_f7
  refine mg_iconst C (x := nI 0) rfl dX12_leaf_57 ?_
  refine mg_istore C (lv' := [(6, .int ((nI 0))), (5, .int x5_2), (0, .ref (a 0)), (1, .int x1), (2, .int x2), (3, .int x3), (4, .int x4)]) (Nat.le_of_ble_eq_true rfl) rfl dX12_leaf_58 ?_
  exact mg_sub [2, 3, 1, 0] rfl (sl_leaf_60 C  x1 x5_2 (((nI 0))) v_1 f7 g_1 h)
def r_term_27 (Q : Int32 → (Nat → Int32) → (Nat → Nat → Int32) → (Nat → Nat → Int64) → Prop)  (x1 : Int32) (t0 : Int32) (t1 : Int32) (v : Nat → Int32) (f : Nat → Nat → Int32) (g : Nat → Nat → Int64) : Prop :=
r_goes (fun r_3 v_3 f_3 g_3 => 
((r_3 = 0 →
  Q ((nI 0)) v_3 f_3 g_3) ∧
 (¬ r_3 = 0 →
  r_leaf (fun r_4 v_4 f_4 g_4 => 
  Q r_4 v_4 f_4 g_4) ((nI 0)) x1 ((nI 0)) ((nI 0)) v_3 f_3 g_3))) t1 t0 ((nI 1)) v f g
def r_term_26 (Q : Int32 → (Nat → Int32) → (Nat → Nat → Int32) → (Nat → Nat → Int64) → Prop)  (x1 : Int32) (t0 : Int32) (v : Nat → Int32) (f : Nat → Nat → Int32) (g : Nat → Nat → Int64) : Prop :=
r_term_27 Q  x1 ((nI 0)) t0 v f g
def r_term (Q : Int32 → (Nat → Int32) → (Nat → Nat → Int32) → (Nat → Nat → Int64) → Prop) (x1 : Int32) (v : Nat → Int32) (f : Nat → Nat → Int32) (g : Nat → Nat → Int64) : Prop :=
r_isField (fun r_1 v_1 f_1 g_1 => 
r_hasTokens (fun r_2 v_2 f_2 g_2 => 
((r_2 = 0 →
  r_term_26 Q  x1 r_1 v_2 f_2 g_2) ∧
 (¬ r_2 = 0 →
  r_hasRoom (fun r_5 v_5 f_5 g_5 => 
  ((r_5 = 0 →
    r_term_26 Q  x1 r_1 v_5 f_5 g_5) ∧
   (¬ r_5 = 0 →
    r_term_27 Q  x1 ((nI 1)) r_1 v_5 f_5 g_5)))  v_2 f_2 g_2))) ((nI 1)) ((nI 1)) v_1 f_1 g_1) x1 v f g
section S_term
variable {p : Program} {l : Launch} {e : Env} {s : State} {m : MethodId} {args : Array Value} {below : List Frame} {meth : Method} {c : Code} {A : Nat → Prop} {D : va_G} {cI cJ cZ : ClassId} {a : Nat → Nat}
set_option maxRecDepth 20000 in
theorem sb_term_27 (C : mC p s m args meth c cX12_term 2 (some .int) A D cI cJ cZ) {post : Int32 → mS → Prop}   (x1 : Int32) (t0 : Int32) (t1 : Int32) (v : Nat → Int32) (f : Nat → Nat → Int32) (g : Nat → Nat → Int64) (h : r_term_27 (fun r v f g => post r (v, f, g))  x1 t0 t1 v f g) : mG p l e (mRm 5 113) s m args below meth c A D cI cJ cZ a 2 (MQ below (va_Qi post (mB D cI cJ cZ a) A) args s 0 0 A) 27 [(0, .ref (a 0)), (1, .int x1)] [.int t0, .int t1, .ref (a 0)] v f g := by
  unfold r_term_27 at h
  refine mg_iconst C (x := nI 1) rfl dX12_term_27 ?_
  refine mg_calliW C (s_goes l t1 t0 ((nI 1)) v f g h) mCal_goes rfl ⟨by decide, by decide⟩ rfl (Nat.le_of_ble_eq_true rfl) dX12_term_28 (fun r_3 v_3 f_3 g_3 h => ?_)
  refine mg_if_eq C 45 (by decide) dX12_term_31 (fun c_ => ?_) (fun c_ => ?_)
  · have h := h.1 c_
    refine mg_iconst C (x := nI 0) rfl dX12_term_45 ?_
    exact mg_iret C h dX12_term_46
  · have h := h.2 c_
    refine mg_aload_n C (i := 0) rfl 0 rfl dX12_term_34 ?_
    refine mg_iconst C (x := nI 0) rfl dX12_term_35 ?_
    refine mg_iload_n C (i := 1) rfl 1 rfl dX12_term_36 ?_
    refine mg_iconst C (x := nI 0) rfl dX12_term_37 ?_
    refine mg_iconst C (x := nI 0) rfl dX12_term_38 ?_
    refine mg_calliW C (s_leaf l ((nI 0)) x1 ((nI 0)) ((nI 0)) v_3 f_3 g_3 h) mCal_leaf rfl ⟨by decide, by decide⟩ rfl (Nat.le_of_ble_eq_true rfl) dX12_term_39 (fun r_4 v_4 f_4 g_4 h => ?_)
    refine mg_goto C 46 (by decide) dX12_term_42 ?_
    exact mg_iret C h dX12_term_46
set_option maxRecDepth 20000 in
theorem sb_term_26 (C : mC p s m args meth c cX12_term 2 (some .int) A D cI cJ cZ) {post : Int32 → mS → Prop}   (x1 : Int32) (t0 : Int32) (v : Nat → Int32) (f : Nat → Nat → Int32) (g : Nat → Nat → Int64) (h : r_term_26 (fun r v f g => post r (v, f, g))  x1 t0 v f g) : mG p l e (mRm 5 113) s m args below meth c A D cI cJ cZ a 2 (MQ below (va_Qi post (mB D cI cJ cZ a) A) args s 0 0 A) 26 [(0, .ref (a 0)), (1, .int x1)] [.int t0, .ref (a 0)] v f g := by
  unfold r_term_26 at h
  refine mg_iconst C (x := nI 0) rfl dX12_term_26 ?_
  exact mg_sub [0, 1] rfl (sb_term_27 C  x1 ((nI 0)) t0 v f g h)
end S_term
set_option maxHeartbeats 1000000 in
set_option maxRecDepth 20000 in
theorem s_term (l : Launch) (x1 : Int32) (v : Nat → Int32) (f : Nat → Nat → Int32) (g : Nat → Nat → Int64) {P : Int32 → (Nat → Int32) → (Nat → Nat → Int32) → (Nat → Nat → Int64) → Prop} (h : r_term P x1 v f g) : mMi l yX12_term cX12_term 2 (some .int) 5 113 false [.int x1] v f g (fun r w => P r w.1 w.2.1 w.2.2) := by
  intro D cI cJ cZ a sz
  refine mg_body (by decide +kernel) rfl (Nat.le_of_ble_eq_true rfl) ?_
  intro p e s m args below meth c hsz C
  clear hsz
  generalize va_A (mW cI cJ cZ a v f g) sz = A at C ⊢
  refine mg_lv (lv' := [(0, .ref (a 0)), (1, .int x1)]) rfl ?_
  unfold r_term at h
  refine mg_aload_n C (i := 0) rfl 0 rfl dX12_term_0 ?_
  refine mg_aload_n C (i := 0) rfl 0 rfl dX12_term_1 ?_
  refine mg_iload_n C (i := 1) rfl 1 rfl dX12_term_2 ?_
  refine mg_calliW C (s_isField l x1 v f g h) mCal_isField rfl ⟨by decide, by decide⟩ rfl (Nat.le_of_ble_eq_true rfl) dX12_term_3 (fun r_1 v_1 f_1 g_1 h => ?_)
  refine mg_aload_n C (i := 0) rfl 0 rfl dX12_term_6 ?_
  refine mg_iconst C (x := nI 1) rfl dX12_term_7 ?_
  refine mg_iconst C (x := nI 1) rfl dX12_term_8 ?_
  refine mg_calliW C (s_hasTokens l ((nI 1)) ((nI 1)) v_1 f_1 g_1 h) mCal_hasTokens rfl ⟨by decide, by decide⟩ rfl (Nat.le_of_ble_eq_true rfl) dX12_term_9 (fun r_2 v_2 f_2 g_2 h => ?_)
  refine mg_if_eq C 26 (by decide) dX12_term_12 (fun c_ => ?_) (fun c_ => ?_)
  · have h := h.1 c_
    exact mg_sub [0, 1] rfl (sb_term_26 C  x1 r_1 v_2 f_2 g_2 h)
  · have h := h.2 c_
    refine mg_aload_n C (i := 0) rfl 0 rfl dX12_term_15 ?_
    refine mg_calliW C (s_hasRoom l  v_2 f_2 g_2 h) mCal_hasRoom rfl ⟨by decide, by decide⟩ rfl (Nat.le_of_ble_eq_true rfl) dX12_term_16 (fun r_5 v_5 f_5 g_5 h => ?_)
    refine mg_if_eq C 26 (by decide) dX12_term_19 (fun c_ => ?_) (fun c_ => ?_)
    · have h := h.1 c_
      exact mg_sub [0, 1] rfl (sb_term_26 C  x1 r_1 v_5 f_5 g_5 h)
    · have h := h.2 c_
      refine mg_iconst C (x := nI 1) rfl dX12_term_22 ?_
      refine mg_goto C 27 (by decide) dX12_term_23 ?_
      exact mg_sub [0, 1] rfl (sb_term_27 C  x1 ((nI 1)) r_1 v_5 f_5 g_5 h)
def r_phrase_35 (Q : Int32 → (Nat → Int32) → (Nat → Nat → Int32) → (Nat → Nat → Int64) → Prop)  (x1 : Int32) (x2 : Int32) (t0 : Int32) (t1 : Int32) (t2 : Int32) (v : Nat → Int32) (f : Nat → Nat → Int32) (g : Nat → Nat → Int64) : Prop :=
r_goes (fun r_4 v_4 f_4 g_4 => 
((r_4 = 0 →
  Q ((nI 0)) v_4 f_4 g_4) ∧
 (¬ r_4 = 0 →
  r_leaf (fun r_5 v_5 f_5 g_5 => 
  Q r_5 v_5 f_5 g_5) ((nI 1)) x1 x2 ((nI 0)) v_4 f_4 g_4))) t2 t1 t0 v f g
def r_phrase_34 (Q : Int32 → (Nat → Int32) → (Nat → Nat → Int32) → (Nat → Nat → Int64) → Prop)  (x1 : Int32) (x2 : Int32) (t0 : Int32) (t1 : Int32) (v : Nat → Int32) (f : Nat → Nat → Int32) (g : Nat → Nat → Int64) : Prop :=
r_phrase_35 Q  x1 x2 ((nI 0)) t0 t1 v f g
def r_phrase (Q : Int32 → (Nat → Int32) → (Nat → Nat → Int32) → (Nat → Nat → Int64) → Prop) (x1 : Int32) (x2 : Int32) (v : Nat → Int32) (f : Nat → Nat → Int32) (g : Nat → Nat → Int64) : Prop :=
r_isField (fun r_1 v_1 f_1 g_1 => 
r_in (fun r_2 v_2 f_2 g_2 => 
r_hasTokens (fun r_3 v_3 f_3 g_3 => 
((r_3 = 0 →
  r_phrase_34 Q  x1 x2 r_2 r_1 v_3 f_3 g_3) ∧
 (¬ r_3 = 0 →
  r_hasRoom (fun r_6 v_6 f_6 g_6 => 
  ((r_6 = 0 →
    r_phrase_34 Q  x1 x2 r_2 r_1 v_6 f_6 g_6) ∧
   (¬ r_6 = 0 →
    r_phrase_35 Q  x1 x2 ((nI 1)) r_2 r_1 v_6 f_6 g_6)))  v_3 f_3 g_3))) ((nI 1)) ((nI 6)) v_2 f_2 g_2) x2 ((nI 0)) ((nI 20)) v_1 f_1 g_1) x1 v f g
section S_phrase
variable {p : Program} {l : Launch} {e : Env} {s : State} {m : MethodId} {args : Array Value} {below : List Frame} {meth : Method} {c : Code} {A : Nat → Prop} {D : va_G} {cI cJ cZ : ClassId} {a : Nat → Nat}
set_option maxRecDepth 20000 in
theorem sb_phrase_35 (C : mC p s m args meth c cX12_phrase 3 (some .int) A D cI cJ cZ) {post : Int32 → mS → Prop}   (x1 : Int32) (x2 : Int32) (t0 : Int32) (t1 : Int32) (t2 : Int32) (v : Nat → Int32) (f : Nat → Nat → Int32) (g : Nat → Nat → Int64) (h : r_phrase_35 (fun r v f g => post r (v, f, g))  x1 x2 t0 t1 t2 v f g) : mG p l e (mRm 5 113) s m args below meth c A D cI cJ cZ a 3 (MQ below (va_Qi post (mB D cI cJ cZ a) A) args s 0 0 A) 35 [(0, .ref (a 0)), (1, .int x1), (2, .int x2)] [.int t0, .int t1, .int t2, .ref (a 0)] v f g := by
  unfold r_phrase_35 at h
  refine mg_calliW C (s_goes l t2 t1 t0 v f g h) mCal_goes rfl ⟨by decide, by decide⟩ rfl (Nat.le_of_ble_eq_true rfl) dX12_phrase_35 (fun r_4 v_4 f_4 g_4 h => ?_)
  refine mg_if_eq C 52 (by decide) dX12_phrase_38 (fun c_ => ?_) (fun c_ => ?_)
  · have h := h.1 c_
    refine mg_iconst C (x := nI 0) rfl dX12_phrase_52 ?_
    exact mg_iret C h dX12_phrase_53
  · have h := h.2 c_
    refine mg_aload_n C (i := 0) rfl 0 rfl dX12_phrase_41 ?_
    refine mg_iconst C (x := nI 1) rfl dX12_phrase_42 ?_
    refine mg_iload_n C (i := 1) rfl 1 rfl dX12_phrase_43 ?_
    refine mg_iload_n C (i := 2) rfl 2 rfl dX12_phrase_44 ?_
    refine mg_iconst C (x := nI 0) rfl dX12_phrase_45 ?_
    refine mg_calliW C (s_leaf l ((nI 1)) x1 x2 ((nI 0)) v_4 f_4 g_4 h) mCal_leaf rfl ⟨by decide, by decide⟩ rfl (Nat.le_of_ble_eq_true rfl) dX12_phrase_46 (fun r_5 v_5 f_5 g_5 h => ?_)
    refine mg_goto C 53 (by decide) dX12_phrase_49 ?_
    exact mg_iret C h dX12_phrase_53
set_option maxRecDepth 20000 in
theorem sb_phrase_34 (C : mC p s m args meth c cX12_phrase 3 (some .int) A D cI cJ cZ) {post : Int32 → mS → Prop}   (x1 : Int32) (x2 : Int32) (t0 : Int32) (t1 : Int32) (v : Nat → Int32) (f : Nat → Nat → Int32) (g : Nat → Nat → Int64) (h : r_phrase_34 (fun r v f g => post r (v, f, g))  x1 x2 t0 t1 v f g) : mG p l e (mRm 5 113) s m args below meth c A D cI cJ cZ a 3 (MQ below (va_Qi post (mB D cI cJ cZ a) A) args s 0 0 A) 34 [(0, .ref (a 0)), (1, .int x1), (2, .int x2)] [.int t0, .int t1, .ref (a 0)] v f g := by
  unfold r_phrase_34 at h
  refine mg_iconst C (x := nI 0) rfl dX12_phrase_34 ?_
  exact mg_sub [0, 1, 2] rfl (sb_phrase_35 C  x1 x2 ((nI 0)) t0 t1 v f g h)
end S_phrase
set_option maxHeartbeats 1000000 in
set_option maxRecDepth 20000 in
theorem s_phrase (l : Launch) (x1 : Int32) (x2 : Int32) (v : Nat → Int32) (f : Nat → Nat → Int32) (g : Nat → Nat → Int64) {P : Int32 → (Nat → Int32) → (Nat → Nat → Int32) → (Nat → Nat → Int64) → Prop} (h : r_phrase P x1 x2 v f g) : mMi l yX12_phrase cX12_phrase 3 (some .int) 5 113 false [.int x1, .int x2] v f g (fun r w => P r w.1 w.2.1 w.2.2) := by
  intro D cI cJ cZ a sz
  refine mg_body (by decide +kernel) rfl (Nat.le_of_ble_eq_true rfl) ?_
  intro p e s m args below meth c hsz C
  clear hsz
  generalize va_A (mW cI cJ cZ a v f g) sz = A at C ⊢
  refine mg_lv (lv' := [(0, .ref (a 0)), (1, .int x1), (2, .int x2)]) rfl ?_
  unfold r_phrase at h
  refine mg_aload_n C (i := 0) rfl 0 rfl dX12_phrase_0 ?_
  refine mg_aload_n C (i := 0) rfl 0 rfl dX12_phrase_1 ?_
  refine mg_iload_n C (i := 1) rfl 1 rfl dX12_phrase_2 ?_
  refine mg_calliW C (s_isField l x1 v f g h) mCal_isField rfl ⟨by decide, by decide⟩ rfl (Nat.le_of_ble_eq_true rfl) dX12_phrase_3 (fun r_1 v_1 f_1 g_1 h => ?_)
  refine mg_iload_n C (i := 2) rfl 2 rfl dX12_phrase_6 ?_
  refine mg_iconst C (x := nI 0) rfl dX12_phrase_7 ?_
  refine mg_bipush C (x := nI 20) rfl dX12_phrase_8 ?_
  refine mg_callsiW C (s_in l x2 ((nI 0)) ((nI 20)) v_1 f_1 g_1 h) mCal_in rfl ⟨by decide, by decide⟩ rfl (Nat.le_of_ble_eq_true rfl) dX12_phrase_10 (fun r_2 v_2 f_2 g_2 h => ?_)
  refine mg_aload_n C (i := 0) rfl 0 rfl dX12_phrase_13 ?_
  refine mg_iconst C (x := nI 1) rfl dX12_phrase_14 ?_
  refine mg_bipush C (x := nI 6) rfl dX12_phrase_15 ?_
  refine mg_calliW C (s_hasTokens l ((nI 1)) ((nI 6)) v_2 f_2 g_2 h) mCal_hasTokens rfl ⟨by decide, by decide⟩ rfl (Nat.le_of_ble_eq_true rfl) dX12_phrase_17 (fun r_3 v_3 f_3 g_3 h => ?_)
  refine mg_if_eq C 34 (by decide) dX12_phrase_20 (fun c_ => ?_) (fun c_ => ?_)
  · have h := h.1 c_
    exact mg_sub [0, 1, 2] rfl (sb_phrase_34 C  x1 x2 r_2 r_1 v_3 f_3 g_3 h)
  · have h := h.2 c_
    refine mg_aload_n C (i := 0) rfl 0 rfl dX12_phrase_23 ?_
    refine mg_calliW C (s_hasRoom l  v_3 f_3 g_3 h) mCal_hasRoom rfl ⟨by decide, by decide⟩ rfl (Nat.le_of_ble_eq_true rfl) dX12_phrase_24 (fun r_6 v_6 f_6 g_6 h => ?_)
    refine mg_if_eq C 34 (by decide) dX12_phrase_27 (fun c_ => ?_) (fun c_ => ?_)
    · have h := h.1 c_
      exact mg_sub [0, 1, 2] rfl (sb_phrase_34 C  x1 x2 r_2 r_1 v_6 f_6 g_6 h)
    · have h := h.2 c_
      refine mg_iconst C (x := nI 1) rfl dX12_phrase_30 ?_
      refine mg_goto C 35 (by decide) dX12_phrase_31 ?_
      exact mg_sub [0, 1, 2] rfl (sb_phrase_35 C  x1 x2 ((nI 1)) r_2 r_1 v_6 f_6 g_6 h)
def r_near_34 (Q : Int32 → (Nat → Int32) → (Nat → Nat → Int32) → (Nat → Nat → Int64) → Prop)  (x1 : Int32) (x2 : Int32) (x3 : Int32) (t0 : Int32) (t1 : Int32) (t2 : Int32) (v : Nat → Int32) (f : Nat → Nat → Int32) (g : Nat → Nat → Int64) : Prop :=
r_goes (fun r_4 v_4 f_4 g_4 => 
((r_4 = 0 →
  Q ((nI 0)) v_4 f_4 g_4) ∧
 (¬ r_4 = 0 →
  r_leaf (fun r_5 v_5 f_5 g_5 => 
  Q r_5 v_5 f_5 g_5) ((nI 2)) x1 x2 x3 v_4 f_4 g_4))) t2 t1 t0 v f g
def r_near_33 (Q : Int32 → (Nat → Int32) → (Nat → Nat → Int32) → (Nat → Nat → Int64) → Prop)  (x1 : Int32) (x2 : Int32) (x3 : Int32) (t0 : Int32) (t1 : Int32) (v : Nat → Int32) (f : Nat → Nat → Int32) (g : Nat → Nat → Int64) : Prop :=
r_near_34 Q  x1 x2 x3 ((nI 0)) t0 t1 v f g
def r_near (Q : Int32 → (Nat → Int32) → (Nat → Nat → Int32) → (Nat → Nat → Int64) → Prop) (x1 : Int32) (x2 : Int32) (x3 : Int32) (v : Nat → Int32) (f : Nat → Nat → Int32) (g : Nat → Nat → Int64) : Prop :=
r_isField (fun r_1 v_1 f_1 g_1 => 
r_in (fun r_2 v_2 f_2 g_2 => 
r_hasTokens (fun r_3 v_3 f_3 g_3 => 
((r_3 = 0 →
  r_near_33 Q  x1 x2 x3 r_2 r_1 v_3 f_3 g_3) ∧
 (¬ r_3 = 0 →
  r_hasRoom (fun r_6 v_6 f_6 g_6 => 
  ((r_6 = 0 →
    r_near_33 Q  x1 x2 x3 r_2 r_1 v_6 f_6 g_6) ∧
   (¬ r_6 = 0 →
    r_near_34 Q  x1 x2 x3 ((nI 1)) r_2 r_1 v_6 f_6 g_6)))  v_3 f_3 g_3))) ((nI 2)) ((nI 2)) v_2 f_2 g_2) x2 ((nI 1)) ((nI 20)) v_1 f_1 g_1) x1 v f g
section S_near
variable {p : Program} {l : Launch} {e : Env} {s : State} {m : MethodId} {args : Array Value} {below : List Frame} {meth : Method} {c : Code} {A : Nat → Prop} {D : va_G} {cI cJ cZ : ClassId} {a : Nat → Nat}
set_option maxRecDepth 20000 in
theorem sb_near_34 (C : mC p s m args meth c cX12_near 4 (some .int) A D cI cJ cZ) {post : Int32 → mS → Prop}   (x1 : Int32) (x2 : Int32) (x3 : Int32) (t0 : Int32) (t1 : Int32) (t2 : Int32) (v : Nat → Int32) (f : Nat → Nat → Int32) (g : Nat → Nat → Int64) (h : r_near_34 (fun r v f g => post r (v, f, g))  x1 x2 x3 t0 t1 t2 v f g) : mG p l e (mRm 5 113) s m args below meth c A D cI cJ cZ a 4 (MQ below (va_Qi post (mB D cI cJ cZ a) A) args s 0 0 A) 34 [(0, .ref (a 0)), (1, .int x1), (2, .int x2), (3, .int x3)] [.int t0, .int t1, .int t2, .ref (a 0)] v f g := by
  unfold r_near_34 at h
  refine mg_calliW C (s_goes l t2 t1 t0 v f g h) mCal_goes rfl ⟨by decide, by decide⟩ rfl (Nat.le_of_ble_eq_true rfl) dX12_near_34 (fun r_4 v_4 f_4 g_4 h => ?_)
  refine mg_if_eq C 51 (by decide) dX12_near_37 (fun c_ => ?_) (fun c_ => ?_)
  · have h := h.1 c_
    refine mg_iconst C (x := nI 0) rfl dX12_near_51 ?_
    exact mg_iret C h dX12_near_52
  · have h := h.2 c_
    refine mg_aload_n C (i := 0) rfl 0 rfl dX12_near_40 ?_
    refine mg_iconst C (x := nI 2) rfl dX12_near_41 ?_
    refine mg_iload_n C (i := 1) rfl 1 rfl dX12_near_42 ?_
    refine mg_iload_n C (i := 2) rfl 2 rfl dX12_near_43 ?_
    refine mg_iload_n C (i := 3) rfl 3 rfl dX12_near_44 ?_
    refine mg_calliW C (s_leaf l ((nI 2)) x1 x2 x3 v_4 f_4 g_4 h) mCal_leaf rfl ⟨by decide, by decide⟩ rfl (Nat.le_of_ble_eq_true rfl) dX12_near_45 (fun r_5 v_5 f_5 g_5 h => ?_)
    refine mg_goto C 52 (by decide) dX12_near_48 ?_
    exact mg_iret C h dX12_near_52
set_option maxRecDepth 20000 in
theorem sb_near_33 (C : mC p s m args meth c cX12_near 4 (some .int) A D cI cJ cZ) {post : Int32 → mS → Prop}   (x1 : Int32) (x2 : Int32) (x3 : Int32) (t0 : Int32) (t1 : Int32) (v : Nat → Int32) (f : Nat → Nat → Int32) (g : Nat → Nat → Int64) (h : r_near_33 (fun r v f g => post r (v, f, g))  x1 x2 x3 t0 t1 v f g) : mG p l e (mRm 5 113) s m args below meth c A D cI cJ cZ a 4 (MQ below (va_Qi post (mB D cI cJ cZ a) A) args s 0 0 A) 33 [(0, .ref (a 0)), (1, .int x1), (2, .int x2), (3, .int x3)] [.int t0, .int t1, .ref (a 0)] v f g := by
  unfold r_near_33 at h
  refine mg_iconst C (x := nI 0) rfl dX12_near_33 ?_
  exact mg_sub [0, 1, 2, 3] rfl (sb_near_34 C  x1 x2 x3 ((nI 0)) t0 t1 v f g h)
end S_near
set_option maxHeartbeats 1000000 in
set_option maxRecDepth 20000 in
theorem s_near (l : Launch) (x1 : Int32) (x2 : Int32) (x3 : Int32) (v : Nat → Int32) (f : Nat → Nat → Int32) (g : Nat → Nat → Int64) {P : Int32 → (Nat → Int32) → (Nat → Nat → Int32) → (Nat → Nat → Int64) → Prop} (h : r_near P x1 x2 x3 v f g) : mMi l yX12_near cX12_near 4 (some .int) 5 113 false [.int x1, .int x2, .int x3] v f g (fun r w => P r w.1 w.2.1 w.2.2) := by
  intro D cI cJ cZ a sz
  refine mg_body (by decide +kernel) rfl (Nat.le_of_ble_eq_true rfl) ?_
  intro p e s m args below meth c hsz C
  clear hsz
  generalize va_A (mW cI cJ cZ a v f g) sz = A at C ⊢
  refine mg_lv (lv' := [(0, .ref (a 0)), (1, .int x1), (2, .int x2), (3, .int x3)]) rfl ?_
  unfold r_near at h
  refine mg_aload_n C (i := 0) rfl 0 rfl dX12_near_0 ?_
  refine mg_aload_n C (i := 0) rfl 0 rfl dX12_near_1 ?_
  refine mg_iload_n C (i := 1) rfl 1 rfl dX12_near_2 ?_
  refine mg_calliW C (s_isField l x1 v f g h) mCal_isField rfl ⟨by decide, by decide⟩ rfl (Nat.le_of_ble_eq_true rfl) dX12_near_3 (fun r_1 v_1 f_1 g_1 h => ?_)
  refine mg_iload_n C (i := 2) rfl 2 rfl dX12_near_6 ?_
  refine mg_iconst C (x := nI 1) rfl dX12_near_7 ?_
  refine mg_bipush C (x := nI 20) rfl dX12_near_8 ?_
  refine mg_callsiW C (s_in l x2 ((nI 1)) ((nI 20)) v_1 f_1 g_1 h) mCal_in rfl ⟨by decide, by decide⟩ rfl (Nat.le_of_ble_eq_true rfl) dX12_near_10 (fun r_2 v_2 f_2 g_2 h => ?_)
  refine mg_aload_n C (i := 0) rfl 0 rfl dX12_near_13 ?_
  refine mg_iconst C (x := nI 2) rfl dX12_near_14 ?_
  refine mg_iconst C (x := nI 2) rfl dX12_near_15 ?_
  refine mg_calliW C (s_hasTokens l ((nI 2)) ((nI 2)) v_2 f_2 g_2 h) mCal_hasTokens rfl ⟨by decide, by decide⟩ rfl (Nat.le_of_ble_eq_true rfl) dX12_near_16 (fun r_3 v_3 f_3 g_3 h => ?_)
  refine mg_if_eq C 33 (by decide) dX12_near_19 (fun c_ => ?_) (fun c_ => ?_)
  · have h := h.1 c_
    exact mg_sub [0, 1, 2, 3] rfl (sb_near_33 C  x1 x2 x3 r_2 r_1 v_3 f_3 g_3 h)
  · have h := h.2 c_
    refine mg_aload_n C (i := 0) rfl 0 rfl dX12_near_22 ?_
    refine mg_calliW C (s_hasRoom l  v_3 f_3 g_3 h) mCal_hasRoom rfl ⟨by decide, by decide⟩ rfl (Nat.le_of_ble_eq_true rfl) dX12_near_23 (fun r_6 v_6 f_6 g_6 h => ?_)
    refine mg_if_eq C 33 (by decide) dX12_near_26 (fun c_ => ?_) (fun c_ => ?_)
    · have h := h.1 c_
      exact mg_sub [0, 1, 2, 3] rfl (sb_near_33 C  x1 x2 x3 r_2 r_1 v_6 f_6 g_6 h)
    · have h := h.2 c_
      refine mg_iconst C (x := nI 1) rfl dX12_near_29 ?_
      refine mg_goto C 34 (by decide) dX12_near_30 ?_
      exact mg_sub [0, 1, 2, 3] rfl (sb_near_34 C  x1 x2 x3 ((nI 1)) r_2 r_1 v_6 f_6 g_6 h)
def r_hasWordAlone (Q : Int32 → (Nat → Int32) → (Nat → Nat → Int32) → (Nat → Nat → Int64) → Prop)  (v : Nat → Int32) (f : Nat → Nat → Int32) (g : Nat → Nat → Int64) : Prop :=
r_reads (fun v_1 f_1 g_1 => 
((¬ ((v_1 4)) = ((nI 1)) →
  Q ((bI false)) v_1 f_1 g_1) ∧
 (((v_1 4)) = ((nI 1)) →
  Q ((bI true)) v_1 f_1 g_1)))  v f g
set_option maxHeartbeats 1000000 in
set_option maxRecDepth 20000 in
theorem s_hasWordAlone (l : Launch)  (v : Nat → Int32) (f : Nat → Nat → Int32) (g : Nat → Nat → Int64) {P : Int32 → (Nat → Int32) → (Nat → Nat → Int32) → (Nat → Nat → Int64) → Prop} (h : r_hasWordAlone P  v f g) : mMi l yX12_hasWordAlone cX12_hasWordAlone 1 (some .boolean) 3 65 false [] v f g (fun r w => P r w.1 w.2.1 w.2.2) := by
  intro D cI cJ cZ a sz
  refine mg_body (by decide +kernel) rfl (Nat.le_of_ble_eq_true rfl) ?_
  intro p e s m args below meth c hsz C
  clear hsz
  generalize va_A (mW cI cJ cZ a v f g) sz = A at C ⊢
  refine mg_lv (lv' := [(0, .ref (a 0))]) rfl ?_
  unfold r_hasWordAlone at h
  refine mg_aload_n C (i := 0) rfl 0 rfl dX12_hasWordAlone_0 ?_
  refine mg_callvW C (s_reads l  v f g h) mCal_reads rfl ⟨by decide, by decide⟩ rfl (Nat.le_of_ble_eq_true rfl) dX12_hasWordAlone_1 (fun v_1 f_1 g_1 h => ?_)
  refine mg_aload_n C (i := 0) rfl 0 rfl dX12_hasWordAlone_4 ?_
  refine mg_getI C (k := 4) (by decide) rfl mL_worded rfl dX12_hasWordAlone_5 ?_
  refine mg_iconst C (x := nI 1) rfl dX12_hasWordAlone_8 ?_
  refine mg_icmp_ne C 16 (by decide) dX12_hasWordAlone_9 (fun c_ => ?_) (fun c_ => ?_)
  · have h := h.1 c_
    refine mg_iconst C (x := nI 0) rfl dX12_hasWordAlone_16 ?_
    refine mg_cast (bI false) rfl ?_
    exact mg_zret C (bI_nar _) h dX12_hasWordAlone_17
  · have h := h.2 c_
    refine mg_iconst C (x := nI 1) rfl dX12_hasWordAlone_12 ?_
    refine mg_goto C 17 (by decide) dX12_hasWordAlone_13 ?_
    refine mg_cast (bI true) rfl ?_
    exact mg_zret C (bI_nar _) h dX12_hasWordAlone_17
def r_prefix_25 (Q : Int32 → (Nat → Int32) → (Nat → Nat → Int32) → (Nat → Nat → Int64) → Prop)  (x1 : Int32) (t0 : Int32) (t1 : Int32) (v : Nat → Int32) (f : Nat → Nat → Int32) (g : Nat → Nat → Int64) : Prop :=
r_goes (fun r_3 v_3 f_3 g_3 => 
((r_3 = 0 →
  Q ((nI 0)) v_3 f_3 g_3) ∧
 (¬ r_3 = 0 →
  r_leaf (fun r_4 v_4 f_4 g_4 => 
  Q r_4 v_4 f_4 g_4) ((nI 3)) x1 ((nI 0)) ((nI 0)) v_3 f_3 g_3))) t1 t0 ((nI 1)) v f g
def r_prefix_24 (Q : Int32 → (Nat → Int32) → (Nat → Nat → Int32) → (Nat → Nat → Int64) → Prop)  (x1 : Int32) (t0 : Int32) (v : Nat → Int32) (f : Nat → Nat → Int32) (g : Nat → Nat → Int64) : Prop :=
r_prefix_25 Q  x1 ((nI 0)) t0 v f g
def r_prefix (Q : Int32 → (Nat → Int32) → (Nat → Nat → Int32) → (Nat → Nat → Int64) → Prop) (x1 : Int32) (v : Nat → Int32) (f : Nat → Nat → Int32) (g : Nat → Nat → Int64) : Prop :=
r_isField (fun r_1 v_1 f_1 g_1 => 
r_hasWordAlone (fun r_2 v_2 f_2 g_2 => 
((r_2 = 0 →
  r_prefix_24 Q  x1 r_1 v_2 f_2 g_2) ∧
 (¬ r_2 = 0 →
  r_hasRoom (fun r_5 v_5 f_5 g_5 => 
  ((r_5 = 0 →
    r_prefix_24 Q  x1 r_1 v_5 f_5 g_5) ∧
   (¬ r_5 = 0 →
    r_prefix_25 Q  x1 ((nI 1)) r_1 v_5 f_5 g_5)))  v_2 f_2 g_2)))  v_1 f_1 g_1) x1 v f g
section S_prefix
variable {p : Program} {l : Launch} {e : Env} {s : State} {m : MethodId} {args : Array Value} {below : List Frame} {meth : Method} {c : Code} {A : Nat → Prop} {D : va_G} {cI cJ cZ : ClassId} {a : Nat → Nat}
set_option maxRecDepth 20000 in
theorem sb_prefix_25 (C : mC p s m args meth c cX12_prefix 2 (some .int) A D cI cJ cZ) {post : Int32 → mS → Prop}   (x1 : Int32) (t0 : Int32) (t1 : Int32) (v : Nat → Int32) (f : Nat → Nat → Int32) (g : Nat → Nat → Int64) (h : r_prefix_25 (fun r v f g => post r (v, f, g))  x1 t0 t1 v f g) : mG p l e (mRm 4 85) s m args below meth c A D cI cJ cZ a 2 (MQ below (va_Qi post (mB D cI cJ cZ a) A) args s 0 0 A) 25 [(0, .ref (a 0)), (1, .int x1)] [.int t0, .int t1, .ref (a 0)] v f g := by
  unfold r_prefix_25 at h
  refine mg_iconst C (x := nI 1) rfl dX12_prefix_25 ?_
  refine mg_calliW C (s_goes l t1 t0 ((nI 1)) v f g h) mCal_goes rfl ⟨by decide, by decide⟩ rfl (Nat.le_of_ble_eq_true rfl) dX12_prefix_26 (fun r_3 v_3 f_3 g_3 h => ?_)
  refine mg_if_eq C 43 (by decide) dX12_prefix_29 (fun c_ => ?_) (fun c_ => ?_)
  · have h := h.1 c_
    refine mg_iconst C (x := nI 0) rfl dX12_prefix_43 ?_
    exact mg_iret C h dX12_prefix_44
  · have h := h.2 c_
    refine mg_aload_n C (i := 0) rfl 0 rfl dX12_prefix_32 ?_
    refine mg_iconst C (x := nI 3) rfl dX12_prefix_33 ?_
    refine mg_iload_n C (i := 1) rfl 1 rfl dX12_prefix_34 ?_
    refine mg_iconst C (x := nI 0) rfl dX12_prefix_35 ?_
    refine mg_iconst C (x := nI 0) rfl dX12_prefix_36 ?_
    refine mg_calliW C (s_leaf l ((nI 3)) x1 ((nI 0)) ((nI 0)) v_3 f_3 g_3 h) mCal_leaf rfl ⟨by decide, by decide⟩ rfl (Nat.le_of_ble_eq_true rfl) dX12_prefix_37 (fun r_4 v_4 f_4 g_4 h => ?_)
    refine mg_goto C 44 (by decide) dX12_prefix_40 ?_
    exact mg_iret C h dX12_prefix_44
set_option maxRecDepth 20000 in
theorem sb_prefix_24 (C : mC p s m args meth c cX12_prefix 2 (some .int) A D cI cJ cZ) {post : Int32 → mS → Prop}   (x1 : Int32) (t0 : Int32) (v : Nat → Int32) (f : Nat → Nat → Int32) (g : Nat → Nat → Int64) (h : r_prefix_24 (fun r v f g => post r (v, f, g))  x1 t0 v f g) : mG p l e (mRm 4 85) s m args below meth c A D cI cJ cZ a 2 (MQ below (va_Qi post (mB D cI cJ cZ a) A) args s 0 0 A) 24 [(0, .ref (a 0)), (1, .int x1)] [.int t0, .ref (a 0)] v f g := by
  unfold r_prefix_24 at h
  refine mg_iconst C (x := nI 0) rfl dX12_prefix_24 ?_
  exact mg_sub [0, 1] rfl (sb_prefix_25 C  x1 ((nI 0)) t0 v f g h)
end S_prefix
set_option maxHeartbeats 1000000 in
set_option maxRecDepth 20000 in
theorem s_prefix (l : Launch) (x1 : Int32) (v : Nat → Int32) (f : Nat → Nat → Int32) (g : Nat → Nat → Int64) {P : Int32 → (Nat → Int32) → (Nat → Nat → Int32) → (Nat → Nat → Int64) → Prop} (h : r_prefix P x1 v f g) : mMi l yX12_prefix cX12_prefix 2 (some .int) 4 85 false [.int x1] v f g (fun r w => P r w.1 w.2.1 w.2.2) := by
  intro D cI cJ cZ a sz
  refine mg_body (by decide +kernel) rfl (Nat.le_of_ble_eq_true rfl) ?_
  intro p e s m args below meth c hsz C
  clear hsz
  generalize va_A (mW cI cJ cZ a v f g) sz = A at C ⊢
  refine mg_lv (lv' := [(0, .ref (a 0)), (1, .int x1)]) rfl ?_
  unfold r_prefix at h
  refine mg_aload_n C (i := 0) rfl 0 rfl dX12_prefix_0 ?_
  refine mg_aload_n C (i := 0) rfl 0 rfl dX12_prefix_1 ?_
  refine mg_iload_n C (i := 1) rfl 1 rfl dX12_prefix_2 ?_
  refine mg_calliW C (s_isField l x1 v f g h) mCal_isField rfl ⟨by decide, by decide⟩ rfl (Nat.le_of_ble_eq_true rfl) dX12_prefix_3 (fun r_1 v_1 f_1 g_1 h => ?_)
  refine mg_aload_n C (i := 0) rfl 0 rfl dX12_prefix_6 ?_
  refine mg_calliW C (s_hasWordAlone l  v_1 f_1 g_1 h) mCal_hasWordAlone rfl ⟨by decide, by decide⟩ rfl (Nat.le_of_ble_eq_true rfl) dX12_prefix_7 (fun r_2 v_2 f_2 g_2 h => ?_)
  refine mg_if_eq C 24 (by decide) dX12_prefix_10 (fun c_ => ?_) (fun c_ => ?_)
  · have h := h.1 c_
    exact mg_sub [0, 1] rfl (sb_prefix_24 C  x1 r_1 v_2 f_2 g_2 h)
  · have h := h.2 c_
    refine mg_aload_n C (i := 0) rfl 0 rfl dX12_prefix_13 ?_
    refine mg_calliW C (s_hasRoom l  v_2 f_2 g_2 h) mCal_hasRoom rfl ⟨by decide, by decide⟩ rfl (Nat.le_of_ble_eq_true rfl) dX12_prefix_14 (fun r_5 v_5 f_5 g_5 h => ?_)
    refine mg_if_eq C 24 (by decide) dX12_prefix_17 (fun c_ => ?_) (fun c_ => ?_)
    · have h := h.1 c_
      exact mg_sub [0, 1] rfl (sb_prefix_24 C  x1 r_1 v_5 f_5 g_5 h)
    · have h := h.2 c_
      refine mg_iconst C (x := nI 1) rfl dX12_prefix_20 ?_
      refine mg_goto C 25 (by decide) dX12_prefix_21 ?_
      exact mg_sub [0, 1] rfl (sb_prefix_25 C  x1 ((nI 1)) r_1 v_5 f_5 g_5 h)
