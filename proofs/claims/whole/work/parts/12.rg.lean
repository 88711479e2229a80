/-! the reference's methods as predicates, and their contracts -/
def r_hitAt (Q : Int32 → (Nat → Int32) → (Nat → Nat → Int32) → (Nat → Nat → Int64) → Prop) (x1 : Int32) (v : Nat → Int32) (f : Nat → Nat → Int32) (g : Nat → Nat → Int64) : Prop :=
r_in (fun r_1 v_1 f_1 g_1 => 
r_goes (fun r_2 v_2 f_2 g_2 => 
((r_2 = 0 →
  Q ((nI 0)) v_2 f_2 g_2) ∧
 (¬ r_2 = 0 →
  vp_in x1 20 ∧ (Q ((f_2 59 (x1).toNatClampNeg)) v_2 f_2 g_2)))) r_1 ((nI 1)) ((nI 1)) v_1 f_1 g_1) x1 ((nI 0)) ((((v 88)) - ((nI 1)))) v f g
set_option maxHeartbeats 1000000 in
set_option maxRecDepth 20000 in
theorem s_hitAt (l : Launch) (x1 : Int32) (v : Nat → Int32) (f : Nat → Nat → Int32) (g : Nat → Nat → Int64) {P : Int32 → (Nat → Int32) → (Nat → Nat → Int32) → (Nat → Nat → Int64) → Prop} (h : r_hitAt P x1 v f g) : mMi l yX12_hitAt cX12_hitAt 2 (some .int) 1 23 false [.int x1] v f g (fun r w => P r w.1 w.2.1 w.2.2) := by
  intro D cI cJ cZ a sz
  refine mg_body (by decide +kernel) rfl (Nat.le_of_ble_eq_true rfl) ?_
  intro p e s m args below meth c hsz C
  clear hsz
  generalize va_A (mW cI cJ cZ a v f g) sz = A at C ⊢
  refine mg_lv (lv' := [(0, .ref (a 0)), (1, .int x1)]) rfl ?_
  unfold r_hitAt at h
  refine mg_aload_n C (i := 0) rfl 0 rfl dX12_hitAt_0 ?_
  refine mg_iload_n C (i := 1) rfl 1 rfl dX12_hitAt_1 ?_
  refine mg_iconst C (x := nI 0) rfl dX12_hitAt_2 ?_
  refine mg_aload_n C (i := 0) rfl 0 rfl dX12_hitAt_3 ?_
  refine mg_getI C (k := 88) (by decide) rfl mL_hits rfl dX12_hitAt_4 ?_
  refine mg_iconst C (x := nI 1) rfl dX12_hitAt_7 ?_
  refine mg_isub C dX12_hitAt_8 ?_
  refine mg_callsiW C (s_in l x1 ((nI 0)) ((((v 88)) - ((nI 1)))) v f g h) mCal_in rfl ⟨by decide, by decide⟩ rfl (Nat.le_of_ble_eq_true rfl) dX12_hitAt_9 (fun r_1 v_1 f_1 g_1 h => ?_)
  refine mg_iconst C (x := nI 1) rfl dX12_hitAt_12 ?_
  refine mg_iconst C (x := nI 1) rfl dX12_hitAt_13 ?_
  refine mg_calliW C (s_goes l r_1 ((nI 1)) ((nI 1)) v_1 f_1 g_1 h) mCal_goes rfl ⟨by decide, by decide⟩ rfl (Nat.le_of_ble_eq_true rfl) dX12_hitAt_14 (fun r_2 v_2 f_2 g_2 h => ?_)
  refine mg_if_eq C 29 (by decide) dX12_hitAt_17 (fun c_ => ?_) (fun c_ => ?_)
  · have h := h.1 c_
    refine mg_iconst C (x := nI 0) rfl dX12_hitAt_29 ?_
    exact mg_iret C h dX12_hitAt_30
  · have h := h.2 c_
    refine mg_aload_n C (i := 0) rfl 0 rfl dX12_hitAt_20 ?_
    refine mg_arr C 59 (by decide) (by decide) rfl mL_hitKeys rfl dX12_hitAt_21 ?_
    refine mg_iload_n C (i := 1) rfl 1 rfl dX12_hitAt_24 ?_
    obtain ⟨hc_25, h⟩ := h
    refine mg_ialoadR C (n := 20) 59 (by decide) (by decide) rfl rfl hc_25 dX12_hitAt_25 ?_
    refine mg_goto C 30 (by decide) dX12_hitAt_26 ?_
    exact mg_iret C h dX12_hitAt_30
def r_rankAt (Q : Int32 → (Nat → Int32) → (Nat → Nat → Int32) → (Nat → Nat → Int64) → Prop) (x1 : Int32) (v : Nat → Int32) (f : Nat → Nat → Int32) (g : Nat → Nat → Int64) : Prop :=
r_in (fun r_1 v_1 f_1 g_1 => 
r_goes (fun r_2 v_2 f_2 g_2 => 
((r_2 = 0 →
  Q ((nI 0)) v_2 f_2 g_2) ∧
 (¬ r_2 = 0 →
  vp_in x1 20 ∧ (Q ((f_2 60 (x1).toNatClampNeg)) v_2 f_2 g_2)))) r_1 ((nI 1)) ((nI 1)) v_1 f_1 g_1) x1 ((nI 0)) ((((v 88)) - ((nI 1)))) v f g
set_option maxHeartbeats 1000000 in
set_option maxRecDepth 20000 in
theorem s_rankAt (l : Launch) (x1 : Int32) (v : Nat → Int32) (f : Nat → Nat → Int32) (g : Nat → Nat → Int64) {P : Int32 → (Nat → Int32) → (Nat → Nat → Int32) → (Nat → Nat → Int64) → Prop} (h : r_rankAt P x1 v f g) : mMi l yX12_rankAt cX12_rankAt 2 (some .int) 1 23 false [.int x1] v f g (fun r w => P r w.1 w.2.1 w.2.2) := by
  intro D cI cJ cZ a sz
  refine mg_body (by decide +kernel) rfl (Nat.le_of_ble_eq_true rfl) ?_
  intro p e s m args below meth c hsz C
  clear hsz
  generalize va_A (mW cI cJ cZ a v f g) sz = A at C ⊢
  refine mg_lv (lv' := [(0, .ref (a 0)), (1, .int x1)]) rfl ?_
  unfold r_rankAt at h
  refine mg_aload_n C (i := 0) rfl 0 rfl dX12_rankAt_0 ?_
  refine mg_iload_n C (i := 1) rfl 1 rfl dX12_rankAt_1 ?_
  refine mg_iconst C (x := nI 0) rfl dX12_rankAt_2 ?_
  refine mg_aload_n C (i := 0) rfl 0 rfl dX12_rankAt_3 ?_
  refine mg_getI C (k := 88) (by decide) rfl mL_hits rfl dX12_rankAt_4 ?_
  refine mg_iconst C (x := nI 1) rfl dX12_rankAt_7 ?_
  refine mg_isub C dX12_rankAt_8 ?_
  refine mg_callsiW C (s_in l x1 ((nI 0)) ((((v 88)) - ((nI 1)))) v f g h) mCal_in rfl ⟨by decide, by decide⟩ rfl (Nat.le_of_ble_eq_true rfl) dX12_rankAt_9 (fun r_1 v_1 f_1 g_1 h => ?_)
  refine mg_iconst C (x := nI 1) rfl dX12_rankAt_12 ?_
  refine mg_iconst C (x := nI 1) rfl dX12_rankAt_13 ?_
  refine mg_calliW C (s_goes l r_1 ((nI 1)) ((nI 1)) v_1 f_1 g_1 h) mCal_goes rfl ⟨by decide, by decide⟩ rfl (Nat.le_of_ble_eq_true rfl) dX12_rankAt_14 (fun r_2 v_2 f_2 g_2 h => ?_)
  refine mg_if_eq C 29 (by decide) dX12_rankAt_17 (fun c_ => ?_) (fun c_ => ?_)
  · have h := h.1 c_
    refine mg_iconst C (x := nI 0) rfl dX12_rankAt_29 ?_
    exact mg_iret C h dX12_rankAt_30
  · have h := h.2 c_
    refine mg_aload_n C (i := 0) rfl 0 rfl dX12_rankAt_20 ?_
    refine mg_arr C 60 (by decide) (by decide) rfl mL_hitRanks rfl dX12_rankAt_21 ?_
    refine mg_iload_n C (i := 1) rfl 1 rfl dX12_rankAt_24 ?_
    obtain ⟨hc_25, h⟩ := h
    refine mg_ialoadR C (n := 20) 60 (by decide) (by decide) rfl rfl hc_25 dX12_rankAt_25 ?_
    refine mg_goto C 30 (by decide) dX12_rankAt_26 ?_
    exact mg_iret C h dX12_rankAt_30
def r_skipped (Q : Int32 → (Nat → Int32) → (Nat → Nat → Int32) → (Nat → Nat → Int64) → Prop)  (v : Nat → Int32) (f : Nat → Nat → Int32) (g : Nat → Nat → Int64) : Prop :=
∀ v1 : Nat → Int32, v1 = upd v 99 ((nI 0)) → Q ((v1 89)) v1 f g
set_option maxHeartbeats 1000000 in
set_option maxRecDepth 20000 in
theorem s_skipped (l : Launch)  (v : Nat → Int32) (f : Nat → Nat → Int32) (g : Nat → Nat → Int64) {P : Int32 → (Nat → Int32) → (Nat → Nat → Int32) → (Nat → Nat → Int64) → Prop} (h : r_skipped P  v f g) : mMi l yX12_skipped cX12_skipped 1 (some .int) 0 0 false [] v f g (fun r w => P r w.1 w.2.1 w.2.2) := by
  intro D cI cJ cZ a sz
  refine mg_body (by decide +kernel) rfl (Nat.le_of_ble_eq_true rfl) ?_
  intro p e s m args below meth c hsz C
  clear hsz
  generalize va_A (mW cI cJ cZ a v f g) sz = A at C ⊢
  refine mg_lv (lv' := [(0, .ref (a 0))]) rfl ?_
  unfold r_skipped at h
  refine mg_aload_n C (i := 0) rfl 0 rfl dX12_skipped_0 ?_
  refine mg_iconst C (x := nI 0) rfl dX12_skipped_1 ?_
  refine mg_put C (k := 99) (by decide) rfl mL_last rfl (by decide +kernel) mT_last rfl rfl dX12_skipped_2 ?_
  refine mg_nmV (fun v1 e_v1 => ?_)
  have h := h v1 e_v1
  refine mg_aload_n C (i := 0) rfl 0 rfl dX12_skipped_5 ?_
  refine mg_getI C (k := 89) (by decide) rfl mL_skips rfl dX12_skipped_6 ?_
  exact mg_iret C h dX12_skipped_9
def r_cached (Q : Int32 → (Nat → Int32) → (Nat → Nat → Int32) → (Nat → Nat → Int64) → Prop)  (v : Nat → Int32) (f : Nat → Nat → Int32) (g : Nat → Nat → Int64) : Prop :=
∀ v1 : Nat → Int32, v1 = upd v 99 ((nI 0)) → Q ((v1 90)) v1 f g
set_option maxHeartbeats 1000000 in
set_option maxRecDepth 20000 in
theorem s_cached (l : Launch)  (v : Nat → Int32) (f : Nat → Nat → Int32) (g : Nat → Nat → Int64) {P : Int32 → (Nat → Int32) → (Nat → Nat → Int32) → (Nat → Nat → Int64) → Prop} (h : r_cached P  v f g) : mMi l yX12_cached cX12_cached 1 (some .int) 0 0 false [] v f g (fun r w => P r w.1 w.2.1 w.2.2) := by
  intro D cI cJ cZ a sz
  refine mg_body (by decide +kernel) rfl (Nat.le_of_ble_eq_true rfl) ?_
  intro p e s m args below meth c hsz C
  clear hsz
  generalize va_A (mW cI cJ cZ a v f g) sz = A at C ⊢
  refine mg_lv (lv' := [(0, .ref (a 0))]) rfl ?_
  unfold r_cached at h
  refine mg_aload_n C (i := 0) rfl 0 rfl dX12_cached_0 ?_
  refine mg_iconst C (x := nI 0) rfl dX12_cached_1 ?_
  refine mg_put C (k := 99) (by decide) rfl mL_last rfl (by decide +kernel) mT_last rfl rfl dX12_cached_2 ?_
  refine mg_nmV (fun v1 e_v1 => ?_)
  have h := h v1 e_v1
  refine mg_aload_n C (i := 0) rfl 0 rfl dX12_cached_5 ?_
  refine mg_getI C (k := 90) (by decide) rfl mL_taken rfl dX12_cached_6 ?_
  exact mg_iret C h dX12_cached_9
def r_isAsked (Q : Int32 → (Nat → Int32) → (Nat → Nat → Int32) → (Nat → Nat → Int64) → Prop) (x1 : Int32) (x2 : Int32) (v : Nat → Int32) (f : Nat → Nat → Int32) (g : Nat → Nat → Int64) : Prop :=
((x1 = (((-1))) →
  Q ((bI false)) v f g) ∧
 (¬ x1 = (((-1))) →
  r_in (fun r_1 v_1 f_1 g_1 => 
  ((r_1 = 0 →
    Q ((bI false)) v_1 f_1 g_1) ∧
   (¬ r_1 = 0 →
    Q ((bI true)) v_1 f_1 g_1))) x2 ((nI 0)) ((((v 73)) - ((nI 1)))) v f g))
set_option maxHeartbeats 1000000 in
set_option maxRecDepth 20000 in
theorem s_isAsked (l : Launch) (x1 : Int32) (x2 : Int32) (v : Nat → Int32) (f : Nat → Nat → Int32) (g : Nat → Nat → Int64) {P : Int32 → (Nat → Int32) → (Nat → Nat → Int32) → (Nat → Nat → Int64) → Prop} (h : r_isAsked P x1 x2 v f g) : mMi l yX12_isAsked cX12_isAsked 3 (some .boolean) 1 22 false [.int x1, .int x2] v f g (fun r w => P r w.1 w.2.1 w.2.2) := by
  intro D cI cJ cZ a sz
  refine mg_body (by decide +kernel) rfl (Nat.le_of_ble_eq_true rfl) ?_
  intro p e s m args below meth c hsz C
  clear hsz
  generalize va_A (mW cI cJ cZ a v f g) sz = A at C ⊢
  refine mg_lv (lv' := [(0, .ref (a 0)), (1, .int x1), (2, .int x2)]) rfl ?_
  unfold r_isAsked at h
  refine mg_iload_n C (i := 1) rfl 1 rfl dX12_isAsked_0 ?_
  refine mg_iconst C (x := (-1)) rfl dX12_isAsked_1 ?_
  refine mg_icmp_eq C 23 (by decide) dX12_isAsked_2 (fun c_ => ?_) (fun c_ => ?_)
  · have h := h.1 c_
    refine mg_iconst C (x := nI 0) rfl dX12_isAsked_23 ?_
    refine mg_cast (bI false) rfl ?_
    exact mg_zret C (bI_nar _) h dX12_isAsked_24
  · have h := h.2 c_
    refine mg_iload_n C (i := 2) rfl 2 rfl dX12_isAsked_5 ?_
    refine mg_iconst C (x := nI 0) rfl dX12_isAsked_6 ?_
    refine mg_aload_n C (i := 0) rfl 0 rfl dX12_isAsked_7 ?_
    refine mg_getI C (k := 73) (by decide) rfl mL_queries rfl dX12_isAsked_8 ?_
    refine mg_iconst C (x := nI 1) rfl dX12_isAsked_11 ?_
    refine mg_isub C dX12_isAsked_12 ?_
    refine mg_callsiW C (s_in l x2 ((nI 0)) ((((v 73)) - ((nI 1)))) v f g h) mCal_in rfl ⟨by decide, by decide⟩ rfl (Nat.le_of_ble_eq_true rfl) dX12_isAsked_13 (fun r_1 v_1 f_1 g_1 h => ?_)
    refine mg_if_eq C 23 (by decide) dX12_isAsked_16 (fun c_ => ?_) (fun c_ => ?_)
    · have h := h.1 c_
      refine mg_iconst C (x := nI 0) rfl dX12_isAsked_23 ?_
      refine mg_cast (bI false) rfl ?_
      exact mg_zret C (bI_nar _) h dX12_isAsked_24
    · have h := h.2 c_
      refine mg_iconst C (x := nI 1) rfl dX12_isAsked_19 ?_
      refine mg_goto C 24 (by decide) dX12_isAsked_20 ?_
      refine mg_cast (bI true) rfl ?_
      exact mg_zret C (bI_nar _) h dX12_isAsked_24
def r_withKey_37 (Q : Int32 → (Nat → Int32) → (Nat → Nat → Int32) → (Nat → Nat → Int64) → Prop) (R4 : Int32 → Int32 → Int32 → (Nat → Int32) → (Nat → Nat → Int32) → (Nat → Nat → Int64) → Prop) (x1 : Int32) (x3 : Int32) (t0 : Int32) (v : Nat → Int32) (f : Nat → Nat → Int32) (g : Nat → Nat → Int64) : Prop :=
∀ x3_2 : Int32, x3_2 = x3 + nI 1 → R4 x1 t0 x3_2 v f g
def r_withKey_4 (Q : Int32 → (Nat → Int32) → (Nat → Nat → Int32) → (Nat → Nat → Int64) → Prop) (R4 : Int32 → Int32 → Int32 → (Nat → Int32) → (Nat → Nat → Int32) → (Nat → Nat → Int64) → Prop) (x1 : Int32) (x2 : Int32) (x3 : Int32) (v : Nat → Int32) (f : Nat → Nat → Int32) (g : Nat → Nat → Int64) : Prop :=
((((v 60)) ≤ x3 →
  Q x2 v f g) ∧
 (¬ ((v 60)) ≤ x3 →
  vp_in x3 2424 ∧ (vp_in ((f 38 (x3).toNatClampNeg)) 2424 ∧ (((¬ ((f 14 ((f 38 (x3).toNatClampNeg)).toNatClampNeg)) = x1 →
    r_withKey_37 Q R4 x1 x3 x2 v f g) ∧
   (((f 14 ((f 38 (x3).toNatClampNeg)).toNatClampNeg)) = x1 →
    vp_in x3 2424 ∧ (r_withKey_37 Q R4 x1 x3 ((f 38 (x3).toNatClampNeg)) v f g)))))))
def r_withKey_4L (Q : Int32 → (Nat → Int32) → (Nat → Nat → Int32) → (Nat → Nat → Int64) → Prop)  (x1 : Int32) (x2 : Int32) (x3 : Int32) (v : Nat → Int32) (f : Nat → Nat → Int32) (g : Nat → Nat → Int64) : Prop :=
  lfp (X := Int32 × Int32 × Int32 × (Nat → Int32) × (Nat → Nat → Int32) × (Nat → Nat → Int64)) (fun P y => r_withKey_4 Q  (fun b0 b1 b2 v f g => P (b0, b1, b2, v, f, g)) y.1 y.2.1 y.2.2.1 y.2.2.2.1 y.2.2.2.2.1 y.2.2.2.2.2) (x1, x2, x3, v, f, g)
def r_withKey (Q : Int32 → (Nat → Int32) → (Nat → Nat → Int32) → (Nat → Nat → Int64) → Prop) (x1 : Int32) (v : Nat → Int32) (f : Nat → Nat → Int32) (g : Nat → Nat → Int64) : Prop :=
∀ x2_1 : Int32, x2_1 = ((-1)) → r_withKey_4L Q  x1 x2_1 (((nI 0))) v f g
section S_withKey
variable {p : Program} {l : Launch} {e : Env} {s : State} {m : MethodId} {args : Array Value} {below : List Frame} {meth : Method} {c : Code} {A : Nat → Prop} {D : va_G} {cI cJ cZ : ClassId} {a : Nat → Nat}
set_option maxRecDepth 20000 in
theorem sb_withKey_37 (C : mC p s m args meth c cX12_withKey 4 (some .int) A D cI cJ cZ) {post : Int32 → mS → Prop} {R4 : Int32 → Int32 → Int32 → (Nat → Int32) → (Nat → Nat → Int32) → (Nat → Nat → Int64) → Prop} (hR4 : ∀ (x1 : Int32) (x2 : Int32) (x3 : Int32) (v : Nat → Int32) (f : Nat → Nat → Int32) (g : Nat → Nat → Int64), R4 x1 x2 x3 v f g → mG p l e (mRm 0 0) s m args below meth c A D cI cJ cZ a 4 (MQ below (va_Qi post (mB D cI cJ cZ a) A) args s 0 0 A) 4 [(0, .ref (a 0)), (1, .int x1), (2, .int x2), (3, .int x3)] [] v f g) (x1 : Int32) (x3 : Int32) (t0 : Int32) (v : Nat → Int32) (f : Nat → Nat → Int32) (g : Nat → Nat → Int64) (h : r_withKey_37 (fun r v f g => post r (v, f, g)) R4 x1 x3 t0 v f g) : mG p l e (mRm 0 0) s m args below meth c A D cI cJ cZ a 4 (MQ below (va_Qi post (mB D cI cJ cZ a) A) args s 0 0 A) 37 [(0, .ref (a 0)), (1, .int x1), (3, .int x3)] [.int t0] v f g := by
  unfold r_withKey_37 at h
  refine mg_istore_n C (i := 2) (lv' := [(2, .int t0), (0, .ref (a 0)), (1, .int x1), (3, .int x3)]) rfl (Nat.le_of_ble_eq_true rfl) rfl dX12_withKey_37 ?_
  obtain ⟨x3_2, e_x3_2⟩ : ∃ z : Int32, z = x3 + nI 1 := ⟨_, rfl⟩
  have h := h x3_2 e_x3_2
  refine mg_iinc C (lv' := [(3, .int x3_2), (2, .int t0), (0, .ref (a 0)), (1, .int x1)]) 3 rfl (by rw [e_x3_2]; rfl) (Nat.le_of_ble_eq_true rfl) rfl dX12_withKey_38 ?_
  refine mg_goto C 4 (by decide) dX12_withKey_41 ?_
  exact mg_sub [2, 3, 1, 0] rfl (hR4 x1 t0 x3_2 v f g h)
set_option maxRecDepth 20000 in
theorem sb_withKey_4 (C : mC p s m args meth c cX12_withKey 4 (some .int) A D cI cJ cZ) {post : Int32 → mS → Prop} {R4 : Int32 → Int32 → Int32 → (Nat → Int32) → (Nat → Nat → Int32) → (Nat → Nat → Int64) → Prop} (hR4 : ∀ (x1 : Int32) (x2 : Int32) (x3 : Int32) (v : Nat → Int32) (f : Nat → Nat → Int32) (g : Nat → Nat → Int64), R4 x1 x2 x3 v f g → mG p l e (mRm 0 0) s m args below meth c A D cI cJ cZ a 4 (MQ below (va_Qi post (mB D cI cJ cZ a) A) args s 0 0 A) 4 [(0, .ref (a 0)), (1, .int x1), (2, .int x2), (3, .int x3)] [] v f g) (x1 : Int32) (x2 : Int32) (x3 : Int32) (v : Nat → Int32) (f : Nat → Nat → Int32) (g : Nat → Nat → Int64) (h : r_withKey_4 (fun r v f g => post r (v, f, g)) R4 x1 x2 x3 v f g) : mG p l e (mRm 0 0) s m args below meth c A D cI cJ cZ a 4 (MQ below (va_Qi post (mB D cI cJ cZ a) A) args s 0 0 A) 4 [(0, .ref (a 0)), (1, .int x1), (2, .int x2), (3, .int x3)] [] v f g := by
  unfold r_withKey_4 at h
  refine mg_iload_n C (i := 3) rfl 3 rfl dX12_withKey_4 ?_
  refine mg_aload_n C (i := 0) rfl 0 rfl dX12_withKey_5 ?_
  refine mg_getI C (k := 60) (by decide) rfl mL_liveMany rfl dX12_withKey_6 ?_
  refine mg_icmp_ge C 44 (by decide) dX12_withKey_9 (fun c_ => ?_) (fun c_ => ?_)
  · have h := h.1 c_
    refine mg_iload_n C (i := 2) rfl 2 rfl dX12_withKey_44 ?_
    exact mg_iret C h dX12_withKey_45
  · have h := h.2 c_
    refine mg_aload_n C (i := 0) rfl 0 rfl dX12_withKey_12 ?_
    refine mg_arr C 14 (by decide) (by decide) rfl mL_keys rfl dX12_withKey_13 ?_
    refine mg_aload_n C (i := 0) rfl 0 rfl dX12_withKey_16 ?_
    refine mg_arr C 38 (by decide) (by decide) rfl mL_alive rfl dX12_withKey_17 ?_
    refine mg_iload_n C (i := 3) rfl 3 rfl dX12_withKey_20 ?_
    obtain ⟨hc_21, h⟩ := h
    refine mg_ialoadR C (n := 2424) 38 (by decide) (by decide) rfl rfl hc_21 dX12_withKey_21 ?_
    obtain ⟨hc_22, h⟩ := h
    refine mg_ialoadR C (n := 2424) 14 (by decide) (by decide) rfl rfl hc_22 dX12_withKey_22 ?_
    refine mg_iload_n C (i := 1) rfl 1 rfl dX12_withKey_23 ?_
    refine mg_icmp_ne C 36 (by decide) dX12_withKey_24 (fun c_ => ?_) (fun c_ => ?_)
    · have h := h.1 c_
      refine mg_iload_n C (i := 2) rfl 2 rfl dX12_withKey_36 ?_
      exact mg_sub [0, 1, 3] rfl (sb_withKey_37 C hR4 x1 x3 x2 v f g h)
    · have h := h.2 c_
      refine mg_aload_n C (i := 0) rfl 0 rfl dX12_withKey_27 ?_
      refine mg_arr C 38 (by decide) (by decide) rfl mL_alive rfl dX12_withKey_28 ?_
      refine mg_iload_n C (i := 3) rfl 3 rfl dX12_withKey_31 ?_
      obtain ⟨hc_32, h⟩ := h
      refine mg_ialoadR C (n := 2424) 38 (by decide) (by decide) rfl rfl hc_32 dX12_withKey_32 ?_
      refine mg_goto C 37 (by decide) dX12_withKey_33 ?_
      exact mg_sub [0, 1, 3] rfl (sb_withKey_37 C hR4 x1 x3 ((f 38 (x3).toNatClampNeg)) v f g h)
set_option maxRecDepth 20000 in
theorem sl_withKey_4 (C : mC p s m args meth c cX12_withKey 4 (some .int) A D cI cJ cZ) {post : Int32 → mS → Prop}   (x1 : Int32) (x2 : Int32) (x3 : Int32) (v : Nat → Int32) (f : Nat → Nat → Int32) (g : Nat → Nat → Int64) (h : r_withKey_4L (fun r v f g => post r (v, f, g))  x1 x2 x3 v f g) : mG p l e (mRm 0 0) s m args below meth c A D cI cJ cZ a 4 (MQ below (va_Qi post (mB D cI cJ cZ a) A) args s 0 0 A) 4 [(0, .ref (a 0)), (1, .int x1), (2, .int x2), (3, .int x3)] [] v f g :=
  h (fun y => mG p l e (mRm 0 0) s m args below meth c A D cI cJ cZ a 4 (MQ below (va_Qi post (mB D cI cJ cZ a) A) args s 0 0 A) 4 [(0, .ref (a 0)), (1, .int (y.1)), (2, .int (y.2.1)), (3, .int (y.2.2.1))] [] (y.2.2.2.1) (y.2.2.2.2.1) (y.2.2.2.2.2)) (fun y hy => sb_withKey_4 C  (fun b0 b1 b2 v f g z => z) (y.1) (y.2.1) (y.2.2.1) (y.2.2.2.1) (y.2.2.2.2.1) (y.2.2.2.2.2) hy)
end S_withKey
set_option maxHeartbeats 1000000 in
set_option maxRecDepth 20000 in
theorem s_withKey (l : Launch) (x1 : Int32) (v : Nat → Int32) (f : Nat → Nat → Int32) (g : Nat → Nat → Int64) {P : Int32 → (Nat → Int32) → (Nat → Nat → Int32) → (Nat → Nat → Int64) → Prop} (h : r_withKey P x1 v f g) : mMi l yX12_withKey cX12_withKey 4 (some .int) 0 0 false [.int x1] v f g (fun r w => P r w.1 w.2.1 w.2.2) := by
  intro D cI cJ cZ a sz
  refine mg_body (by decide +kernel) rfl (Nat.le_of_ble_eq_true rfl) ?_
  intro p e s m args below meth c hsz C
  clear hsz
  generalize va_A (mW cI cJ cZ a v f g) sz = A at C ⊢
  refine mg_lv (lv' := [(0, .ref (a 0)), (1, .int x1)]) rfl ?_
  unfold r_withKey at h
  refine mg_iconst C (x := (-1)) rfl dX12_withKey_0 ?_
  refine mg_nmI (fun x2_1 e_x2_1 => ?_)
  have h := h x2_1 e_x2_1
  refine mg_istore_n C (i := 2) (lv' := [(2, .int x2_1), (0, .ref (a 0)), (1, .int x1)]) rfl (Nat.le_of_ble_eq_true rfl) rfl dX12_withKey_1 ?_
  refine mg_iconst C (x := nI 0) rfl dX12_withKey_2 ?_
  refine mg_istore_n C (i := 3) (lv' := [(3, .int ((nI 0))), (2, .int x2_1), (0, .ref (a 0)), (1, .int x1)]) rfl (Nat.le_of_ble_eq_true rfl) rfl dX12_withKey_3 ?_
  exact mg_sub [2, 3, 1, 0] rfl (sl_withKey_4 C  x1 x2_1 (((nI 0))) v f g h)
def r_rankByScan_30 (Q : Int32 → (Nat → Int32) → (Nat → Nat → Int32) → (Nat → Nat → Int64) → Prop)  (x2 : Int32) (x3 : Int32) (x4 : Int32) (t0 : Int32) (v : Nat → Int32) (f : Nat → Nat → Int32) (g : Nat → Nat → Int64) : Prop :=
r_goes (fun r_3 v_3 f_3 g_3 => 
((¬ r_3 = 0 →
  r_readies (fun v_4 f_4 g_4 => 
  r_withKey (fun r_5 v_5 f_5 g_5 => 
  ((¬ r_5 = (((-1))) →
    r_gives1 (fun r_6 v_6 f_6 g_6 => 
    Q r_6 v_6 f_6 g_6) x2 r_5 v_5 f_5 g_5) ∧
   (r_5 = (((-1))) →
    Q (((-1))) v_5 f_5 g_5))) x3 v_4 f_4 g_4) x4 x2 v_3 f_3 g_3) ∧
 (r_3 = 0 →
  Q ((nI 0)) v_3 f_3 g_3))) t0 ((nI 1)) ((nI 1)) v f g
def r_rankByScan_29 (Q : Int32 → (Nat → Int32) → (Nat → Nat → Int32) → (Nat → Nat → Int64) → Prop)  (x2 : Int32) (x3 : Int32) (x4 : Int32) (v : Nat → Int32) (f : Nat → Nat → Int32) (g : Nat → Nat → Int64) : Prop :=
r_rankByScan_30 Q  x2 x3 x4 ((nI 0)) v f g
def r_rankByScan (Q : Int32 → (Nat → Int32) → (Nat → Nat → Int32) → (Nat → Nat → Int64) → Prop) (x1 : Int32) (x2 : Int32) (x3 : Int32) (v : Nat → Int32) (f : Nat → Nat → Int32) (g : Nat → Nat → Int64) : Prop :=
r_slotOf (fun r_1 v_1 f_1 g_1 => 
r_isAsked (fun r_2 v_2 f_2 g_2 => 
((r_2 = 0 →
  r_rankByScan_29 Q  x2 x3 r_1 v_2 f_2 g_2) ∧
 (¬ r_2 = 0 →
  r_isKey (fun r_7 v_7 f_7 g_7 => 
  ((r_7 = 0 →
    r_rankByScan_29 Q  x2 x3 r_1 v_7 f_7 g_7) ∧
   (¬ r_7 = 0 →
    r_rankByScan_30 Q  x2 x3 r_1 ((nI 1)) v_7 f_7 g_7))) x3 v_2 f_2 g_2))) r_1 x2 v_1 f_1 g_1) x1 v f g
section S_rankByScan
variable {p : Program} {l : Launch} {e : Env} {s : State} {m : MethodId} {args : Array Value} {below : List Frame} {meth : Method} {c : Code} {A : Nat → Prop} {D : va_G} {cI cJ cZ : ClassId} {a : Nat → Nat}
set_option maxRecDepth 20000 in
theorem sb_rankByScan_30 (C : mC p s m args meth c cX12_rankByScan 6 (some .int) A D cI cJ cZ) {post : Int32 → mS → Prop}   (x2 : Int32) (x3 : Int32) (x4 : Int32) (t0 : Int32) (v : Nat → Int32) (f : Nat → Nat → Int32) (g : Nat → Nat → Int64) (h : r_rankByScan_30 (fun r v f g => post r (v, f, g))  x2 x3 x4 t0 v f g) : mG p l e (mRm 7 182) s m args below meth c A D cI cJ cZ a 6 (MQ below (va_Qi post (mB D cI cJ cZ a) A) args s 0 0 A) 30 [(0, .ref (a 0)), (2, .int x2), (3, .int x3), (4, .int x4)] [.int t0, .ref (a 0)] v f g := by
  unfold r_rankByScan_30 at h
  refine mg_iconst C (x := nI 1) rfl dX12_rankByScan_30 ?_
  refine mg_iconst C (x := nI 1) rfl dX12_rankByScan_31 ?_
  refine mg_calliW C (s_goes l t0 ((nI 1)) ((nI 1)) v f g h) mCal_goes rfl ⟨by decide, by decide⟩ rfl (Nat.le_of_ble_eq_true rfl) dX12_rankByScan_32 (fun r_3 v_3 f_3 g_3 h => ?_)
  refine mg_if_ne C 40 (by decide) dX12_rankByScan_35 (fun c_ => ?_) (fun c_ => ?_)
  · have h := h.1 c_
    refine mg_aload_n C (i := 0) rfl 0 rfl dX12_rankByScan_40 ?_
    refine mg_iload C 3 rfl dX12_rankByScan_41 ?_
    refine mg_iload_n C (i := 2) rfl 1 rfl dX12_rankByScan_43 ?_
    refine mg_callvW C (s_readies l x4 x2 v_3 f_3 g_3 h) mCal_readies rfl ⟨by decide, by decide⟩ rfl (Nat.le_of_ble_eq_true rfl) dX12_rankByScan_44 (fun v_4 f_4 g_4 h => ?_)
    refine mg_aload_n C (i := 0) rfl 0 rfl dX12_rankByScan_47 ?_
    refine mg_iload_n C (i := 3) rfl 2 rfl dX12_rankByScan_48 ?_
    refine mg_calliW C (s_withKey l x3 v_4 f_4 g_4 h) mCal_withKey rfl ⟨by decide, by decide⟩ rfl (Nat.le_of_ble_eq_true rfl) dX12_rankByScan_49 (fun r_5 v_5 f_5 g_5 h => ?_)
    refine mg_istore C (lv' := [(5, .int r_5), (0, .ref (a 0)), (2, .int x2), (3, .int x3), (4, .int x4)]) (Nat.le_of_ble_eq_true rfl) rfl dX12_rankByScan_52 ?_
    refine mg_iload C 0 rfl dX12_rankByScan_54 ?_
    refine mg_iconst C (x := (-1)) rfl dX12_rankByScan_56 ?_
    refine mg_icmp_ne C 64 (by decide) dX12_rankByScan_57 (fun c_ => ?_) (fun c_ => ?_)
    · have h := h.1 c_
      refine mg_aload_n C (i := 0) rfl 1 rfl dX12_rankByScan_64 ?_
      refine mg_iload_n C (i := 2) rfl 2 rfl dX12_rankByScan_65 ?_
      refine mg_iload C 0 rfl dX12_rankByScan_66 ?_
      refine mg_calliW C (s_gives1 l x2 r_5 v_5 f_5 g_5 h) mCal_gives1 rfl ⟨by decide, by decide⟩ rfl (Nat.le_of_ble_eq_true rfl) dX12_rankByScan_68 (fun r_6 v_6 f_6 g_6 h => ?_)
      exact mg_iret C h dX12_rankByScan_71
    · have h := h.2 c_
      refine mg_iconst C (x := (-1)) rfl dX12_rankByScan_60 ?_
      refine mg_goto C 71 (by decide) dX12_rankByScan_61 ?_
      exact mg_iret C h dX12_rankByScan_71
  · have h := h.2 c_
    refine mg_iconst C (x := nI 0) rfl dX12_rankByScan_38 ?_
    exact mg_iret C h dX12_rankByScan_39
set_option maxRecDepth 20000 in
theorem sb_rankByScan_29 (C : mC p s m args meth c cX12_rankByScan 6 (some .int) A D cI cJ cZ) {post : Int32 → mS → Prop}   (x2 : Int32) (x3 : Int32) (x4 : Int32) (v : Nat → Int32) (f : Nat → Nat → Int32) (g : Nat → Nat → Int64) (h : r_rankByScan_29 (fun r v f g => post r (v, f, g))  x2 x3 x4 v f g) : mG p l e (mRm 7 182) s m args below meth c A D cI cJ cZ a 6 (MQ below (va_Qi post (mB D cI cJ cZ a) A) args s 0 0 A) 29 [(0, .ref (a 0)), (2, .int x2), (3, .int x3), (4, .int x4)] [.ref (a 0)] v f g := by
  unfold r_rankByScan_29 at h
  refine mg_iconst C (x := nI 0) rfl dX12_rankByScan_29 ?_
  exact mg_sub [0, 1, 2, 3] rfl (sb_rankByScan_30 C  x2 x3 x4 ((nI 0)) v f g h)
end S_rankByScan
set_option maxHeartbeats 1000000 in
set_option maxRecDepth 20000 in
theorem s_rankByScan (l : Launch) (x1 : Int32) (x2 : Int32) (x3 : Int32) (v : Nat → Int32) (f : Nat → Nat → Int32) (g : Nat → Nat → Int64) {P : Int32 → (Nat → Int32) → (Nat → Nat → Int32) → (Nat → Nat → Int64) → Prop} (h : r_rankByScan P x1 x2 x3 v f g) : mMi l yX12_rankByScan cX12_rankByScan 6 (some .int) 7 182 false [.int x1, .int x2, .int x3] v f g (fun r w => P r w.1 w.2.1 w.2.2) := by
  intro D cI cJ cZ a sz
  refine mg_body (by decide +kernel) rfl (Nat.le_of_ble_eq_true rfl) ?_
  intro p e s m args below meth c hsz C
  clear hsz
  generalize va_A (mW cI cJ cZ a v f g) sz = A at C ⊢
  refine mg_lv (lv' := [(0, .ref (a 0)), (1, .int x1), (2, .int x2), (3, .int x3)]) rfl ?_
  unfold r_rankByScan at h
  refine mg_aload_n C (i := 0) rfl 0 rfl dX12_rankByScan_0 ?_
  refine mg_iload_n C (i := 1) rfl 1 rfl dX12_rankByScan_1 ?_
  refine mg_calliW C (s_slotOf l x1 v f g h) mCal_slotOf rfl ⟨by decide, by decide⟩ rfl (Nat.le_of_ble_eq_true rfl) dX12_rankByScan_2 (fun r_1 v_1 f_1 g_1 h => ?_)
  refine mg_istore C (lv' := [(4, .int r_1), (0, .ref (a 0)), (1, .int x1), (2, .int x2), (3, .int x3)]) (Nat.le_of_ble_eq_true rfl) rfl dX12_rankByScan_5 ?_
  refine mg_aload_n C (i := 0) rfl 1 rfl dX12_rankByScan_7 ?_
  refine mg_aload_n C (i := 0) rfl 1 rfl dX12_rankByScan_8 ?_
  refine mg_iload C 0 rfl dX12_rankByScan_9 ?_
  refine mg_iload_n C (i := 2) rfl 3 rfl dX12_rankByScan_11 ?_
  refine mg_calliW C (s_isAsked l r_1 x2 v_1 f_1 g_1 h) mCal_isAsked rfl ⟨by decide, by decide⟩ rfl (Nat.le_of_ble_eq_true rfl) dX12_rankByScan_12 (fun r_2 v_2 f_2 g_2 h => ?_)
  refine mg_if_eq C 29 (by decide) dX12_rankByScan_15 (fun c_ => ?_) (fun c_ => ?_)
  · have h := h.1 c_
    exact mg_sub [1, 3, 4, 0] rfl (sb_rankByScan_29 C  x2 x3 r_1 v_2 f_2 g_2 h)
  · have h := h.2 c_
    refine mg_iload_n C (i := 3) rfl 4 rfl dX12_rankByScan_18 ?_
    refine mg_callsiW C (s_isKey l x3 v_2 f_2 g_2 h) mCal_isKey rfl ⟨by decide, by decide⟩ rfl (Nat.le_of_ble_eq_true rfl) dX12_rankByScan_19 (fun r_7 v_7 f_7 g_7 h => ?_)
    refine mg_if_eq C 29 (by decide) dX12_rankByScan_22 (fun c_ => ?_) (fun c_ => ?_)
    · have h := h.1 c_
      exact mg_sub [1, 3, 4, 0] rfl (sb_rankByScan_29 C  x2 x3 r_1 v_7 f_7 g_7 h)
    · have h := h.2 c_
      refine mg_iconst C (x := nI 1) rfl dX12_rankByScan_25 ?_
      refine mg_goto C 30 (by decide) dX12_rankByScan_26 ?_
      exact mg_sub [1, 3, 4, 0] rfl (sb_rankByScan_30 C  x2 x3 r_1 ((nI 1)) v_7 f_7 g_7 h)
def r_matching_65 (Q : Int32 → (Nat → Int32) → (Nat → Nat → Int32) → (Nat → Nat → Int64) → Prop) (R12 : Int32 → Int32 → Int32 → Int32 → (Nat → Int32) → (Nat → Nat → Int32) → (Nat → Nat → Int64) → Prop) (x2 : Int32) (x3 : Int32) (x5 : Int32) (t0 : Int32) (t1 : Int32) (v : Nat → Int32) (f : Nat → Nat → Int32) (g : Nat → Nat → Int64) : Prop :=
∀ x4_3 : Int32, x4_3 = (t1 + t0) → ∀ x5_4 : Int32, x5_4 = x5 + nI 1 → R12 x2 x3 x4_3 x5_4 v f g
def r_matching_64 (Q : Int32 → (Nat → Int32) → (Nat → Nat → Int32) → (Nat → Nat → Int64) → Prop) (R12 : Int32 → Int32 → Int32 → Int32 → (Nat → Int32) → (Nat → Nat → Int32) → (Nat → Nat → Int64) → Prop) (x2 : Int32) (x3 : Int32) (x5 : Int32) (t0 : Int32) (v : Nat → Int32) (f : Nat → Nat → Int32) (g : Nat → Nat → Int64) : Prop :=
r_matching_65 Q R12 x2 x3 x5 ((nI 0)) t0 v f g
def r_matching_44 (Q : Int32 → (Nat → Int32) → (Nat → Nat → Int32) → (Nat → Nat → Int64) → Prop) (R12 : Int32 → Int32 → Int32 → Int32 → (Nat → Int32) → (Nat → Nat → Int32) → (Nat → Nat → Int64) → Prop) (x2 : Int32) (x3 : Int32) (x5 : Int32) (t0 : Int32) (v : Nat → Int32) (f : Nat → Nat → Int32) (g : Nat → Nat → Int64) : Prop :=
vp_in x5 2424 ∧ (r_gives1 (fun r_2 v_2 f_2 g_2 => 
((r_2 = (((-1))) →
  r_matching_64 Q R12 x2 x3 x5 t0 v_2 f_2 g_2) ∧
 (¬ r_2 = (((-1))) →
  r_matching_65 Q R12 x2 x3 x5 ((nI 1)) t0 v_2 f_2 g_2))) x2 ((f 38 (x5).toNatClampNeg)) v f g)
def r_matching_12 (Q : Int32 → (Nat → Int32) → (Nat → Nat → Int32) → (Nat → Nat → Int64) → Prop) (R12 : Int32 → Int32 → Int32 → Int32 → (Nat → Int32) → (Nat → Nat → Int32) → (Nat → Nat → Int64) → Prop) (x2 : Int32) (x3 : Int32) (x4 : Int32) (x5 : Int32) (v : Nat → Int32) (f : Nat → Nat → Int32) (g : Nat → Nat → Int64) : Prop :=
((((v 60)) ≤ x5 →
  Q x4 v f g) ∧
 (¬ ((v 60)) ≤ x5 →
  ((x3 = (((-1))) →
    r_matching_44 Q R12 x2 x3 x5 x4 v f g) ∧
   (¬ x3 = (((-1))) →
    vp_in x5 2424 ∧ (vp_in ((f 38 (x5).toNatClampNeg)) 2424 ∧ (((¬ ((f 15 ((f 38 (x5).toNatClampNeg)).toNatClampNeg)) = x3 →
      r_matching_64 Q R12 x2 x3 x5 x4 v f g) ∧
     (((f 15 ((f 38 (x5).toNatClampNeg)).toNatClampNeg)) = x3 →
      r_matching_44 Q R12 x2 x3 x5 x4 v f g))))))))
def r_matching_12L (Q : Int32 → (Nat → Int32) → (Nat → Nat → Int32) → (Nat → Nat → Int64) → Prop)  (x2 : Int32) (x3 : Int32) (x4 : Int32) (x5 : Int32) (v : Nat → Int32) (f : Nat → Nat → Int32) (g : Nat → Nat → Int64) : Prop :=
  lfp (X := Int32 × Int32 × Int32 × Int32 × (Nat → Int32) × (Nat → Nat → Int32) × (Nat → Nat → Int64)) (fun P y => r_matching_12 Q  (fun b0 b1 b2 b3 v f g => P (b0, b1, b2, b3, v, f, g)) y.1 y.2.1 y.2.2.1 y.2.2.2.1 y.2.2.2.2.1 y.2.2.2.2.2.1 y.2.2.2.2.2.2) (x2, x3, x4, x5, v, f, g)
def r_matching (Q : Int32 → (Nat → Int32) → (Nat → Nat → Int32) → (Nat → Nat → Int64) → Prop) (x1 : Int32) (x2 : Int32) (x3 : Int32) (v : Nat → Int32) (f : Nat → Nat → Int32) (g : Nat → Nat → Int64) : Prop :=
r_readies (fun v_1 f_1 g_1 => 
r_matching_12L Q  x2 x3 (((nI 0))) (((nI 0))) v_1 f_1 g_1) x1 x2 v f g
section S_matching
variable {p : Program} {l : Launch} {e : Env} {s : State} {m : MethodId} {args : Array Value} {below : List Frame} {meth : Method} {c : Code} {A : Nat → Prop} {D : va_G} {cI cJ cZ : ClassId} {a : Nat → Nat}
set_option maxRecDepth 20000 in
theorem sb_matching_65 (C : mC p s m args meth c cX12_matching 6 (some .int) A D cI cJ cZ) {post : Int32 → mS → Prop} {R12 : Int32 → Int32 → Int32 → Int32 → (Nat → Int32) → (Nat → Nat → Int32) → (Nat → Nat → Int64) → Prop} (hR12 : ∀ (x2 : Int32) (x3 : Int32) (x4 : Int32) (x5 : Int32) (v : Nat → Int32) (f : Nat → Nat → Int32) (g : Nat → Nat → Int64), R12 x2 x3 x4 x5 v f g → mG p l e (mRm 7 182) s m args below meth c A D cI cJ cZ a 6 (MQ below (va_Qi post (mB D cI cJ cZ a) A) args s 0 0 A) 12 [(0, .ref (a 0)), (2, .int x2), (3, .int x3), (4, .int x4), (5, .int x5)] [] v f g) (x2 : Int32) (x3 : Int32) (x5 : Int32) (t0 : Int32) (t1 : Int32) (v : Nat → Int32) (f : Nat → Nat → Int32) (g : Nat → Nat → Int64) (h : r_matching_65 (fun r v f g => post r (v, f, g)) R12 x2 x3 x5 t0 t1 v f g) : mG p l e (mRm 7 182) s m args below meth c A D cI cJ cZ a 6 (MQ below (va_Qi post (mB D cI cJ cZ a) A) args s 0 0 A) 65 [(0, .ref (a 0)), (2, .int x2), (3, .int x3), (5, .int x5)] [.int t0, .int t1] v f g := by
  unfold r_matching_65 at h
  refine mg_iadd C dX12_matching_65 ?_
  refine mg_nmI (fun x4_3 e_x4_3 => ?_)
  have h := h x4_3 e_x4_3
  refine mg_istore C (lv' := [(4, .int x4_3), (0, .ref (a 0)), (2, .int x2), (3, .int x3), (5, .int x5)]) (Nat.le_of_ble_eq_true rfl) rfl dX12_matching_66 ?_
  obtain ⟨x5_4, e_x5_4⟩ : ∃ z : Int32, z = x5 + nI 1 := ⟨_, rfl⟩
  have h := h x5_4 e_x5_4
  refine mg_iinc C (lv' := [(5, .int x5_4), (4, .int x4_3), (0, .ref (a 0)), (2, .int x2), (3, .int x3)]) 4 rfl (by rw [e_x5_4]; rfl) (Nat.le_of_ble_eq_true rfl) rfl dX12_matching_68 ?_
  refine mg_goto C 12 (by decide) dX12_matching_71 ?_
  exact mg_sub [2, 3, 4, 1, 0] rfl (hR12 x2 x3 x4_3 x5_4 v f g h)
set_option maxRecDepth 20000 in
theorem sb_matching_64 (C : mC p s m args meth c cX12_matching 6 (some .int) A D cI cJ cZ) {post : Int32 → mS → Prop} {R12 : Int32 → Int32 → Int32 → Int32 → (Nat → Int32) → (Nat → Nat → Int32) → (Nat → Nat → Int64) → Prop} (hR12 : ∀ (x2 : Int32) (x3 : Int32) (x4 : Int32) (x5 : Int32) (v : Nat → Int32) (f : Nat → Nat → Int32) (g : Nat → Nat → Int64), R12 x2 x3 x4 x5 v f g → mG p l e (mRm 7 182) s m args below meth c A D cI cJ cZ a 6 (MQ below (va_Qi post (mB D cI cJ cZ a) A) args s 0 0 A) 12 [(0, .ref (a 0)), (2, .int x2), (3, .int x3), (4, .int x4), (5, .int x5)] [] v f g) (x2 : Int32) (x3 : Int32) (x5 : Int32) (t0 : Int32) (v : Nat → Int32) (f : Nat → Nat → Int32) (g : Nat → Nat → Int64) (h : r_matching_64 (fun r v f g => post r (v, f, g)) R12 x2 x3 x5 t0 v f g) : mG p l e (mRm 7 182) s m args below meth c A D cI cJ cZ a 6 (MQ below (va_Qi post (mB D cI cJ cZ a) A) args s 0 0 A) 64 [(0, .ref (a 0)), (2, .int x2), (3, .int x3), (5, .int x5)] [.int t0] v f g := by
  unfold r_matching_64 at h
  refine mg_iconst C (x := nI 0) rfl dX12_matching_64 ?_
  exact mg_sub [0, 1, 2, 3] rfl (sb_matching_65 C hR12 x2 x3 x5 ((nI 0)) t0 v f g h)
set_option maxRecDepth 20000 in
theorem sb_matching_44 (C : mC p s m args meth c cX12_matching 6 (some .int) A D cI cJ cZ) {post : Int32 → mS → Prop} {R12 : Int32 → Int32 → Int32 → Int32 → (Nat → Int32) → (Nat → Nat → Int32) → (Nat → Nat → Int64) → Prop} (hR12 : ∀ (x2 : Int32) (x3 : Int32) (x4 : Int32) (x5 : Int32) (v : Nat → Int32) (f : Nat → Nat → Int32) (g : Nat → Nat → Int64), R12 x2 x3 x4 x5 v f g → mG p l e (mRm 7 182) s m args below meth c A D cI cJ cZ a 6 (MQ below (va_Qi post (mB D cI cJ cZ a) A) args s 0 0 A) 12 [(0, .ref (a 0)), (2, .int x2), (3, .int x3), (4, .int x4), (5, .int x5)] [] v f g) (x2 : Int32) (x3 : Int32) (x5 : Int32) (t0 : Int32) (v : Nat → Int32) (f : Nat → Nat → Int32) (g : Nat → Nat → Int64) (h : r_matching_44 (fun r v f g => post r (v, f, g)) R12 x2 x3 x5 t0 v f g) : mG p l e (mRm 7 182) s m args below meth c A D cI cJ cZ a 6 (MQ below (va_Qi post (mB D cI cJ cZ a) A) args s 0 0 A) 44 [(0, .ref (a 0)), (2, .int x2), (3, .int x3), (5, .int x5)] [.int t0] v f g := by
  unfold r_matching_44 at h
  refine mg_aload_n C (i := 0) rfl 0 rfl dX12_matching_44 ?_
  refine mg_iload_n C (i := 2) rfl 1 rfl dX12_matching_45 ?_
  refine mg_aload_n C (i := 0) rfl 0 rfl dX12_matching_46 ?_
  refine mg_arr C 38 (by decide) (by decide) rfl mL_alive rfl dX12_matching_47 ?_
  refine mg_iload C 3 rfl dX12_matching_50 ?_
  obtain ⟨hc_52, h⟩ := h
  refine mg_ialoadR C (n := 2424) 38 (by decide) (by decide) rfl rfl hc_52 dX12_matching_52 ?_
  refine mg_calliW C (s_gives1 l x2 ((f 38 (x5).toNatClampNeg)) v f g h) mCal_gives1 rfl ⟨by decide, by decide⟩ rfl (Nat.le_of_ble_eq_true rfl) dX12_matching_53 (fun r_2 v_2 f_2 g_2 h => ?_)
  refine mg_iconst C (x := (-1)) rfl dX12_matching_56 ?_
  refine mg_icmp_eq C 64 (by decide) dX12_matching_57 (fun c_ => ?_) (fun c_ => ?_)
  · have h := h.1 c_
    exact mg_sub [0, 1, 2, 3] rfl (sb_matching_64 C hR12 x2 x3 x5 t0 v_2 f_2 g_2 h)
  · have h := h.2 c_
    refine mg_iconst C (x := nI 1) rfl dX12_matching_60 ?_
    refine mg_goto C 65 (by decide) dX12_matching_61 ?_
    exact mg_sub [0, 1, 2, 3] rfl (sb_matching_65 C hR12 x2 x3 x5 ((nI 1)) t0 v_2 f_2 g_2 h)
set_option maxRecDepth 20000 in
theorem sb_matching_12 (C : mC p s m args meth c cX12_matching 6 (some .int) A D cI cJ cZ) {post : Int32 → mS → Prop} {R12 : Int32 → Int32 → Int32 → Int32 → (Nat → Int32) → (Nat → Nat → Int32) → (Nat → Nat → Int64) → Prop} (hR12 : ∀ (x2 : Int32) (x3 : Int32) (x4 : Int32) (x5 : Int32) (v : Nat → Int32) (f : Nat → Nat → Int32) (g : Nat → Nat → Int64), R12 x2 x3 x4 x5 v f g → mG p l e (mRm 7 182) s m args below meth c A D cI cJ cZ a 6 (MQ below (va_Qi post (mB D cI cJ cZ a) A) args s 0 0 A) 12 [(0, .ref (a 0)), (2, .int x2), (3, .int x3), (4, .int x4), (5, .int x5)] [] v f g) (x2 : Int32) (x3 : Int32) (x4 : Int32) (x5 : Int32) (v : Nat → Int32) (f : Nat → Nat → Int32) (g : Nat → Nat → Int64) (h : r_matching_12 (fun r v f g => post r (v, f, g)) R12 x2 x3 x4 x5 v f g) : mG p l e (mRm 7 182) s m args below meth c A D cI cJ cZ a 6 (MQ below (va_Qi post (mB D cI cJ cZ a) A) args s 0 0 A) 12 [(0, .ref (a 0)), (2, .int x2), (3, .int x3), (4, .int x4), (5, .int x5)] [] v f g := by
  unfold r_matching_12 at h
  refine mg_iload C 4 rfl dX12_matching_12 ?_
  refine mg_aload_n C (i := 0) rfl 0 rfl dX12_matching_14 ?_
  refine mg_getI C (k := 60) (by decide) rfl mL_liveMany rfl dX12_matching_15 ?_
  refine mg_icmp_ge C 74 (by decide) dX12_matching_18 (fun c_ => ?_) (fun c_ => ?_)
  · have h := h.1 c_
    refine mg_iload C 3 rfl dX12_matching_74 ?_
    exact mg_iret C h dX12_matching_76
  · have h := h.2 c_
    refine mg_iload C 3 rfl dX12_matching_21 ?_
    refine mg_iload_n C (i := 3) rfl 2 rfl dX12_matching_23 ?_
    refine mg_iconst C (x := (-1)) rfl dX12_matching_24 ?_
    refine mg_icmp_eq C 44 (by decide) dX12_matching_25 (fun c_ => ?_) (fun c_ => ?_)
    · have h := h.1 c_
      exact mg_sub [0, 1, 2, 4] rfl (sb_matching_44 C hR12 x2 x3 x5 x4 v f g h)
    · have h := h.2 c_
      refine mg_aload_n C (i := 0) rfl 0 rfl dX12_matching_28 ?_
      refine mg_arr C 15 (by decide) (by decide) rfl mL_categories rfl dX12_matching_29 ?_
      refine mg_aload_n C (i := 0) rfl 0 rfl dX12_matching_32 ?_
      refine mg_arr C 38 (by decide) (by decide) rfl mL_alive rfl dX12_matching_33 ?_
      refine mg_iload C 4 rfl dX12_matching_36 ?_
      obtain ⟨hc_38, h⟩ := h
      refine mg_ialoadR C (n := 2424) 38 (by decide) (by decide) rfl rfl hc_38 dX12_matching_38 ?_
      obtain ⟨hc_39, h⟩ := h
      refine mg_ialoadR C (n := 2424) 15 (by decide) (by decide) rfl rfl hc_39 dX12_matching_39 ?_
      refine mg_iload_n C (i := 3) rfl 2 rfl dX12_matching_40 ?_
      refine mg_icmp_ne C 64 (by decide) dX12_matching_41 (fun c_ => ?_) (fun c_ => ?_)
      · have h := h.1 c_
        exact mg_sub [0, 1, 2, 4] rfl (sb_matching_64 C hR12 x2 x3 x5 x4 v f g h)
      · have h := h.2 c_
        exact mg_sub [0, 1, 2, 4] rfl (sb_matching_44 C hR12 x2 x3 x5 x4 v f g h)
set_option maxRecDepth 20000 in
theorem sl_matching_12 (C : mC p s m args meth c cX12_matching 6 (some .int) A D cI cJ cZ) {post : Int32 → mS → Prop}   (x2 : Int32) (x3 : Int32) (x4 : Int32) (x5 : Int32) (v : Nat → Int32) (f : Nat → Nat → Int32) (g : Nat → Nat → Int64) (h : r_matching_12L (fun r v f g => post r (v, f, g))  x2 x3 x4 x5 v f g) : mG p l e (mRm 7 182) s m args below meth c A D cI cJ cZ a 6 (MQ below (va_Qi post (mB D cI cJ cZ a) A) args s 0 0 A) 12 [(0, .ref (a 0)), (2, .int x2), (3, .int x3), (4, .int x4), (5, .int x5)] [] v f g :=
  h (fun y => mG p l e (mRm 7 182) s m args below meth c A D cI cJ cZ a 6 (MQ below (va_Qi post (mB D cI cJ cZ a) A) args s 0 0 A) 12 [(0, .ref (a 0)), (2, .int (y.1)), (3, .int (y.2.1)), (4, .int (y.2.2.1)), (5, .int (y.2.2.2.1))] [] (y.2.2.2.2.1) (y.2.2.2.2.2.1) (y.2.2.2.2.2.2)) (fun y hy => sb_matching_12 C  (fun b0 b1 b2 b3 v f g z => z) (y.1) (y.2.1) (y.2.2.1) (y.2.2.2.1) (y.2.2.2.2.1) (y.2.2.2.2.2.1) (y.2.2.2.2.2.2) hy)
end S_matching
set_option maxHeartbeats 1000000 in
set_option maxRecDepth 20000 in
theorem s_matching (l : Launch) (x1 : Int32) (x2 : Int32) (x3 : Int32) (v : Nat → Int32) (f : Nat → Nat → Int32) (g : Nat → Nat → Int64) {P : Int32 → (Nat → Int32) → (Nat → Nat → Int32) → (Nat → Nat → Int64) → Prop} (h : r_matching P x1 x2 x3 v f g) : mMi l yX12_matching cX12_matching 6 (some .int) 7 182 false [.int x1, .int x2, .int x3] v f g (fun r w => P r w.1 w.2.1 w.2.2) := by
  intro D cI cJ cZ a sz
  refine mg_body (by decide +kernel) rfl (Nat.le_of_ble_eq_true rfl) ?_
  intro p e s m args below meth c hsz C
  clear hsz
  generalize va_A (mW cI cJ cZ a v f g) sz = A at C ⊢
  refine mg_lv (lv' := [(0, .ref (a 0)), (1, .int x1), (2, .int x2), (3, .int x3)]) rfl ?_
  unfold r_matching at h
  refine mg_iconst C (x := nI 0) rfl dX12_matching_0 ?_
  refine mg_istore C (lv' := [(4, .int ((nI 0))), (0, .ref (a 0)), (1, .int x1), (2, .int x2), (3, .int x3)]) (Nat.le_of_ble_eq_true rfl) rfl dX12_matching_1 ?_
  refine mg_aload_n C (i := 0) rfl 1 rfl dX12_matching_3 ?_
  refine mg_iload_n C (i := 1) rfl 2 rfl dX12_matching_4 ?_
  refine mg_iload_n C (i := 2) rfl 3 rfl dX12_matching_5 ?_
  refine mg_callvW C (s_readies l x1 x2 v f g h) mCal_readies rfl ⟨by decide, by decide⟩ rfl (Nat.le_of_ble_eq_true rfl) dX12_matching_6 (fun v_1 f_1 g_1 h => ?_)
  refine mg_iconst C (x := nI 0) rfl dX12_matching_9 ?_
  refine mg_istore C (lv' := [(5, .int ((nI 0))), (4, .int ((nI 0))), (0, .ref (a 0)), (1, .int x1), (2, .int x2), (3, .int x3)]) (Nat.le_of_ble_eq_true rfl) rfl dX12_matching_10 ?_
  exact mg_sub [2, 4, 5, 1, 0] rfl (sl_matching_12 C  x2 x3 (((nI 0))) (((nI 0))) v_1 f_1 g_1 h)
def r_matches (Q : Int32 → (Nat → Int32) → (Nat → Nat → Int32) → (Nat → Nat → Int64) → Prop) (x1 : Int32) (x2 : Int32) (v : Nat → Int32) (f : Nat → Nat → Int32) (g : Nat → Nat → Int64) : Prop :=
r_slotOf (fun r_1 v_1 f_1 g_1 => 
r_isAsked (fun r_2 v_2 f_2 g_2 => 
r_goes (fun r_3 v_3 f_3 g_3 => 
((r_3 = 0 →
  Q ((nI 0)) v_3 f_3 g_3) ∧
 (¬ r_3 = 0 →
  r_matching (fun r_4 v_4 f_4 g_4 => 
  Q r_4 v_4 f_4 g_4) r_1 x2 (((-1))) v_3 f_3 g_3))) r_2 ((nI 1)) ((nI 1)) v_2 f_2 g_2) r_1 x2 v_1 f_1 g_1) x1 v f g
set_option maxHeartbeats 1000000 in
set_option maxRecDepth 20000 in
theorem s_matches (l : Launch) (x1 : Int32) (x2 : Int32) (v : Nat → Int32) (f : Nat → Nat → Int32) (g : Nat → Nat → Int64) {P : Int32 → (Nat → Int32) → (Nat → Nat → Int32) → (Nat → Nat → Int64) → Prop} (h : r_matches P x1 x2 v f g) : mMi l yX12_matches cX12_matches 4 (some .int) 8 207 false [.int x1, .int x2] v f g (fun r w => P r w.1 w.2.1 w.2.2) := by
  intro D cI cJ cZ a sz
  refine mg_body (by decide +kernel) rfl (Nat.le_of_ble_eq_true rfl) ?_
  intro p e s m args below meth c hsz C
  clear hsz
  generalize va_A (mW cI cJ cZ a v f g) sz = A at C ⊢
  refine mg_lv (lv' := [(0, .ref (a 0)), (1, .int x1), (2, .int x2)]) rfl ?_
  unfold r_matches at h
  refine mg_aload_n C (i := 0) rfl 0 rfl dX12_matches_0 ?_
  refine mg_iload_n C (i := 1) rfl 1 rfl dX12_matches_1 ?_
  refine mg_calliW C (s_slotOf l x1 v f g h) mCal_slotOf rfl ⟨by decide, by decide⟩ rfl (Nat.le_of_ble_eq_true rfl) dX12_matches_2 (fun r_1 v_1 f_1 g_1 h => ?_)
  refine mg_istore_n C (i := 3) (lv' := [(3, .int r_1), (0, .ref (a 0)), (1, .int x1), (2, .int x2)]) rfl (Nat.le_of_ble_eq_true rfl) rfl dX12_matches_5 ?_
  refine mg_aload_n C (i := 0) rfl 1 rfl dX12_matches_6 ?_
  refine mg_aload_n C (i := 0) rfl 1 rfl dX12_matches_7 ?_
  refine mg_iload_n C (i := 3) rfl 0 rfl dX12_matches_8 ?_
  refine mg_iload_n C (i := 2) rfl 3 rfl dX12_matches_9 ?_
  refine mg_calliW C (s_isAsked l r_1 x2 v_1 f_1 g_1 h) mCal_isAsked rfl ⟨by decide, by decide⟩ rfl (Nat.le_of_ble_eq_true rfl) dX12_matches_10 (fun r_2 v_2 f_2 g_2 h => ?_)
  refine mg_iconst C (x := nI 1) rfl dX12_matches_13 ?_
  refine mg_iconst C (x := nI 1) rfl dX12_matches_14 ?_
  refine mg_calliW C (s_goes l r_2 ((nI 1)) ((nI 1)) v_2 f_2 g_2 h) mCal_goes rfl ⟨by decide, by decide⟩ rfl (Nat.le_of_ble_eq_true rfl) dX12_matches_15 (fun r_3 v_3 f_3 g_3 h => ?_)
  refine mg_if_eq C 31 (by decide) dX12_matches_18 (fun c_ => ?_) (fun c_ => ?_)
  · have h := h.1 c_
    refine mg_iconst C (x := nI 0) rfl dX12_matches_31 ?_
    exact mg_iret C h dX12_matches_32
  · have h := h.2 c_
    refine mg_aload_n C (i := 0) rfl 1 rfl dX12_matches_21 ?_
    refine mg_iload_n C (i := 3) rfl 0 rfl dX12_matches_22 ?_
    refine mg_iload_n C (i := 2) rfl 3 rfl dX12_matches_23 ?_
    refine mg_iconst C (x := (-1)) rfl dX12_matches_24 ?_
    refine mg_calliW C (s_matching l r_1 x2 (((-1))) v_3 f_3 g_3 h) mCal_matching rfl ⟨by decide, by decide⟩ rfl (Nat.le_of_ble_eq_true rfl) dX12_matches_25 (fun r_4 v_4 f_4 g_4 h => ?_)
    refine mg_goto C 32 (by decide) dX12_matches_28 ?_
    exact mg_iret C h dX12_matches_32
def r_matchesByScan (Q : Int32 → (Nat → Int32) → (Nat → Nat → Int32) → (Nat → Nat → Int64) → Prop) (x1 : Int32) (x2 : Int32) (v : Nat → Int32) (f : Nat → Nat → Int32) (g : Nat → Nat → Int64) : Prop :=
r_matches (fun r_1 v_1 f_1 g_1 => 
Q r_1 v_1 f_1 g_1) x1 x2 v f g
set_option maxHeartbeats 1000000 in
set_option maxRecDepth 20000 in
theorem s_matchesByScan (l : Launch) (x1 : Int32) (x2 : Int32) (v : Nat → Int32) (f : Nat → Nat → Int32) (g : Nat → Nat → Int64) {P : Int32 → (Nat → Int32) → (Nat → Nat → Int32) → (Nat → Nat → Int64) → Prop} (h : r_matchesByScan P x1 x2 v f g) : mMi l yX12_matchesByScan cX12_matchesByScan 3 (some .int) 9 230 false [.int x1, .int x2] v f g (fun r w => P r w.1 w.2.1 w.2.2) := by
  intro D cI cJ cZ a sz
  refine mg_body (by decide +kernel) rfl (Nat.le_of_ble_eq_true rfl) ?_
  intro p e s m args below meth c hsz C
  clear hsz
  generalize va_A (mW cI cJ cZ a v f g) sz = A at C ⊢
  refine mg_lv (lv' := [(0, .ref (a 0)), (1, .int x1), (2, .int x2)]) rfl ?_
  unfold r_matchesByScan at h
  refine mg_aload_n C (i := 0) rfl 0 rfl dX12_matchesByScan_0 ?_
  refine mg_iload_n C (i := 1) rfl 1 rfl dX12_matchesByScan_1 ?_
  refine mg_iload_n C (i := 2) rfl 2 rfl dX12_matchesByScan_2 ?_
  refine mg_calliW C (s_matches l x1 x2 v f g h) mCal_matches rfl ⟨by decide, by decide⟩ rfl (Nat.le_of_ble_eq_true rfl) dX12_matchesByScan_3 (fun r_1 v_1 f_1 g_1 h => ?_)
  exact mg_iret C h dX12_matchesByScan_6
def r_facet (Q : Int32 → (Nat → Int32) → (Nat → Nat → Int32) → (Nat → Nat → Int64) → Prop) (x1 : Int32) (x2 : Int32) (x3 : Int32) (v : Nat → Int32) (f : Nat → Nat → Int32) (g : Nat → Nat → Int64) : Prop :=
r_slotOf (fun r_1 v_1 f_1 g_1 => 
r_isAsked (fun r_2 v_2 f_2 g_2 => 
r_in (fun r_3 v_3 f_3 g_3 => 
r_goes (fun r_4 v_4 f_4 g_4 => 
((r_4 = 0 →
  Q ((nI 0)) v_4 f_4 g_4) ∧
 (¬ r_4 = 0 →
  r_matching (fun r_5 v_5 f_5 g_5 => 
  Q r_5 v_5 f_5 g_5) r_1 x2 x3 v_4 f_4 g_4))) r_2 r_3 ((nI 1)) v_3 f_3 g_3) x3 ((nI 0)) ((nI 9)) v_2 f_2 g_2) r_1 x2 v_1 f_1 g_1) x1 v f g
set_option maxHeartbeats 1000000 in
set_option maxRecDepth 20000 in
theorem s_facet (l : Launch) (x1 : Int32) (x2 : Int32) (x3 : Int32) (v : Nat → Int32) (f : Nat → Nat → Int32) (g : Nat → Nat → Int64) {P : Int32 → (Nat → Int32) → (Nat → Nat → Int32) → (Nat → Nat → Int64) → Prop} (h : r_facet P x1 x2 x3 v f g) : mMi l yX12_facet cX12_facet 5 (some .int) 8 207 false [.int x1, .int x2, .int x3] v f g (fun r w => P r w.1 w.2.1 w.2.2) := by
  intro D cI cJ cZ a sz
  refine mg_body (by decide +kernel) rfl (Nat.le_of_ble_eq_true rfl) ?_
  intro p e s m args below meth c hsz C
  clear hsz
  generalize va_A (mW cI cJ cZ a v f g) sz = A at C ⊢
  refine mg_lv (lv' := [(0, .ref (a 0)), (1, .int x1), (2, .int x2), (3, .int x3)]) rfl ?_
  unfold r_facet at h
  refine mg_aload_n C (i := 0) rfl 0 rfl dX12_facet_0 ?_
  refine mg_iload_n C (i := 1) rfl 1 rfl dX12_facet_1 ?_
  refine mg_calliW C (s_slotOf l x1 v f g h) mCal_slotOf rfl ⟨by decide, by decide⟩ rfl (Nat.le_of_ble_eq_true rfl) dX12_facet_2 (fun r_1 v_1 f_1 g_1 h => ?_)
  refine mg_istore C (lv' := [(4, .int r_1), (0, .ref (a 0)), (1, .int x1), (2, .int x2), (3, .int x3)]) (Nat.le_of_ble_eq_true rfl) rfl dX12_facet_5 ?_
  refine mg_aload_n C (i := 0) rfl 1 rfl dX12_facet_7 ?_
  refine mg_aload_n C (i := 0) rfl 1 rfl dX12_facet_8 ?_
  refine mg_iload C 0 rfl dX12_facet_9 ?_
  refine mg_iload_n C (i := 2) rfl 3 rfl dX12_facet_11 ?_
  refine mg_calliW C (s_isAsked l r_1 x2 v_1 f_1 g_1 h) mCal_isAsked rfl ⟨by decide, by decide⟩ rfl (Nat.le_of_ble_eq_true rfl) dX12_facet_12 (fun r_2 v_2 f_2 g_2 h => ?_)
  refine mg_iload_n C (i := 3) rfl 4 rfl dX12_facet_15 ?_
  refine mg_iconst C (x := nI 0) rfl dX12_facet_16 ?_
  refine mg_bipush C (x := nI 9) rfl dX12_facet_17 ?_
  refine mg_callsiW C (s_in l x3 ((nI 0)) ((nI 9)) v_2 f_2 g_2 h) mCal_in rfl ⟨by decide, by decide⟩ rfl (Nat.le_of_ble_eq_true rfl) dX12_facet_19 (fun r_3 v_3 f_3 g_3 h => ?_)
  refine mg_iconst C (x := nI 1) rfl dX12_facet_22 ?_
  refine mg_calliW C (s_goes l r_2 r_3 ((nI 1)) v_3 f_3 g_3 h) mCal_goes rfl ⟨by decide, by decide⟩ rfl (Nat.le_of_ble_eq_true rfl) dX12_facet_23 (fun r_4 v_4 f_4 g_4 h => ?_)
  refine mg_if_eq C 40 (by decide) dX12_facet_26 (fun c_ => ?_) (fun c_ => ?_)
  · have h := h.1 c_
    refine mg_iconst C (x := nI 0) rfl dX12_facet_40 ?_
    exact mg_iret C h dX12_facet_41
  · have h := h.2 c_
    refine mg_aload_n C (i := 0) rfl 1 rfl dX12_facet_29 ?_
    refine mg_iload C 0 rfl dX12_facet_30 ?_
    refine mg_iload_n C (i := 2) rfl 3 rfl dX12_facet_32 ?_
    refine mg_iload_n C (i := 3) rfl 4 rfl dX12_facet_33 ?_
    refine mg_calliW C (s_matching l r_1 x2 x3 v_4 f_4 g_4 h) mCal_matching rfl ⟨by decide, by decide⟩ rfl (Nat.le_of_ble_eq_true rfl) dX12_facet_34 (fun r_5 v_5 f_5 g_5 h => ?_)
    refine mg_goto C 41 (by decide) dX12_facet_37 ?_
    exact mg_iret C h dX12_facet_41
def r_sortedAt_174 (Q : Int32 → (Nat → Int32) → (Nat → Nat → Int32) → (Nat → Nat → Int64) → Prop)  (x4 : Int32) (x6 : Int32) (v : Nat → Int32) (f : Nat → Nat → Int32) (g : Nat → Nat → Int64) : Prop :=
r_in (fun r_3 v_3 f_3 g_3 => 
r_goes (fun r_4 v_4 f_4 g_4 => 
((r_4 = 0 →
  Q ((nI 0)) v_4 f_4 g_4) ∧
 (¬ r_4 = 0 →
  vp_in x4 2424 ∧ (vp_in ((f_4 39 (x4).toNatClampNeg)) 2424 ∧ (Q ((f_4 14 ((f_4 39 (x4).toNatClampNeg)).toNatClampNeg)) v_4 f_4 g_4))))) r_3 ((nI 1)) ((nI 1)) v_3 f_3 g_3) x4 ((nI 0)) ((x6 - ((nI 1)))) v f g
def r_sortedAt_168 (Q : Int32 → (Nat → Int32) → (Nat → Nat → Int32) → (Nat → Nat → Int64) → Prop) (R30 : Int32 → Int32 → Int32 → Int32 → Int32 → (Nat → Int32) → (Nat → Nat → Int32) → (Nat → Nat → Int64) → Prop) (x2 : Int32) (x3 : Int32) (x4 : Int32) (x6 : Int32) (x7 : Int32) (v : Nat → Int32) (f : Nat → Nat → Int32) (g : Nat → Nat → Int64) : Prop :=
∀ x7_7 : Int32, x7_7 = x7 + nI 1 → R30 x2 x3 x4 x6 x7_7 v f g
def r_sortedAt_151 (Q : Int32 → (Nat → Int32) → (Nat → Nat → Int32) → (Nat → Nat → Int64) → Prop) (R30 : Int32 → Int32 → Int32 → Int32 → Int32 → (Nat → Int32) → (Nat → Nat → Int32) → (Nat → Nat → Int64) → Prop) (x2 : Int32) (x3 : Int32) (x4 : Int32) (x6 : Int32) (x7 : Int32) (x8 : Int32) (v : Nat → Int32) (f : Nat → Nat → Int32) (g : Nat → Nat → Int64) : Prop :=
vp_in x7 2424 ∧ (vp_in x8 2424 ∧ (∀ f8 : Nat → Nat → Int32, f8 = mU f 39 (x8).toNatClampNeg ((f 38 (x7).toNatClampNeg)) → ∀ x6_9 : Int32, x6_9 = x6 + nI 1 → r_sortedAt_168 Q R30 x2 x3 x4 x6_9 x7 v f8 g))
def r_sortedAt_129 (Q : Int32 → (Nat → Int32) → (Nat → Nat → Int32) → (Nat → Nat → Int64) → Prop) (R30 : Int32 → Int32 → Int32 → Int32 → Int32 → (Nat → Int32) → (Nat → Nat → Int32) → (Nat → Nat → Int64) → Prop) (R59 : Int32 → Int32 → Int32 → Int32 → Int32 → Int32 → (Nat → Int32) → (Nat → Nat → Int32) → (Nat → Nat → Int64) → Prop) (x2 : Int32) (x3 : Int32) (x4 : Int32) (x6 : Int32) (x7 : Int32) (x8 : Int32) (v : Nat → Int32) (f : Nat → Nat → Int32) (g : Nat → Nat → Int64) : Prop :=
vp_in ((x8 - ((nI 1)))) 2424 ∧ (vp_in x8 2424 ∧ (∀ f10 : Nat → Nat → Int32, f10 = mU f 39 (x8).toNatClampNeg ((f 39 ((x8 - ((nI 1)))).toNatClampNeg)) → ∀ x8_11 : Int32, x8_11 = x8 + (-1) → R59 x2 x3 x4 x6 x7 x8_11 v f10 g))
def r_sortedAt_59 (Q : Int32 → (Nat → Int32) → (Nat → Nat → Int32) → (Nat → Nat → Int64) → Prop) (R30 : Int32 → Int32 → Int32 → Int32 → Int32 → (Nat → Int32) → (Nat → Nat → Int32) → (Nat → Nat → Int64) → Prop) (R59 : Int32 → Int32 → Int32 → Int32 → Int32 → Int32 → (Nat → Int32) → (Nat → Nat → Int32) → (Nat → Nat → Int64) → Prop) (x2 : Int32) (x3 : Int32) (x4 : Int32) (x6 : Int32) (x7 : Int32) (x8 : Int32) (v : Nat → Int32) (f : Nat → Nat → Int32) (g : Nat → Nat → Int64) : Prop :=
((x8 ≤ 0 →
  r_sortedAt_151 Q R30 x2 x3 x4 x6 x7 x8 v f g) ∧
 (¬ x8 ≤ 0 →
  ((x3 = 0 →
    vp_in ((x8 - ((nI 1)))) 2424 ∧ (vp_in ((f 39 ((x8 - ((nI 1)))).toNatClampNeg)) 2424 ∧ (vp_in x7 2424 ∧ (vp_in ((f 38 (x7).toNatClampNeg)) 2424 ∧ (((((f 16 ((f 39 ((x8 - ((nI 1)))).toNatClampNeg)).toNatClampNeg)) ≤ ((f 16 ((f 38 (x7).toNatClampNeg)).toNatClampNeg)) →
      r_sortedAt_151 Q R30 x2 x3 x4 x6 x7 x8 v f g) ∧
     (¬ ((f 16 ((f 39 ((x8 - ((nI 1)))).toNatClampNeg)).toNatClampNeg)) ≤ ((f 16 ((f 38 (x7).toNatClampNeg)).toNatClampNeg)) →
      r_sortedAt_129 Q R30 R59 x2 x3 x4 x6 x7 x8 v f g))))))) ∧
   (¬ x3 = 0 →
    vp_in ((x8 - ((nI 1)))) 2424 ∧ (vp_in ((f 39 ((x8 - ((nI 1)))).toNatClampNeg)) 2424 ∧ (vp_in x7 2424 ∧ (vp_in ((f 38 (x7).toNatClampNeg)) 2424 ∧ (((((f 16 ((f 38 (x7).toNatClampNeg)).toNatClampNeg)) ≤ ((f 16 ((f 39 ((x8 - ((nI 1)))).toNatClampNeg)).toNatClampNeg)) →
      r_sortedAt_151 Q R30 x2 x3 x4 x6 x7 x8 v f g) ∧
     (¬ ((f 16 ((f 38 (x7).toNatClampNeg)).toNatClampNeg)) ≤ ((f 16 ((f 39 ((x8 - ((nI 1)))).toNatClampNeg)).toNatClampNeg)) →
      r_sortedAt_129 Q R30 R59 x2 x3 x4 x6 x7 x8 v f g))))))))))
def r_sortedAt_59L (Q : Int32 → (Nat → Int32) → (Nat → Nat → Int32) → (Nat → Nat → Int64) → Prop) (R30 : Int32 → Int32 → Int32 → Int32 → Int32 → (Nat → Int32) → (Nat → Nat → Int32) → (Nat → Nat → Int64) → Prop) (x2 : Int32) (x3 : Int32) (x4 : Int32) (x6 : Int32) (x7 : Int32) (x8 : Int32) (v : Nat → Int32) (f : Nat → Nat → Int32) (g : Nat → Nat → Int64) : Prop :=
  lfp (X := Int32 × Int32 × Int32 × Int32 × Int32 × Int32 × (Nat → Int32) × (Nat → Nat → Int32) × (Nat → Nat → Int64)) (fun P y => r_sortedAt_59 Q R30 (fun b0 b1 b2 b3 b4 b5 v f g => P (b0, b1, b2, b3, b4, b5, v, f, g)) y.1 y.2.1 y.2.2.1 y.2.2.2.1 y.2.2.2.2.1 y.2.2.2.2.2.1 y.2.2.2.2.2.2.1 y.2.2.2.2.2.2.2.1 y.2.2.2.2.2.2.2.2) (x2, x3, x4, x6, x7, x8, v, f, g)
def r_sortedAt_30 (Q : Int32 → (Nat → Int32) → (Nat → Nat → Int32) → (Nat → Nat → Int64) → Prop) (R30 : Int32 → Int32 → Int32 → Int32 → Int32 → (Nat → Int32) → (Nat → Nat → Int32) → (Nat → Nat → Int64) → Prop) (x2 : Int32) (x3 : Int32) (x4 : Int32) (x6 : Int32) (x7 : Int32) (v : Nat → Int32) (f : Nat → Nat → Int32) (g : Nat → Nat → Int64) : Prop :=
((((v 60)) ≤ x7 →
  r_sortedAt_174 Q  x4 x6 v f g) ∧
 (¬ ((v 60)) ≤ x7 →
  vp_in x7 2424 ∧ (r_gives1 (fun r_6 v_6 f_6 g_6 => 
  ((r_6 = (((-1))) →
    r_sortedAt_168 Q R30 x2 x3 x4 x6 x7 v_6 f_6 g_6) ∧
   (¬ r_6 = (((-1))) →
    r_sortedAt_59L Q R30 x2 x3 x4 x6 x7 x6 v_6 f_6 g_6))) x2 ((f 38 (x7).toNatClampNeg)) v f g)))
def r_sortedAt_30L (Q : Int32 → (Nat → Int32) → (Nat → Nat → Int32) → (Nat → Nat → Int64) → Prop)  (x2 : Int32) (x3 : Int32) (x4 : Int32) (x6 : Int32) (x7 : Int32) (v : Nat → Int32) (f : Nat → Nat → Int32) (g : Nat → Nat → Int64) : Prop :=
  lfp (X := Int32 × Int32 × Int32 × Int32 × Int32 × (Nat → Int32) × (Nat → Nat → Int32) × (Nat → Nat → Int64)) (fun P y => r_sortedAt_30 Q  (fun b0 b1 b2 b3 b4 v f g => P (b0, b1, b2, b3, b4, v, f, g)) y.1 y.2.1 y.2.2.1 y.2.2.2.1 y.2.2.2.2.1 y.2.2.2.2.2.1 y.2.2.2.2.2.2.1 y.2.2.2.2.2.2.2) (x2, x3, x4, x6, x7, v, f, g)
def r_sortedAt (Q : Int32 → (Nat → Int32) → (Nat → Nat → Int32) → (Nat → Nat → Int64) → Prop) (x1 : Int32) (x2 : Int32) (x3 : Int32) (x4 : Int32) (v : Nat → Int32) (f : Nat → Nat → Int32) (g : Nat → Nat → Int64) : Prop :=
r_slotOf (fun r_1 v_1 f_1 g_1 => 
r_isAsked (fun r_2 v_2 f_2 g_2 => 
((r_2 = 0 →
  r_sortedAt_174 Q  x4 (((nI 0))) v_2 f_2 g_2) ∧
 (¬ r_2 = 0 →
  r_readies (fun v_5 f_5 g_5 => 
  r_sortedAt_30L Q  x2 x3 x4 (((nI 0))) (((nI 0))) v_5 f_5 g_5) r_1 x2 v_2 f_2 g_2))) r_1 x2 v_1 f_1 g_1) x1 v f g
section S_sortedAt
variable {p : Program} {l : Launch} {e : Env} {s : State} {m : MethodId} {args : Array Value} {below : List Frame} {meth : Method} {c : Code} {A : Nat → Prop} {D : va_G} {cI cJ cZ : ClassId} {a : Nat → Nat}
set_option maxRecDepth 20000 in
theorem sb_sortedAt_174 (C : mC p s m args meth c cX12_sortedAt 9 (some .int) A D cI cJ cZ) {post : Int32 → mS → Prop}   (x4 : Int32) (x6 : Int32) (v : Nat → Int32) (f : Nat → Nat → Int32) (g : Nat → Nat → Int64) (h : r_sortedAt_174 (fun r v f g => post r (v, f, g))  x4 x6 v f g) : mG p l e (mRm 7 182) s m args below meth c A D cI cJ cZ a 9 (MQ below (va_Qi post (mB D cI cJ cZ a) A) args s 0 0 A) 174 [(0, .ref (a 0)), (4, .int x4), (6, .int x6)] [] v f g := by
  unfold r_sortedAt_174 at h
  refine mg_aload_n C (i := 0) rfl 0 rfl dX12_sortedAt_174 ?_
  refine mg_iload C 1 rfl dX12_sortedAt_175 ?_
  refine mg_iconst C (x := nI 0) rfl dX12_sortedAt_177 ?_
  refine mg_iload C 2 rfl dX12_sortedAt_178 ?_
  refine mg_iconst C (x := nI 1) rfl dX12_sortedAt_180 ?_
  refine mg_isub C dX12_sortedAt_181 ?_
  refine mg_callsiW C (s_in l x4 ((nI 0)) ((x6 - ((nI 1)))) v f g h) mCal_in rfl ⟨by decide, by decide⟩ rfl (Nat.le_of_ble_eq_true rfl) dX12_sortedAt_182 (fun r_3 v_3 f_3 g_3 h => ?_)
  refine mg_iconst C (x := nI 1) rfl dX12_sortedAt_185 ?_
  refine mg_iconst C (x := nI 1) rfl dX12_sortedAt_186 ?_
  refine mg_calliW C (s_goes l r_3 ((nI 1)) ((nI 1)) v_3 f_3 g_3 h) mCal_goes rfl ⟨by decide, by decide⟩ rfl (Nat.le_of_ble_eq_true rfl) dX12_sortedAt_187 (fun r_4 v_4 f_4 g_4 h => ?_)
  refine mg_if_eq C 208 (by decide) dX12_sortedAt_190 (fun c_ => ?_) (fun c_ => ?_)
  · have h := h.1 c_
    refine mg_iconst C (x := nI 0) rfl dX12_sortedAt_208 ?_
    exact mg_iret C h dX12_sortedAt_209
  · have h := h.2 c_
    refine mg_aload_n C (i := 0) rfl 0 rfl dX12_sortedAt_193 ?_
    refine mg_arr C 14 (by decide) (by decide) rfl mL_keys rfl dX12_sortedAt_194 ?_
    refine mg_aload_n C (i := 0) rfl 0 rfl dX12_sortedAt_197 ?_
    refine mg_arr C 39 (by decide) (by decide) rfl mL_sorted rfl dX12_sortedAt_198 ?_
    refine mg_iload C 1 rfl dX12_sortedAt_201 ?_
    obtain ⟨hc_203, h⟩ := h
    refine mg_ialoadR C (n := 2424) 39 (by decide) (by decide) rfl rfl hc_203 dX12_sortedAt_203 ?_
    obtain ⟨hc_204, h⟩ := h
    refine mg_ialoadR C (n := 2424) 14 (by decide) (by decide) rfl rfl hc_204 dX12_sortedAt_204 ?_
    refine mg_goto C 209 (by decide) dX12_sortedAt_205 ?_
    exact mg_iret C h dX12_sortedAt_209
set_option maxRecDepth 20000 in
theorem sb_sortedAt_168 (C : mC p s m args meth c cX12_sortedAt 9 (some .int) A D cI cJ cZ) {post : Int32 → mS → Prop} {R30 : Int32 → Int32 → Int32 → Int32 → Int32 → (Nat → Int32) → (Nat → Nat → Int32) → (Nat → Nat → Int64) → Prop} (hR30 : ∀ (x2 : Int32) (x3 : Int32) (x4 : Int32) (x6 : Int32) (x7 : Int32) (v : Nat → Int32) (f : Nat → Nat → Int32) (g : Nat → Nat → Int64), R30 x2 x3 x4 x6 x7 v f g → mG p l e (mRm 7 182) s m args below meth c A D cI cJ cZ a 9 (MQ below (va_Qi post (mB D cI cJ cZ a) A) args s 0 0 A) 30 [(0, .ref (a 0)), (2, .int x2), (3, .int x3), (4, .int x4), (6, .int x6), (7, .int x7)] [] v f g) (x2 : Int32) (x3 : Int32) (x4 : Int32) (x6 : Int32) (x7 : Int32) (v : Nat → Int32) (f : Nat → Nat → Int32) (g : Nat → Nat → Int64) (h : r_sortedAt_168 (fun r v f g => post r (v, f, g)) R30 x2 x3 x4 x6 x7 v f g) : mG p l e (mRm 7 182) s m args below meth c A D cI cJ cZ a 9 (MQ below (va_Qi post (mB D cI cJ cZ a) A) args s 0 0 A) 168 [(0, .ref (a 0)), (2, .int x2), (3, .int x3), (4, .int x4), (6, .int x6), (7, .int x7)] [] v f g := by
  unfold r_sortedAt_168 at h
  obtain ⟨x7_7, e_x7_7⟩ : ∃ z : Int32, z = x7 + nI 1 := ⟨_, rfl⟩
  have h := h x7_7 e_x7_7
  refine mg_iinc C (lv' := [(7, .int x7_7), (0, .ref (a 0)), (2, .int x2), (3, .int x3), (4, .int x4), (6, .int x6)]) 5 rfl (by rw [e_x7_7]; rfl) (Nat.le_of_ble_eq_true rfl) rfl dX12_sortedAt_168 ?_
  refine mg_goto C 30 (by decide) dX12_sortedAt_171 ?_
  exact mg_sub [1, 2, 3, 4, 5, 0] rfl (hR30 x2 x3 x4 x6 x7_7 v f g h)
set_option maxRecDepth 20000 in
theorem sb_sortedAt_151 (C : mC p s m args meth c cX12_sortedAt 9 (some .int) A D cI cJ cZ) {post : Int32 → mS → Prop} {R30 : Int32 → Int32 → Int32 → Int32 → Int32 → (Nat → Int32) → (Nat → Nat → Int32) → (Nat → Nat → Int64) → Prop} (hR30 : ∀ (x2 : Int32) (x3 : Int32) (x4 : Int32) (x6 : Int32) (x7 : Int32) (v : Nat → Int32) (f : Nat → Nat → Int32) (g : Nat → Nat → Int64), R30 x2 x3 x4 x6 x7 v f g → mG p l e (mRm 7 182) s m args below meth c A D cI cJ cZ a 9 (MQ below (va_Qi post (mB D cI cJ cZ a) A) args s 0 0 A) 30 [(0, .ref (a 0)), (2, .int x2), (3, .int x3), (4, .int x4), (6, .int x6), (7, .int x7)] [] v f g) (x2 : Int32) (x3 : Int32) (x4 : Int32) (x6 : Int32) (x7 : Int32) (x8 : Int32) (v : Nat → Int32) (f : Nat → Nat → Int32) (g : Nat → Nat → Int64) (h : r_sortedAt_151 (fun r v f g => post r (v, f, g)) R30 x2 x3 x4 x6 x7 x8 v f g) : mG p l e (mRm 7 182) s m args below meth c A D cI cJ cZ a 9 (MQ below (va_Qi post (mB D cI cJ cZ a) A) args s 0 0 A) 151 [(0, .ref (a 0)), (2, .int x2), (3, .int x3), (4, .int x4), (6, .int x6), (7, .int x7), (8, .int x8)] [] v f g := by
  unfold r_sortedAt_151 at h
  refine mg_aload_n C (i := 0) rfl 0 rfl dX12_sortedAt_151 ?_
  refine mg_arr C 39 (by decide) (by decide) rfl mL_sorted rfl dX12_sortedAt_152 ?_
  refine mg_iload C 6 rfl dX12_sortedAt_155 ?_
  refine mg_aload_n C (i := 0) rfl 0 rfl dX12_sortedAt_157 ?_
  refine mg_arr C 38 (by decide) (by decide) rfl mL_alive rfl dX12_sortedAt_158 ?_
  refine mg_iload C 5 rfl dX12_sortedAt_161 ?_
  obtain ⟨hc_163, h⟩ := h
  refine mg_ialoadR C (n := 2424) 38 (by decide) (by decide) rfl rfl hc_163 dX12_sortedAt_163 ?_
  obtain ⟨hc_164, h⟩ := h
  refine mg_iastoreR C (n := 2424) 39 (by decide) (by decide) rfl rfl hc_164 dX12_sortedAt_164 ?_
  refine mg_nmF (fun f8 e_f8 => ?_)
  have h := h f8 e_f8
  obtain ⟨x6_9, e_x6_9⟩ : ∃ z : Int32, z = x6 + nI 1 := ⟨_, rfl⟩
  have h := h x6_9 e_x6_9
  refine mg_iinc C (lv' := [(6, .int x6_9), (0, .ref (a 0)), (2, .int x2), (3, .int x3), (4, .int x4), (7, .int x7), (8, .int x8)]) 4 rfl (by rw [e_x6_9]; rfl) (Nat.le_of_ble_eq_true rfl) rfl dX12_sortedAt_165 ?_
  exact mg_sub [1, 2, 3, 4, 0, 5] rfl (sb_sortedAt_168 C hR30 x2 x3 x4 x6_9 x7 v f8 g h)
set_option maxRecDepth 20000 in
theorem sb_sortedAt_129 (C : mC p s m args meth c cX12_sortedAt 9 (some .int) A D cI cJ cZ) {post : Int32 → mS → Prop} {R30 : Int32 → Int32 → Int32 → Int32 → Int32 → (Nat → Int32) → (Nat → Nat → Int32) → (Nat → Nat → Int64) → Prop} {R59 : Int32 → Int32 → Int32 → Int32 → Int32 → Int32 → (Nat → Int32) → (Nat → Nat → Int32) → (Nat → Nat → Int64) → Prop} (hR30 : ∀ (x2 : Int32) (x3 : Int32) (x4 : Int32) (x6 : Int32) (x7 : Int32) (v : Nat → Int32) (f : Nat → Nat → Int32) (g : Nat → Nat → Int64), R30 x2 x3 x4 x6 x7 v f g → mG p l e (mRm 7 182) s m args below meth c A D cI cJ cZ a 9 (MQ below (va_Qi post (mB D cI cJ cZ a) A) args s 0 0 A) 30 [(0, .ref (a 0)), (2, .int x2), (3, .int x3), (4, .int x4), (6, .int x6), (7, .int x7)] [] v f g) (hR59 : ∀ (x2 : Int32) (x3 : Int32) (x4 : Int32) (x6 : Int32) (x7 : Int32) (x8 : Int32) (v : Nat → Int32) (f : Nat → Nat → Int32) (g : Nat → Nat → Int64), R59 x2 x3 x4 x6 x7 x8 v f g → mG p l e (mRm 7 182) s m args below meth c A D cI cJ cZ a 9 (MQ below (va_Qi post (mB D cI cJ cZ a) A) args s 0 0 A) 59 [(0, .ref (a 0)), (2, .int x2), (3, .int x3), (4, .int x4), (6, .int x6), (7, .int x7), (8, .int x8)] [] v f g) (x2 : Int32) (x3 : Int32) (x4 : Int32) (x6 : Int32) (x7 : Int32) (x8 : Int32) (v : Nat → Int32) (f : Nat → Nat → Int32) (g : Nat → Nat → Int64) (h : r_sortedAt_129 (fun r v f g => post r (v, f, g)) R30 R59 x2 x3 x4 x6 x7 x8 v f g) : mG p l e (mRm 7 182) s m args below meth c A D cI cJ cZ a 9 (MQ below (va_Qi post (mB D cI cJ cZ a) A) args s 0 0 A) 129 [(0, .ref (a 0)), (2, .int x2), (3, .int x3), (4, .int x4), (6, .int x6), (7, .int x7), (8, .int x8)] [] v f g := by
  unfold r_sortedAt_129 at h
  refine mg_aload_n C (i := 0) rfl 0 rfl dX12_sortedAt_129 ?_
  refine mg_arr C 39 (by decide) (by decide) rfl mL_sorted rfl dX12_sortedAt_130 ?_
  refine mg_iload C 6 rfl dX12_sortedAt_133 ?_
  refine mg_aload_n C (i := 0) rfl 0 rfl dX12_sortedAt_135 ?_
  refine mg_arr C 39 (by decide) (by decide) rfl mL_sorted rfl dX12_sortedAt_136 ?_
  refine mg_iload C 6 rfl dX12_sortedAt_139 ?_
  refine mg_iconst C (x := nI 1) rfl dX12_sortedAt_141 ?_
  refine mg_isub C dX12_sortedAt_142 ?_
  obtain ⟨hc_143, h⟩ := h
  refine mg_ialoadR C (n := 2424) 39 (by decide) (by decide) rfl rfl hc_143 dX12_sortedAt_143 ?_
  obtain ⟨hc_144, h⟩ := h
  refine mg_iastoreR C (n := 2424) 39 (by decide) (by decide) rfl rfl hc_144 dX12_sortedAt_144 ?_
  refine mg_nmF (fun f10 e_f10 => ?_)
  have h := h f10 e_f10
  obtain ⟨x8_11, e_x8_11⟩ : ∃ z : Int32, z = x8 + (-1) := ⟨_, rfl⟩
  have h := h x8_11 e_x8_11
  refine mg_iinc C (lv' := [(8, .int x8_11), (0, .ref (a 0)), (2, .int x2), (3, .int x3), (4, .int x4), (6, .int x6), (7, .int x7)]) 6 rfl (by rw [e_x8_11]; rfl) (Nat.le_of_ble_eq_true rfl) rfl dX12_sortedAt_145 ?_
  refine mg_goto C 59 (by decide) dX12_sortedAt_148 ?_
  exact mg_sub [1, 2, 3, 4, 5, 6, 0] rfl (hR59 x2 x3 x4 x6 x7 x8_11 v f10 g h)
set_option maxRecDepth 20000 in
theorem sb_sortedAt_59 (C : mC p s m args meth c cX12_sortedAt 9 (some .int) A D cI cJ cZ) {post : Int32 → mS → Prop} {R30 : Int32 → Int32 → Int32 → Int32 → Int32 → (Nat → Int32) → (Nat → Nat → Int32) → (Nat → Nat → Int64) → Prop} {R59 : Int32 → Int32 → Int32 → Int32 → Int32 → Int32 → (Nat → Int32) → (Nat → Nat → Int32) → (Nat → Nat → Int64) → Prop} (hR30 : ∀ (x2 : Int32) (x3 : Int32) (x4 : Int32) (x6 : Int32) (x7 : Int32) (v : Nat → Int32) (f : Nat → Nat → Int32) (g : Nat → Nat → Int64), R30 x2 x3 x4 x6 x7 v f g → mG p l e (mRm 7 182) s m args below meth c A D cI cJ cZ a 9 (MQ below (va_Qi post (mB D cI cJ cZ a) A) args s 0 0 A) 30 [(0, .ref (a 0)), (2, .int x2), (3, .int x3), (4, .int x4), (6, .int x6), (7, .int x7)] [] v f g) (hR59 : ∀ (x2 : Int32) (x3 : Int32) (x4 : Int32) (x6 : Int32) (x7 : Int32) (x8 : Int32) (v : Nat → Int32) (f : Nat → Nat → Int32) (g : Nat → Nat → Int64), R59 x2 x3 x4 x6 x7 x8 v f g → mG p l e (mRm 7 182) s m args below meth c A D cI cJ cZ a 9 (MQ below (va_Qi post (mB D cI cJ cZ a) A) args s 0 0 A) 59 [(0, .ref (a 0)), (2, .int x2), (3, .int x3), (4, .int x4), (6, .int x6), (7, .int x7), (8, .int x8)] [] v f g) (x2 : Int32) (x3 : Int32) (x4 : Int32) (x6 : Int32) (x7 : Int32) (x8 : Int32) (v : Nat → Int32) (f : Nat → Nat → Int32) (g : Nat → Nat → Int64) (h : r_sortedAt_59 (fun r v f g => post r (v, f, g)) R30 R59 x2 x3 x4 x6 x7 x8 v f g) : mG p l e (mRm 7 182) s m args below meth c A D cI cJ cZ a 9 (MQ below (va_Qi post (mB D cI cJ cZ a) A) args s 0 0 A) 59 [(0, .ref (a 0)), (2, .int x2), (3, .int x3), (4, .int x4), (6, .int x6), (7, .int x7), (8, .int x8)] [] v f g := by
  unfold r_sortedAt_59 at h
  refine mg_iload C 6 rfl dX12_sortedAt_59 ?_
  refine mg_if_le C 151 (by decide) dX12_sortedAt_61 (fun c_ => ?_) (fun c_ => ?_)
  · have h := h.1 c_
    exact mg_sub [0, 1, 2, 3, 4, 5, 6] rfl (sb_sortedAt_151 C hR30 x2 x3 x4 x6 x7 x8 v f g h)
  · have h := h.2 c_
    refine mg_iload_n C (i := 3) rfl 2 rfl dX12_sortedAt_64 ?_
    refine mg_if_eq C 100 (by decide) dX12_sortedAt_65 (fun c_ => ?_) (fun c_ => ?_)
    · have h := h.1 c_
      refine mg_aload_n C (i := 0) rfl 0 rfl dX12_sortedAt_100 ?_
      refine mg_arr C 16 (by decide) (by decide) rfl mL_numbers rfl dX12_sortedAt_101 ?_
      refine mg_aload_n C (i := 0) rfl 0 rfl dX12_sortedAt_104 ?_
      refine mg_arr C 39 (by decide) (by decide) rfl mL_sorted rfl dX12_sortedAt_105 ?_
      refine mg_iload C 6 rfl dX12_sortedAt_108 ?_
      refine mg_iconst C (x := nI 1) rfl dX12_sortedAt_110 ?_
      refine mg_isub C dX12_sortedAt_111 ?_
      obtain ⟨hc_112, h⟩ := h
      refine mg_ialoadR C (n := 2424) 39 (by decide) (by decide) rfl rfl hc_112 dX12_sortedAt_112 ?_
      obtain ⟨hc_113, h⟩ := h
      refine mg_ialoadR C (n := 2424) 16 (by decide) (by decide) rfl rfl hc_113 dX12_sortedAt_113 ?_
      refine mg_aload_n C (i := 0) rfl 0 rfl dX12_sortedAt_114 ?_
      refine mg_arr C 16 (by decide) (by decide) rfl mL_numbers rfl dX12_sortedAt_115 ?_
      refine mg_aload_n C (i := 0) rfl 0 rfl dX12_sortedAt_118 ?_
      refine mg_arr C 38 (by decide) (by decide) rfl mL_alive rfl dX12_sortedAt_119 ?_
      refine mg_iload C 5 rfl dX12_sortedAt_122 ?_
      obtain ⟨hc_124, h⟩ := h
      refine mg_ialoadR C (n := 2424) 38 (by decide) (by decide) rfl rfl hc_124 dX12_sortedAt_124 ?_
      obtain ⟨hc_125, h⟩ := h
      refine mg_ialoadR C (n := 2424) 16 (by decide) (by decide) rfl rfl hc_125 dX12_sortedAt_125 ?_
      refine mg_icmp_le C 151 (by decide) dX12_sortedAt_126 (fun c_ => ?_) (fun c_ => ?_)
      · have h := h.1 c_
        exact mg_sub [0, 1, 2, 3, 4, 5, 6] rfl (sb_sortedAt_151 C hR30 x2 x3 x4 x6 x7 x8 v f g h)
      · have h := h.2 c_
        exact mg_sub [0, 1, 2, 3, 4, 5, 6] rfl (sb_sortedAt_129 C hR30 hR59 x2 x3 x4 x6 x7 x8 v f g h)
    · have h := h.2 c_
      refine mg_aload_n C (i := 0) rfl 0 rfl dX12_sortedAt_68 ?_
      refine mg_arr C 16 (by decide) (by decide) rfl mL_numbers rfl dX12_sortedAt_69 ?_
      refine mg_aload_n C (i := 0) rfl 0 rfl dX12_sortedAt_72 ?_
      refine mg_arr C 39 (by decide) (by decide) rfl mL_sorted rfl dX12_sortedAt_73 ?_
      refine mg_iload C 6 rfl dX12_sortedAt_76 ?_
      refine mg_iconst C (x := nI 1) rfl dX12_sortedAt_78 ?_
      refine mg_isub C dX12_sortedAt_79 ?_
      obtain ⟨hc_80, h⟩ := h
      refine mg_ialoadR C (n := 2424) 39 (by decide) (by decide) rfl rfl hc_80 dX12_sortedAt_80 ?_
      obtain ⟨hc_81, h⟩ := h
      refine mg_ialoadR C (n := 2424) 16 (by decide) (by decide) rfl rfl hc_81 dX12_sortedAt_81 ?_
      refine mg_aload_n C (i := 0) rfl 0 rfl dX12_sortedAt_82 ?_
      refine mg_arr C 16 (by decide) (by decide) rfl mL_numbers rfl dX12_sortedAt_83 ?_
      refine mg_aload_n C (i := 0) rfl 0 rfl dX12_sortedAt_86 ?_
      refine mg_arr C 38 (by decide) (by decide) rfl mL_alive rfl dX12_sortedAt_87 ?_
      refine mg_iload C 5 rfl dX12_sortedAt_90 ?_
      obtain ⟨hc_92, h⟩ := h
      refine mg_ialoadR C (n := 2424) 38 (by decide) (by decide) rfl rfl hc_92 dX12_sortedAt_92 ?_
      obtain ⟨hc_93, h⟩ := h
      refine mg_ialoadR C (n := 2424) 16 (by decide) (by decide) rfl rfl hc_93 dX12_sortedAt_93 ?_
      refine mg_icmp_ge C 151 (by decide) dX12_sortedAt_94 (fun c_ => ?_) (fun c_ => ?_)
      · have h := h.1 c_
        exact mg_sub [0, 1, 2, 3, 4, 5, 6] rfl (sb_sortedAt_151 C hR30 x2 x3 x4 x6 x7 x8 v f g h)
      · have h := h.2 c_
        refine mg_goto C 129 (by decide) dX12_sortedAt_97 ?_
        exact mg_sub [0, 1, 2, 3, 4, 5, 6] rfl (sb_sortedAt_129 C hR30 hR59 x2 x3 x4 x6 x7 x8 v f g h)
set_option maxRecDepth 20000 in
theorem sl_sortedAt_59 (C : mC p s m args meth c cX12_sortedAt 9 (some .int) A D cI cJ cZ) {post : Int32 → mS → Prop} {R30 : Int32 → Int32 → Int32 → Int32 → Int32 → (Nat → Int32) → (Nat → Nat → Int32) → (Nat → Nat → Int64) → Prop} (hR30 : ∀ (x2 : Int32) (x3 : Int32) (x4 : Int32) (x6 : Int32) (x7 : Int32) (v : Nat → Int32) (f : Nat → Nat → Int32) (g : Nat → Nat → Int64), R30 x2 x3 x4 x6 x7 v f g → mG p l e (mRm 7 182) s m args below meth c A D cI cJ cZ a 9 (MQ below (va_Qi post (mB D cI cJ cZ a) A) args s 0 0 A) 30 [(0, .ref (a 0)), (2, .int x2), (3, .int x3), (4, .int x4), (6, .int x6), (7, .int x7)] [] v f g) (x2 : Int32) (x3 : Int32) (x4 : Int32) (x6 : Int32) (x7 : Int32) (x8 : Int32) (v : Nat → Int32) (f : Nat → Nat → Int32) (g : Nat → Nat → Int64) (h : r_sortedAt_59L (fun r v f g => post r (v, f, g)) R30 x2 x3 x4 x6 x7 x8 v f g) : mG p l e (mRm 7 182) s m args below meth c A D cI cJ cZ a 9 (MQ below (va_Qi post (mB D cI cJ cZ a) A) args s 0 0 A) 59 [(0, .ref (a 0)), (2, .int x2), (3, .int x3), (4, .int x4), (6, .int x6), (7, .int x7), (8, .int x8)] [] v f g :=
  h (fun y => mG p l e (mRm 7 182) s m args below meth c A D cI cJ cZ a 9 (MQ below (va_Qi post (mB D cI cJ cZ a) A) args s 0 0 A) 59 [(0, .ref (a 0)), (2, .int (y.1)), (3, .int (y.2.1)), (4, .int (y.2.2.1)), (6, .int (y.2.2.2.1)), (7, .int (y.2.2.2.2.1)), (8, .int (y.2.2.2.2.2.1))] [] (y.2.2.2.2.2.2.1) (y.2.2.2.2.2.2.2.1) (y.2.2.2.2.2.2.2.2)) (fun y hy => sb_sortedAt_59 C hR30 (fun b0 b1 b2 b3 b4 b5 v f g z => z) (y.1) (y.2.1) (y.2.2.1) (y.2.2.2.1) (y.2.2.2.2.1) (y.2.2.2.2.2.1) (y.2.2.2.2.2.2.1) (y.2.2.2.2.2.2.2.1) (y.2.2.2.2.2.2.2.2) hy)
set_option maxRecDepth 20000 in
theorem sb_sortedAt_30 (C : mC p s m args meth c cX12_sortedAt 9 (some .int) A D cI cJ cZ) {post : Int32 → mS → Prop} {R30 : Int32 → Int32 → Int32 → Int32 → Int32 → (Nat → Int32) → (Nat → Nat → Int32) → (Nat → Nat → Int64) → Prop} (hR30 : ∀ (x2 : Int32) (x3 : Int32) (x4 : Int32) (x6 : Int32) (x7 : Int32) (v : Nat → Int32) (f : Nat → Nat → Int32) (g : Nat → Nat → Int64), R30 x2 x3 x4 x6 x7 v f g → mG p l e (mRm 7 182) s m args below meth c A D cI cJ cZ a 9 (MQ below (va_Qi post (mB D cI cJ cZ a) A) args s 0 0 A) 30 [(0, .ref (a 0)), (2, .int x2), (3, .int x3), (4, .int x4), (6, .int x6), (7, .int x7)] [] v f g) (x2 : Int32) (x3 : Int32) (x4 : Int32) (x6 : Int32) (x7 : Int32) (v : Nat → Int32) (f : Nat → Nat → Int32) (g : Nat → Nat → Int64) (h : r_sortedAt_30 (fun r v f g => post r (v, f, g)) R30 x2 x3 x4 x6 x7 v f g) : mG p l e (mRm 7 182) s m args below meth c A D cI cJ cZ a 9 (MQ below (va_Qi post (mB D cI cJ cZ a) A) args s 0 0 A) 30 [(0, .ref (a 0)), (2, .int x2), (3, .int x3), (4, .int x4), (6, .int x6), (7, .int x7)] [] v f g := by
  unfold r_sortedAt_30 at h
  refine mg_iload C 5 rfl dX12_sortedAt_30 ?_
  refine mg_aload_n C (i := 0) rfl 0 rfl dX12_sortedAt_32 ?_
  refine mg_getI C (k := 60) (by decide) rfl mL_liveMany rfl dX12_sortedAt_33 ?_
  refine mg_icmp_ge C 174 (by decide) dX12_sortedAt_36 (fun c_ => ?_) (fun c_ => ?_)
  · have h := h.1 c_
    exact mg_sub [0, 3, 4] rfl (sb_sortedAt_174 C  x4 x6 v f g h)
  · have h := h.2 c_
    refine mg_aload_n C (i := 0) rfl 0 rfl dX12_sortedAt_39 ?_
    refine mg_iload_n C (i := 2) rfl 1 rfl dX12_sortedAt_40 ?_
    refine mg_aload_n C (i := 0) rfl 0 rfl dX12_sortedAt_41 ?_
    refine mg_arr C 38 (by decide) (by decide) rfl mL_alive rfl dX12_sortedAt_42 ?_
    refine mg_iload C 5 rfl dX12_sortedAt_45 ?_
    obtain ⟨hc_47, h⟩ := h
    refine mg_ialoadR C (n := 2424) 38 (by decide) (by decide) rfl rfl hc_47 dX12_sortedAt_47 ?_
    refine mg_calliW C (s_gives1 l x2 ((f 38 (x7).toNatClampNeg)) v f g h) mCal_gives1 rfl ⟨by decide, by decide⟩ rfl (Nat.le_of_ble_eq_true rfl) dX12_sortedAt_48 (fun r_6 v_6 f_6 g_6 h => ?_)
    refine mg_iconst C (x := (-1)) rfl dX12_sortedAt_51 ?_
    refine mg_icmp_eq C 168 (by decide) dX12_sortedAt_52 (fun c_ => ?_) (fun c_ => ?_)
    · have h := h.1 c_
      exact mg_sub [0, 1, 2, 3, 4, 5] rfl (sb_sortedAt_168 C hR30 x2 x3 x4 x6 x7 v_6 f_6 g_6 h)
    · have h := h.2 c_
      refine mg_iload C 4 rfl dX12_sortedAt_55 ?_
      refine mg_istore C (lv' := [(8, .int x6), (0, .ref (a 0)), (2, .int x2), (3, .int x3), (4, .int x4), (6, .int x6), (7, .int x7)]) (Nat.le_of_ble_eq_true rfl) rfl dX12_sortedAt_57 ?_
      exact mg_sub [1, 2, 3, 4, 5, 6, 0] rfl (sl_sortedAt_59 C hR30 x2 x3 x4 x6 x7 x6 v_6 f_6 g_6 h)
set_option maxRecDepth 20000 in
theorem sl_sortedAt_30 (C : mC p s m args meth c cX12_sortedAt 9 (some .int) A D cI cJ cZ) {post : Int32 → mS → Prop}   (x2 : Int32) (x3 : Int32) (x4 : Int32) (x6 : Int32) (x7 : Int32) (v : Nat → Int32) (f : Nat → Nat → Int32) (g : Nat → Nat → Int64) (h : r_sortedAt_30L (fun r v f g => post r (v, f, g))  x2 x3 x4 x6 x7 v f g) : mG p l e (mRm 7 182) s m args below meth c A D cI cJ cZ a 9 (MQ below (va_Qi post (mB D cI cJ cZ a) A) args s 0 0 A) 30 [(0, .ref (a 0)), (2, .int x2), (3, .int x3), (4, .int x4), (6, .int x6), (7, .int x7)] [] v f g :=
  h (fun y => mG p l e (mRm 7 182) s m args below meth c A D cI cJ cZ a 9 (MQ below (va_Qi post (mB D cI cJ cZ a) A) args s 0 0 A) 30 [(0, .ref (a 0)), (2, .int (y.1)), (3, .int (y.2.1)), (4, .int (y.2.2.1)), (6, .int (y.2.2.2.1)), (7, .int (y.2.2.2.2.1))] [] (y.2.2.2.2.2.1) (y.2.2.2.2.2.2.1) (y.2.2.2.2.2.2.2)) (fun y hy => sb_sortedAt_30 C  (fun b0 b1 b2 b3 b4 v f g z => z) (y.1) (y.2.1) (y.2.2.1) (y.2.2.2.1) (y.2.2.2.2.1) (y.2.2.2.2.2.1) (y.2.2.2.2.2.2.1) (y.2.2.2.2.2.2.2) hy)
end S_sortedAt
set_option maxHeartbeats 1000000 in
set_option maxRecDepth 20000 in
theorem s_sortedAt (l : Launch) (x1 : Int32) (x2 : Int32) (x3 : Int32) (x4 : Int32) (v : Nat → Int32) (f : Nat → Nat → Int32) (g : Nat → Nat → Int64) {P : Int32 → (Nat → Int32) → (Nat → Nat → Int32) → (Nat → Nat → Int64) → Prop} (h : r_sortedAt P x1 x2 x3 x4 v f g) : mMi l yX12_sortedAt cX12_sortedAt 9 (some .int) 7 182 false [.int x1, .int x2, .int x3, .int x4] v f g (fun r w => P r w.1 w.2.1 w.2.2) := by
  intro D cI cJ cZ a sz
  refine mg_body (by decide +kernel) rfl (Nat.le_of_ble_eq_true rfl) ?_
  intro p e s m args below meth c hsz C
  clear hsz
  generalize va_A (mW cI cJ cZ a v f g) sz = A at C ⊢
  refine mg_lv (lv' := [(0, .ref (a 0)), (1, .int x1), (2, .int x2), (3, .int x3), (4, .int x4)]) rfl ?_
  unfold r_sortedAt at h
  refine mg_aload_n C (i := 0) rfl 0 rfl dX12_sortedAt_0 ?_
  refine mg_iload_n C (i := 1) rfl 1 rfl dX12_sortedAt_1 ?_
  refine mg_calliW C (s_slotOf l x1 v f g h) mCal_slotOf rfl ⟨by decide, by decide⟩ rfl (Nat.le_of_ble_eq_true rfl) dX12_sortedAt_2 (fun r_1 v_1 f_1 g_1 h => ?_)
  refine mg_istore C (lv' := [(5, .int r_1), (0, .ref (a 0)), (1, .int x1), (2, .int x2), (3, .int x3), (4, .int x4)]) (Nat.le_of_ble_eq_true rfl) rfl dX12_sortedAt_5 ?_
  refine mg_iconst C (x := nI 0) rfl dX12_sortedAt_7 ?_
  refine mg_istore C (lv' := [(6, .int ((nI 0))), (5, .int r_1), (0, .ref (a 0)), (1, .int x1), (2, .int x2), (3, .int x3), (4, .int x4)]) (Nat.le_of_ble_eq_true rfl) rfl dX12_sortedAt_8 ?_
  refine mg_aload_n C (i := 0) rfl 2 rfl dX12_sortedAt_10 ?_
  refine mg_iload C 1 rfl dX12_sortedAt_11 ?_
  refine mg_iload_n C (i := 2) rfl 4 rfl dX12_sortedAt_13 ?_
  refine mg_calliW C (s_isAsked l r_1 x2 v_1 f_1 g_1 h) mCal_isAsked rfl ⟨by decide, by decide⟩ rfl (Nat.le_of_ble_eq_true rfl) dX12_sortedAt_14 (fun r_2 v_2 f_2 g_2 h => ?_)
  refine mg_if_eq C 174 (by decide) dX12_sortedAt_17 (fun c_ => ?_) (fun c_ => ?_)
  · have h := h.1 c_
    exact mg_sub [2, 6, 0] rfl (sb_sortedAt_174 C  x4 (((nI 0))) v_2 f_2 g_2 h)
  · have h := h.2 c_
    refine mg_aload_n C (i := 0) rfl 2 rfl dX12_sortedAt_20 ?_
    refine mg_iload C 1 rfl dX12_sortedAt_21 ?_
    refine mg_iload_n C (i := 2) rfl 4 rfl dX12_sortedAt_23 ?_
    refine mg_callvW C (s_readies l r_1 x2 v_2 f_2 g_2 h) mCal_readies rfl ⟨by decide, by decide⟩ rfl (Nat.le_of_ble_eq_true rfl) dX12_sortedAt_24 (fun v_5 f_5 g_5 h => ?_)
    refine mg_iconst C (x := nI 0) rfl dX12_sortedAt_27 ?_
    refine mg_istore C (lv' := [(7, .int ((nI 0))), (6, .int ((nI 0))), (5, .int r_1), (0, .ref (a 0)), (1, .int x1), (2, .int x2), (3, .int x3), (4, .int x4)]) (Nat.le_of_ble_eq_true rfl) rfl dX12_sortedAt_28 ?_
    exact mg_sub [3, 5, 6, 7, 1, 0] rfl (sl_sortedAt_30 C  x2 x3 x4 (((nI 0))) (((nI 0))) v_5 f_5 g_5 h)
def r_laysMarks_110 (Q : Int32 → (Nat → Int32) → (Nat → Nat → Int32) → (Nat → Nat → Int64) → Prop) (R11 : Int32 → Int32 → Int32 → Int32 → Int32 → (Nat → Int32) → (Nat → Nat → Int32) → (Nat → Nat → Int64) → Prop) (x1 : Int32) (x2 : Int32) (x3 : Int32) (x4 : Int32) (x5 : Int32) (v : Nat → Int32) (f : Nat → Nat → Int32) (g : Nat → Nat → Int64) : Prop :=
∀ x5_3 : Int32, x5_3 = x5 + nI 1 → R11 x1 x2 x3 x4 x5_3 v f g
def r_laysMarks_75 (Q : Int32 → (Nat → Int32) → (Nat → Nat → Int32) → (Nat → Nat → Int64) → Prop) (R11 : Int32 → Int32 → Int32 → Int32 → Int32 → (Nat → Int32) → (Nat → Nat → Int32) → (Nat → Nat → Int64) → Prop) (x1 : Int32) (x2 : Int32) (x3 : Int32) (x4 : Int32) (x5 : Int32) (t0 : Int32) (v : Nat → Int32) (f : Nat → Nat → Int32) (g : Nat → Nat → Int64) : Prop :=
((t0 = 0 →
  r_laysMarks_110 Q R11 x1 x2 x3 x4 x5 v f g) ∧
 (¬ t0 = 0 →
  vp_in ((v 92)) 48 ∧ (∀ f4 : Nat → Nat → Int32, f4 = mU f 61 ((v 92)).toNatClampNeg t0 → ∀ v5 : Nat → Int32, v5 = upd v 92 ((((v 92)) + ((nI 1)))) → ∀ x4_6 : Int32, x4_6 = (x4 ||| t0) → r_laysMarks_110 Q R11 x1 x2 x3 x4_6 x5 v5 f4 g)))
def r_laysMarks_74 (Q : Int32 → (Nat → Int32) → (Nat → Nat → Int32) → (Nat → Nat → Int64) → Prop) (R11 : Int32 → Int32 → Int32 → Int32 → Int32 → (Nat → Int32) → (Nat → Nat → Int32) → (Nat → Nat → Int64) → Prop) (x1 : Int32) (x2 : Int32) (x3 : Int32) (x4 : Int32) (x5 : Int32) (v : Nat → Int32) (f : Nat → Nat → Int32) (g : Nat → Nat → Int64) : Prop :=
r_laysMarks_75 Q R11 x1 x2 x3 x4 x5 ((nI 0)) v f g
def r_laysMarks_11 (Q : Int32 → (Nat → Int32) → (Nat → Nat → Int32) → (Nat → Nat → Int64) → Prop) (R11 : Int32 → Int32 → Int32 → Int32 → Int32 → (Nat → Int32) → (Nat → Nat → Int32) → (Nat → Nat → Int64) → Prop) (x1 : Int32) (x2 : Int32) (x3 : Int32) (x4 : Int32) (x5 : Int32) (v : Nat → Int32) (f : Nat → Nat → Int32) (g : Nat → Nat → Int64) : Prop :=
vp_in x1 41 ∧ (((((f 48 (x1).toNatClampNeg)) ≤ x5 →
  Q x4 v f g) ∧
 (¬ ((f 48 (x1).toNatClampNeg)) ≤ x5 →
  ∀ x6_2 : Int32, x6_2 = (((((nI 48)) * x1)) + x5) → vp_in x6_2 1968 ∧ (((((nI 6)) ≤ ((f 40 (x6_2).toNatClampNeg)) →
    r_laysMarks_74 Q R11 x1 x2 x3 x4 x5 v f g) ∧
   (¬ ((nI 6)) ≤ ((f 40 (x6_2).toNatClampNeg)) →
    vp_in x5 48 ∧ (((¬ ((f 56 (x5).toNatClampNeg)) = 0 →
      r_laysMarks_74 Q R11 x1 x2 x3 x4 x5 v f g) ∧
     (((f 56 (x5).toNatClampNeg)) = 0 →
      vp_in x6_2 1968 ∧ (((¬ ((f 41 (x6_2).toNatClampNeg)) = x3 →
        r_laysMarks_74 Q R11 x1 x2 x3 x4 x5 v f g) ∧
       (((f 41 (x6_2).toNatClampNeg)) = x3 →
        r_marks (fun r_7 v_7 f_7 g_7 => 
        r_laysMarks_75 Q R11 x1 x2 x3 x4 x5 r_7 v_7 f_7 g_7) x2 x6_2 v f g))))))))))))
def r_laysMarks_11L (Q : Int32 → (Nat → Int32) → (Nat → Nat → Int32) → (Nat → Nat → Int64) → Prop)  (x1 : Int32) (x2 : Int32) (x3 : Int32) (x4 : Int32) (x5 : Int32) (v : Nat → Int32) (f : Nat → Nat → Int32) (g : Nat → Nat → Int64) : Prop :=
  lfp (X := Int32 × Int32 × Int32 × Int32 × Int32 × (Nat → Int32) × (Nat → Nat → Int32) × (Nat → Nat → Int64)) (fun P y => r_laysMarks_11 Q  (fun b0 b1 b2 b3 b4 v f g => P (b0, b1, b2, b3, b4, v, f, g)) y.1 y.2.1 y.2.2.1 y.2.2.2.1 y.2.2.2.2.1 y.2.2.2.2.2.1 y.2.2.2.2.2.2.1 y.2.2.2.2.2.2.2) (x1, x2, x3, x4, x5, v, f, g)
def r_laysMarks (Q : Int32 → (Nat → Int32) → (Nat → Nat → Int32) → (Nat → Nat → Int64) → Prop) (x1 : Int32) (x2 : Int32) (x3 : Int32) (v : Nat → Int32) (f : Nat → Nat → Int32) (g : Nat → Nat → Int64) : Prop :=
∀ v1 : Nat → Int32, v1 = upd v 92 ((nI 0)) → r_laysMarks_11L Q  x1 x2 x3 (((nI 0))) (((nI 0))) v1 f g
section S_laysMarks
variable {p : Program} {l : Launch} {e : Env} {s : State} {m : MethodId} {args : Array Value} {below : List Frame} {meth : Method} {c : Code} {A : Nat → Prop} {D : va_G} {cI cJ cZ : ClassId} {a : Nat → Nat}
set_option maxRecDepth 20000 in
theorem sb_laysMarks_110 (C : mC p s m args meth c cX12_laysMarks 8 (some .int) A D cI cJ cZ) {post : Int32 → mS → Prop} {R11 : Int32 → Int32 → Int32 → Int32 → Int32 → (Nat → Int32) → (Nat → Nat → Int32) → (Nat → Nat → Int64) → Prop} (hR11 : ∀ (x1 : Int32) (x2 : Int32) (x3 : Int32) (x4 : Int32) (x5 : Int32) (v : Nat → Int32) (f : Nat → Nat → Int32) (g : Nat → Nat → Int64), R11 x1 x2 x3 x4 x5 v f g → mG p l e (mRm 6 154) s m args below meth c A D cI cJ cZ a 8 (MQ below (va_Qi post (mB D cI cJ cZ a) A) args s 0 0 A) 11 [(0, .ref (a 0)), (1, .int x1), (2, .int x2), (3, .int x3), (4, .int x4), (5, .int x5)] [] v f g) (x1 : Int32) (x2 : Int32) (x3 : Int32) (x4 : Int32) (x5 : Int32) (v : Nat → Int32) (f : Nat → Nat → Int32) (g : Nat → Nat → Int64) (h : r_laysMarks_110 (fun r v f g => post r (v, f, g)) R11 x1 x2 x3 x4 x5 v f g) : mG p l e (mRm 6 154) s m args below meth c A D cI cJ cZ a 8 (MQ below (va_Qi post (mB D cI cJ cZ a) A) args s 0 0 A) 110 [(0, .ref (a 0)), (1, .int x1), (2, .int x2), (3, .int x3), (4, .int x4), (5, .int x5)] [] v f g := by
  unfold r_laysMarks_110 at h
  obtain ⟨x5_3, e_x5_3⟩ : ∃ z : Int32, z = x5 + nI 1 := ⟨_, rfl⟩
  have h := h x5_3 e_x5_3
  refine mg_iinc C (lv' := [(5, .int x5_3), (0, .ref (a 0)), (1, .int x1), (2, .int x2), (3, .int x3), (4, .int x4)]) 5 rfl (by rw [e_x5_3]; rfl) (Nat.le_of_ble_eq_true rfl) rfl dX12_laysMarks_110 ?_
  refine mg_goto C 11 (by decide) dX12_laysMarks_113 ?_
  exact mg_sub [1, 2, 3, 4, 5, 0] rfl (hR11 x1 x2 x3 x4 x5_3 v f g h)
set_option maxRecDepth 20000 in
theorem sb_laysMarks_75 (C : mC p s m args meth c cX12_laysMarks 8 (some .int) A D cI cJ cZ) {post : Int32 → mS → Prop} {R11 : Int32 → Int32 → Int32 → Int32 → Int32 → (Nat → Int32) → (Nat → Nat → Int32) → (Nat → Nat → Int64) → Prop} (hR11 : ∀ (x1 : Int32) (x2 : Int32) (x3 : Int32) (x4 : Int32) (x5 : Int32) (v : Nat → Int32) (f : Nat → Nat → Int32) (g : Nat → Nat → Int64), R11 x1 x2 x3 x4 x5 v f g → mG p l e (mRm 6 154) s m args below meth c A D cI cJ cZ a 8 (MQ below (va_Qi post (mB D cI cJ cZ a) A) args s 0 0 A) 11 [(0, .ref (a 0)), (1, .int x1), (2, .int x2), (3, .int x3), (4, .int x4), (5, .int x5)] [] v f g) (x1 : Int32) (x2 : Int32) (x3 : Int32) (x4 : Int32) (x5 : Int32) (t0 : Int32) (v : Nat → Int32) (f : Nat → Nat → Int32) (g : Nat → Nat → Int64) (h : r_laysMarks_75 (fun r v f g => post r (v, f, g)) R11 x1 x2 x3 x4 x5 t0 v f g) : mG p l e (mRm 6 154) s m args below meth c A D cI cJ cZ a 8 (MQ below (va_Qi post (mB D cI cJ cZ a) A) args s 0 0 A) 75 [(0, .ref (a 0)), (1, .int x1), (2, .int x2), (3, .int x3), (4, .int x4), (5, .int x5)] [.int t0] v f g := by
  unfold r_laysMarks_75 at h
  refine mg_istore C (lv' := [(7, .int t0), (0, .ref (a 0)), (1, .int x1), (2, .int x2), (3, .int x3), (4, .int x4), (5, .int x5)]) (Nat.le_of_ble_eq_true rfl) rfl dX12_laysMarks_75 ?_
  refine mg_iload C 0 rfl dX12_laysMarks_77 ?_
  refine mg_if_eq C 110 (by decide) dX12_laysMarks_79 (fun c_ => ?_) (fun c_ => ?_)
  · have h := h.1 c_
    exact mg_sub [1, 2, 3, 4, 5, 6] rfl (sb_laysMarks_110 C hR11 x1 x2 x3 x4 x5 v f g h)
  · have h := h.2 c_
    refine mg_aload_n C (i := 0) rfl 1 rfl dX12_laysMarks_82 ?_
    refine mg_arr C 61 (by decide) (by decide) rfl mL_marked rfl dX12_laysMarks_83 ?_
    refine mg_aload_n C (i := 0) rfl 1 rfl dX12_laysMarks_86 ?_
    refine mg_getI C (k := 92) (by decide) rfl mL_markedMany rfl dX12_laysMarks_87 ?_
    refine mg_iload C 0 rfl dX12_laysMarks_90 ?_
    obtain ⟨hc_92, h⟩ := h
    refine mg_iastoreR C (n := 48) 61 (by decide) (by decide) rfl rfl hc_92 dX12_laysMarks_92 ?_
    refine mg_nmF (fun f4 e_f4 => ?_)
    have h := h f4 e_f4
    refine mg_aload_n C (i := 0) rfl 1 rfl dX12_laysMarks_93 ?_
    refine mg_dup C rfl dX12_laysMarks_94 ?_
    refine mg_getI C (k := 92) (by decide) rfl mL_markedMany rfl dX12_laysMarks_95 ?_
    refine mg_iconst C (x := nI 1) rfl dX12_laysMarks_98 ?_
    refine mg_iadd C dX12_laysMarks_99 ?_
    refine mg_put C (k := 92) (by decide) rfl mL_markedMany rfl (by decide +kernel) mT_markedMany rfl rfl dX12_laysMarks_100 ?_
    refine mg_nmV (fun v5 e_v5 => ?_)
    have h := h v5 e_v5
    refine mg_iload C 5 rfl dX12_laysMarks_103 ?_
    refine mg_iload C 0 rfl dX12_laysMarks_105 ?_
    refine mg_ior C dX12_laysMarks_107 ?_
    refine mg_nmI (fun x4_6 e_x4_6 => ?_)
    have h := h x4_6 e_x4_6
    refine mg_istore C (lv' := [(4, .int x4_6), (7, .int t0), (0, .ref (a 0)), (1, .int x1), (2, .int x2), (3, .int x3), (5, .int x5)]) (Nat.le_of_ble_eq_true rfl) rfl dX12_laysMarks_108 ?_
    exact mg_sub [2, 3, 4, 5, 0, 6] rfl (sb_laysMarks_110 C hR11 x1 x2 x3 x4_6 x5 v5 f4 g h)
set_option maxRecDepth 20000 in
theorem sb_laysMarks_74 (C : mC p s m args meth c cX12_laysMarks 8 (some .int) A D cI cJ cZ) {post : Int32 → mS → Prop} {R11 : Int32 → Int32 → Int32 → Int32 → Int32 → (Nat → Int32) → (Nat → Nat → Int32) → (Nat → Nat → Int64) → Prop} (hR11 : ∀ (x1 : Int32) (x2 : Int32) (x3 : Int32) (x4 : Int32) (x5 : Int32) (v : Nat → Int32) (f : Nat → Nat → Int32) (g : Nat → Nat → Int64), R11 x1 x2 x3 x4 x5 v f g → mG p l e (mRm 6 154) s m args below meth c A D cI cJ cZ a 8 (MQ below (va_Qi post (mB D cI cJ cZ a) A) args s 0 0 A) 11 [(0, .ref (a 0)), (1, .int x1), (2, .int x2), (3, .int x3), (4, .int x4), (5, .int x5)] [] v f g) (x1 : Int32) (x2 : Int32) (x3 : Int32) (x4 : Int32) (x5 : Int32) (v : Nat → Int32) (f : Nat → Nat → Int32) (g : Nat → Nat → Int64) (h : r_laysMarks_74 (fun r v f g => post r (v, f, g)) R11 x1 x2 x3 x4 x5 v f g) : mG p l e (mRm 6 154) s m args below meth c A D cI cJ cZ a 8 (MQ below (va_Qi post (mB D cI cJ cZ a) A) args s 0 0 A) 74 [(0, .ref (a 0)), (1, .int x1), (2, .int x2), (3, .int x3), (4, .int x4), (5, .int x5)] [] v f g := by
  unfold r_laysMarks_74 at h
  refine mg_iconst C (x := nI 0) rfl dX12_laysMarks_74 ?_
  exact mg_sub [0, 1, 2, 3, 4, 5] rfl (sb_laysMarks_75 C hR11 x1 x2 x3 x4 x5 ((nI 0)) v f g h)
set_option maxRecDepth 20000 in
theorem sb_laysMarks_11 (C : mC p s m args meth c cX12_laysMarks 8 (some .int) A D cI cJ cZ) {post : Int32 → mS → Prop} {R11 : Int32 → Int32 → Int32 → Int32 → Int32 → (Nat → Int32) → (Nat → Nat → Int32) → (Nat → Nat → Int64) → Prop} (hR11 : ∀ (x1 : Int32) (x2 : Int32) (x3 : Int32) (x4 : Int32) (x5 : Int32) (v : Nat → Int32) (f : Nat → Nat → Int32) (g : Nat → Nat → Int64), R11 x1 x2 x3 x4 x5 v f g → mG p l e (mRm 6 154) s m args below meth c A D cI cJ cZ a 8 (MQ below (va_Qi post (mB D cI cJ cZ a) A) args s 0 0 A) 11 [(0, .ref (a 0)), (1, .int x1), (2, .int x2), (3, .int x3), (4, .int x4), (5, .int x5)] [] v f g) (x1 : Int32) (x2 : Int32) (x3 : Int32) (x4 : Int32) (x5 : Int32) (v : Nat → Int32) (f : Nat → Nat → Int32) (g : Nat → Nat → Int64) (h : r_laysMarks_11 (fun r v f g => post r (v, f, g)) R11 x1 x2 x3 x4 x5 v f g) : mG p l e (mRm 6 154) s m args below meth c A D cI cJ cZ a 8 (MQ below (va_Qi post (mB D cI cJ cZ a) A) args s 0 0 A) 11 [(0, .ref (a 0)), (1, .int x1), (2, .int x2), (3, .int x3), (4, .int x4), (5, .int x5)] [] v f g := by
  unfold r_laysMarks_11 at h
  refine mg_iload C 5 rfl dX12_laysMarks_11 ?_
  refine mg_aload_n C (i := 0) rfl 0 rfl dX12_laysMarks_13 ?_
  refine mg_arr C 48 (by decide) (by decide) rfl mL_opsMany rfl dX12_laysMarks_14 ?_
  refine mg_iload_n C (i := 1) rfl 1 rfl dX12_laysMarks_17 ?_
  obtain ⟨hc_18, h⟩ := h
  refine mg_ialoadR C (n := 41) 48 (by decide) (by decide) rfl rfl hc_18 dX12_laysMarks_18 ?_
  refine mg_icmp_ge C 116 (by decide) dX12_laysMarks_19 (fun c_ => ?_) (fun c_ => ?_)
  · have h := h.1 c_
    refine mg_iload C 4 rfl dX12_laysMarks_116 ?_
    exact mg_iret C h dX12_laysMarks_118
  · have h := h.2 c_
    refine mg_bipush C (x := nI 48) rfl dX12_laysMarks_22 ?_
    refine mg_iload_n C (i := 1) rfl 1 rfl dX12_laysMarks_24 ?_
    refine mg_imul C dX12_laysMarks_25 ?_
    refine mg_iload C 5 rfl dX12_laysMarks_26 ?_
    refine mg_iadd C dX12_laysMarks_28 ?_
    refine mg_nmI (fun x6_2 e_x6_2 => ?_)
    have h := h x6_2 e_x6_2
    refine mg_istore C (lv' := [(6, .int x6_2), (0, .ref (a 0)), (1, .int x1), (2, .int x2), (3, .int x3), (4, .int x4), (5, .int x5)]) (Nat.le_of_ble_eq_true rfl) rfl dX12_laysMarks_29 ?_
    refine mg_aload_n C (i := 0) rfl 1 rfl dX12_laysMarks_31 ?_
    refine mg_arr C 40 (by decide) (by decide) rfl mL_kinds rfl dX12_laysMarks_32 ?_
    refine mg_iload C 0 rfl dX12_laysMarks_35 ?_
    obtain ⟨hc_37, h⟩ := h
    refine mg_ialoadR C (n := 1968) 40 (by decide) (by decide) rfl rfl hc_37 dX12_laysMarks_37 ?_
    refine mg_bipush C (x := nI 6) rfl dX12_laysMarks_38 ?_
    refine mg_icmp_ge C 74 (by decide) dX12_laysMarks_40 (fun c_ => ?_) (fun c_ => ?_)
    · have h := h.1 c_
      exact mg_sub [1, 2, 3, 4, 5, 6] rfl (sb_laysMarks_74 C hR11 x1 x2 x3 x4 x5 v f g h)
    · have h := h.2 c_
      refine mg_aload_n C (i := 0) rfl 1 rfl dX12_laysMarks_43 ?_
      refine mg_arr C 56 (by decide) (by decide) rfl mL_inSecond rfl dX12_laysMarks_44 ?_
      refine mg_iload C 6 rfl dX12_laysMarks_47 ?_
      obtain ⟨hc_49, h⟩ := h
      refine mg_baloadR C (n := 48) 56 (by decide) (by decide) rfl rfl hc_49 dX12_laysMarks_49 ?_
      refine mg_if_ne C 74 (by decide) dX12_laysMarks_50 (fun c_ => ?_) (fun c_ => ?_)
      · have h := h.1 c_
        exact mg_sub [1, 2, 3, 4, 5, 6] rfl (sb_laysMarks_74 C hR11 x1 x2 x3 x4 x5 v f g h)
      · have h := h.2 c_
        refine mg_aload_n C (i := 0) rfl 1 rfl dX12_laysMarks_53 ?_
        refine mg_arr C 41 (by decide) (by decide) rfl mL_fields rfl dX12_laysMarks_54 ?_
        refine mg_iload C 0 rfl dX12_laysMarks_57 ?_
        obtain ⟨hc_59, h⟩ := h
        refine mg_ialoadR C (n := 1968) 41 (by decide) (by decide) rfl rfl hc_59 dX12_laysMarks_59 ?_
        refine mg_iload_n C (i := 3) rfl 4 rfl dX12_laysMarks_60 ?_
        refine mg_icmp_ne C 74 (by decide) dX12_laysMarks_61 (fun c_ => ?_) (fun c_ => ?_)
        · have h := h.1 c_
          exact mg_sub [1, 2, 3, 4, 5, 6] rfl (sb_laysMarks_74 C hR11 x1 x2 x3 x4 x5 v f g h)
        · have h := h.2 c_
          refine mg_aload_n C (i := 0) rfl 1 rfl dX12_laysMarks_64 ?_
          refine mg_iload_n C (i := 2) rfl 3 rfl dX12_laysMarks_65 ?_
          refine mg_iload C 0 rfl dX12_laysMarks_66 ?_
          refine mg_calliW C (s_marks l x2 x6_2 v f g h) mCal_marks rfl ⟨by decide, by decide⟩ rfl (Nat.le_of_ble_eq_true rfl) dX12_laysMarks_68 (fun r_7 v_7 f_7 g_7 h => ?_)
          refine mg_goto C 75 (by decide) dX12_laysMarks_71 ?_
          exact mg_sub [1, 2, 3, 4, 5, 6] rfl (sb_laysMarks_75 C hR11 x1 x2 x3 x4 x5 r_7 v_7 f_7 g_7 h)
set_option maxRecDepth 20000 in
theorem sl_laysMarks_11 (C : mC p s m args meth c cX12_laysMarks 8 (some .int) A D cI cJ cZ) {post : Int32 → mS → Prop}   (x1 : Int32) (x2 : Int32) (x3 : Int32) (x4 : Int32) (x5 : Int32) (v : Nat → Int32) (f : Nat → Nat → Int32) (g : Nat → Nat → Int64) (h : r_laysMarks_11L (fun r v f g => post r (v, f, g))  x1 x2 x3 x4 x5 v f g) : mG p l e (mRm 6 154) s m args below meth c A D cI cJ cZ a 8 (MQ below (va_Qi post (mB D cI cJ cZ a) A) args s 0 0 A) 11 [(0, .ref (a 0)), (1, .int x1), (2, .int x2), (3, .int x3), (4, .int x4), (5, .int x5)] [] v f g :=
  h (fun y => mG p l e (mRm 6 154) s m args below meth c A D cI cJ cZ a 8 (MQ below (va_Qi post (mB D cI cJ cZ a) A) args s 0 0 A) 11 [(0, .ref (a 0)), (1, .int (y.1)), (2, .int (y.2.1)), (3, .int (y.2.2.1)), (4, .int (y.2.2.2.1)), (5, .int (y.2.2.2.2.1))] [] (y.2.2.2.2.2.1) (y.2.2.2.2.2.2.1) (y.2.2.2.2.2.2.2)) (fun y hy => sb_laysMarks_11 C  (fun b0 b1 b2 b3 b4 v f g z => z) (y.1) (y.2.1) (y.2.2.1) (y.2.2.2.1) (y.2.2.2.2.1) (y.2.2.2.2.2.1) (y.2.2.2.2.2.2.1) (y.2.2.2.2.2.2.2) hy)
end S_laysMarks
set_option maxHeartbeats 1000000 in
set_option maxRecDepth 20000 in
theorem s_laysMarks (l : Launch) (x1 : Int32) (x2 : Int32) (x3 : Int32) (v : Nat → Int32) (f : Nat → Nat → Int32) (g : Nat → Nat → Int64) {P : Int32 → (Nat → Int32) → (Nat → Nat → Int32) → (Nat → Nat → Int64) → Prop} (h : r_laysMarks P x1 x2 x3 v f g) : mMi l yX12_laysMarks cX12_laysMarks 8 (some .int) 6 154 false [.int x1, .int x2, .int x3] v f g (fun r w => P r w.1 w.2.1 w.2.2) := by
  intro D cI cJ cZ a sz
  refine mg_body (by decide +kernel) rfl (Nat.le_of_ble_eq_true rfl) ?_
  intro p e s m args below meth c hsz C
  clear hsz
  generalize va_A (mW cI cJ cZ a v f g) sz = A at C ⊢
  refine mg_lv (lv' := [(0, .ref (a 0)), (1, .int x1), (2, .int x2), (3, .int x3)]) rfl ?_
  unfold r_laysMarks at h
  refine mg_iconst C (x := nI 0) rfl dX12_laysMarks_0 ?_
  refine mg_istore C (lv' := [(4, .int ((nI 0))), (0, .ref (a 0)), (1, .int x1), (2, .int x2), (3, .int x3)]) (Nat.le_of_ble_eq_true rfl) rfl dX12_laysMarks_1 ?_
  refine mg_aload_n C (i := 0) rfl 1 rfl dX12_laysMarks_3 ?_
  refine mg_iconst C (x := nI 0) rfl dX12_laysMarks_4 ?_
  refine mg_put C (k := 92) (by decide) rfl mL_markedMany rfl (by decide +kernel) mT_markedMany rfl rfl dX12_laysMarks_5 ?_
  refine mg_nmV (fun v1 e_v1 => ?_)
  have h := h v1 e_v1
  refine mg_iconst C (x := nI 0) rfl dX12_laysMarks_8 ?_
  refine mg_istore C (lv' := [(5, .int ((nI 0))), (4, .int ((nI 0))), (0, .ref (a 0)), (1, .int x1), (2, .int x2), (3, .int x3)]) (Nat.le_of_ble_eq_true rfl) rfl dX12_laysMarks_9 ?_
  exact mg_sub [2, 3, 4, 5, 1, 0] rfl (sl_laysMarks_11 C  x1 x2 x3 (((nI 0))) (((nI 0))) v1 f g h)
def r_areMet_65 (Q : Int32 → (Nat → Int32) → (Nat → Nat → Int32) → (Nat → Nat → Int64) → Prop) (R35 : Int32 → Int32 → Int32 → (Nat → Int32) → (Nat → Nat → Int32) → (Nat → Nat → Int64) → Prop) (x3 : Int32) (x4 : Int32) (t0 : Int32) (v : Nat → Int32) (f : Nat → Nat → Int32) (g : Nat → Nat → Int64) : Prop :=
∀ x4_1 : Int32, x4_1 = x4 + nI 1 → R35 t0 x3 x4_1 v f g
def r_areMet_64 (Q : Int32 → (Nat → Int32) → (Nat → Nat → Int32) → (Nat → Nat → Int64) → Prop) (R35 : Int32 → Int32 → Int32 → (Nat → Int32) → (Nat → Nat → Int32) → (Nat → Nat → Int64) → Prop) (x3 : Int32) (x4 : Int32) (v : Nat → Int32) (f : Nat → Nat → Int32) (g : Nat → Nat → Int64) : Prop :=
r_areMet_65 Q R35 x3 x4 ((nI 0)) v f g
def r_areMet_35 (Q : Int32 → (Nat → Int32) → (Nat → Nat → Int32) → (Nat → Nat → Int64) → Prop) (R35 : Int32 → Int32 → Int32 → (Nat → Int32) → (Nat → Nat → Int32) → (Nat → Nat → Int64) → Prop) (x2 : Int32) (x3 : Int32) (x4 : Int32) (v : Nat → Int32) (f : Nat → Nat → Int32) (g : Nat → Nat → Int64) : Prop :=
((((v 92)) ≤ x4 →
  isZ x2 ∧ (Q x2 v f g)) ∧
 (¬ ((v 92)) ≤ x4 →
  ((x2 = 0 →
    r_areMet_64 Q R35 x3 x4 v f g) ∧
   (¬ x2 = 0 →
    vp_in x4 48 ∧ (((((((f 61 (x4).toNatClampNeg)) &&& x3)) = 0 →
      r_areMet_64 Q R35 x3 x4 v f g) ∧
     (¬ ((((f 61 (x4).toNatClampNeg)) &&& x3)) = 0 →
      r_areMet_65 Q R35 x3 x4 ((nI 1)) v f g)))))))
def r_areMet_35L (Q : Int32 → (Nat → Int32) → (Nat → Nat → Int32) → (Nat → Nat → Int64) → Prop)  (x2 : Int32) (x3 : Int32) (x4 : Int32) (v : Nat → Int32) (f : Nat → Nat → Int32) (g : Nat → Nat → Int64) : Prop :=
  lfp (X := Int32 × Int32 × Int32 × (Nat → Int32) × (Nat → Nat → Int32) × (Nat → Nat → Int64)) (fun P y => r_areMet_35 Q  (fun b0 b1 b2 v f g => P (b0, b1, b2, v, f, g)) y.1 y.2.1 y.2.2.1 y.2.2.2.1 y.2.2.2.2.1 y.2.2.2.2.2) (x2, x3, x4, v, f, g)
def r_areMet_7 (Q : Int32 → (Nat → Int32) → (Nat → Nat → Int32) → (Nat → Nat → Int64) → Prop) (R7 : Int32 → Int32 → Int32 → Int32 → (Nat → Int32) → (Nat → Nat → Int32) → (Nat → Nat → Int64) → Prop) (x1 : Int32) (x2 : Int32) (x3 : Int32) (x4 : Int32) (v : Nat → Int32) (f : Nat → Nat → Int32) (g : Nat → Nat → Int64) : Prop :=
((x1 ≤ x4 →
  r_areMet_35L Q  x2 x3 (((nI 0))) v f g) ∧
 (¬ x1 ≤ x4 →
  vp_in x4 20 ∧ (∀ x3_2 : Int32, x3_2 = (x3 ||| ((((nI 63)) <<< (((f 64 (x4).toNatClampNeg)) &&& 31)))) → ∀ x4_3 : Int32, x4_3 = x4 + nI 1 → R7 x1 x2 x3_2 x4_3 v f g)))
def r_areMet_7L (Q : Int32 → (Nat → Int32) → (Nat → Nat → Int32) → (Nat → Nat → Int64) → Prop)  (x1 : Int32) (x2 : Int32) (x3 : Int32) (x4 : Int32) (v : Nat → Int32) (f : Nat → Nat → Int32) (g : Nat → Nat → Int64) : Prop :=
  lfp (X := Int32 × Int32 × Int32 × Int32 × (Nat → Int32) × (Nat → Nat → Int32) × (Nat → Nat → Int64)) (fun P y => r_areMet_7 Q  (fun b0 b1 b2 b3 v f g => P (b0, b1, b2, b3, v, f, g)) y.1 y.2.1 y.2.2.1 y.2.2.2.1 y.2.2.2.2.1 y.2.2.2.2.2.1 y.2.2.2.2.2.2) (x1, x2, x3, x4, v, f, g)
def r_areMet (Q : Int32 → (Nat → Int32) → (Nat → Nat → Int32) → (Nat → Nat → Int64) → Prop) (x1 : Int32) (v : Nat → Int32) (f : Nat → Nat → Int32) (g : Nat → Nat → Int64) : Prop :=
r_areMet_7L Q  x1 (((nI 1))) (((nI 0))) (((nI 0))) v f g
section S_areMet
variable {p : Program} {l : Launch} {e : Env} {s : State} {m : MethodId} {args : Array Value} {below : List Frame} {meth : Method} {c : Code} {A : Nat → Prop} {D : va_G} {cI cJ cZ : ClassId} {a : Nat → Nat}
set_option maxRecDepth 20000 in
theorem sb_areMet_65 (C : mC p s m args meth c cX12_areMet 5 (some .boolean) A D cI cJ cZ) {post : Int32 → mS → Prop} {R35 : Int32 → Int32 → Int32 → (Nat → Int32) → (Nat → Nat → Int32) → (Nat → Nat → Int64) → Prop} (hR35 : ∀ (x2 : Int32) (x3 : Int32) (x4 : Int32) (v : Nat → Int32) (f : Nat → Nat → Int32) (g : Nat → Nat → Int64), R35 x2 x3 x4 v f g → mG p l e (mRm 0 0) s m args below meth c A D cI cJ cZ a 5 (MQ below (va_Qi post (mB D cI cJ cZ a) A) args s 0 0 A) 35 [(0, .ref (a 0)), (2, .int x2), (3, .int x3), (4, .int x4)] [] v f g) (x3 : Int32) (x4 : Int32) (t0 : Int32) (v : Nat → Int32) (f : Nat → Nat → Int32) (g : Nat → Nat → Int64) (h : r_areMet_65 (fun r v f g => post r (v, f, g)) R35 x3 x4 t0 v f g) : mG p l e (mRm 0 0) s m args below meth c A D cI cJ cZ a 5 (MQ below (va_Qi post (mB D cI cJ cZ a) A) args s 0 0 A) 65 [(0, .ref (a 0)), (3, .int x3), (4, .int x4)] [.int t0] v f g := by
  unfold r_areMet_65 at h
  refine mg_istore_n C (i := 2) (lv' := [(2, .int t0), (0, .ref (a 0)), (3, .int x3), (4, .int x4)]) rfl (Nat.le_of_ble_eq_true rfl) rfl dX12_areMet_65 ?_
  obtain ⟨x4_1, e_x4_1⟩ : ∃ z : Int32, z = x4 + nI 1 := ⟨_, rfl⟩
  have h := h x4_1 e_x4_1
  refine mg_iinc C (lv' := [(4, .int x4_1), (2, .int t0), (0, .ref (a 0)), (3, .int x3)]) 3 rfl (by rw [e_x4_1]; rfl) (Nat.le_of_ble_eq_true rfl) rfl dX12_areMet_66 ?_
  refine mg_goto C 35 (by decide) dX12_areMet_69 ?_
  exact mg_sub [2, 1, 3, 0] rfl (hR35 t0 x3 x4_1 v f g h)
set_option maxRecDepth 20000 in
theorem sb_areMet_64 (C : mC p s m args meth c cX12_areMet 5 (some .boolean) A D cI cJ cZ) {post : Int32 → mS → Prop} {R35 : Int32 → Int32 → Int32 → (Nat → Int32) → (Nat → Nat → Int32) → (Nat → Nat → Int64) → Prop} (hR35 : ∀ (x2 : Int32) (x3 : Int32) (x4 : Int32) (v : Nat → Int32) (f : Nat → Nat → Int32) (g : Nat → Nat → Int64), R35 x2 x3 x4 v f g → mG p l e (mRm 0 0) s m args below meth c A D cI cJ cZ a 5 (MQ below (va_Qi post (mB D cI cJ cZ a) A) args s 0 0 A) 35 [(0, .ref (a 0)), (2, .int x2), (3, .int x3), (4, .int x4)] [] v f g) (x3 : Int32) (x4 : Int32) (v : Nat → Int32) (f : Nat → Nat → Int32) (g : Nat → Nat → Int64) (h : r_areMet_64 (fun r v f g => post r (v, f, g)) R35 x3 x4 v f g) : mG p l e (mRm 0 0) s m args below meth c A D cI cJ cZ a 5 (MQ below (va_Qi post (mB D cI cJ cZ a) A) args s 0 0 A) 64 [(0, .ref (a 0)), (3, .int x3), (4, .int x4)] [] v f g := by
  unfold r_areMet_64 at h
  refine mg_iconst C (x := nI 0) rfl dX12_areMet_64 ?_
  exact mg_sub [0, 1, 2] rfl (sb_areMet_65 C hR35 x3 x4 ((nI 0)) v f g h)
set_option maxRecDepth 20000 in
theorem sb_areMet_35 (C : mC p s m args meth c cX12_areMet 5 (some .boolean) A D cI cJ cZ) {post : Int32 → mS → Prop} {R35 : Int32 → Int32 → Int32 → (Nat → Int32) → (Nat → Nat → Int32) → (Nat → Nat → Int64) → Prop} (hR35 : ∀ (x2 : Int32) (x3 : Int32) (x4 : Int32) (v : Nat → Int32) (f : Nat → Nat → Int32) (g : Nat → Nat → Int64), R35 x2 x3 x4 v f g → mG p l e (mRm 0 0) s m args below meth c A D cI cJ cZ a 5 (MQ below (va_Qi post (mB D cI cJ cZ a) A) args s 0 0 A) 35 [(0, .ref (a 0)), (2, .int x2), (3, .int x3), (4, .int x4)] [] v f g) (x2 : Int32) (x3 : Int32) (x4 : Int32) (v : Nat → Int32) (f : Nat → Nat → Int32) (g : Nat → Nat → Int64) (h : r_areMet_35 (fun r v f g => post r (v, f, g)) R35 x2 x3 x4 v f g) : mG p l e (mRm 0 0) s m args below meth c A D cI cJ cZ a 5 (MQ below (va_Qi post (mB D cI cJ cZ a) A) args s 0 0 A) 35 [(0, .ref (a 0)), (2, .int x2), (3, .int x3), (4, .int x4)] [] v f g := by
  unfold r_areMet_35 at h
  refine mg_iload C 3 rfl dX12_areMet_35 ?_
  refine mg_aload_n C (i := 0) rfl 0 rfl dX12_areMet_37 ?_
  refine mg_getI C (k := 92) (by decide) rfl mL_markedMany rfl dX12_areMet_38 ?_
  refine mg_icmp_ge C 72 (by decide) dX12_areMet_41 (fun c_ => ?_) (fun c_ => ?_)
  · have h := h.1 c_
    refine mg_iload_n C (i := 2) rfl 1 rfl dX12_areMet_72 ?_
    obtain ⟨hc_73, h⟩ := h
    exact mg_zret C (isZ_nar hc_73) h dX12_areMet_73
  · have h := h.2 c_
    refine mg_iload_n C (i := 2) rfl 1 rfl dX12_areMet_44 ?_
    refine mg_if_eq C 64 (by decide) dX12_areMet_45 (fun c_ => ?_) (fun c_ => ?_)
    · have h := h.1 c_
      exact mg_sub [0, 2, 3] rfl (sb_areMet_64 C hR35 x3 x4 v f g h)
    · have h := h.2 c_
      refine mg_aload_n C (i := 0) rfl 0 rfl dX12_areMet_48 ?_
      refine mg_arr C 61 (by decide) (by decide) rfl mL_marked rfl dX12_areMet_49 ?_
      refine mg_iload C 3 rfl dX12_areMet_52 ?_
      obtain ⟨hc_54, h⟩ := h
      refine mg_ialoadR C (n := 48) 61 (by decide) (by decide) rfl rfl hc_54 dX12_areMet_54 ?_
      refine mg_iload_n C (i := 3) rfl 2 rfl dX12_areMet_55 ?_
      refine mg_iand C dX12_areMet_56 ?_
      refine mg_if_eq C 64 (by decide) dX12_areMet_57 (fun c_ => ?_) (fun c_ => ?_)
      · have h := h.1 c_
        exact mg_sub [0, 2, 3] rfl (sb_areMet_64 C hR35 x3 x4 v f g h)
      · have h := h.2 c_
        refine mg_iconst C (x := nI 1) rfl dX12_areMet_60 ?_
        refine mg_goto C 65 (by decide) dX12_areMet_61 ?_
        exact mg_sub [0, 2, 3] rfl (sb_areMet_65 C hR35 x3 x4 ((nI 1)) v f g h)
set_option maxRecDepth 20000 in
theorem sl_areMet_35 (C : mC p s m args meth c cX12_areMet 5 (some .boolean) A D cI cJ cZ) {post : Int32 → mS → Prop}   (x2 : Int32) (x3 : Int32) (x4 : Int32) (v : Nat → Int32) (f : Nat → Nat → Int32) (g : Nat → Nat → Int64) (h : r_areMet_35L (fun r v f g => post r (v, f, g))  x2 x3 x4 v f g) : mG p l e (mRm 0 0) s m args below meth c A D cI cJ cZ a 5 (MQ below (va_Qi post (mB D cI cJ cZ a) A) args s 0 0 A) 35 [(0, .ref (a 0)), (2, .int x2), (3, .int x3), (4, .int x4)] [] v f g :=
  h (fun y => mG p l e (mRm 0 0) s m args below meth c A D cI cJ cZ a 5 (MQ below (va_Qi post (mB D cI cJ cZ a) A) args s 0 0 A) 35 [(0, .ref (a 0)), (2, .int (y.1)), (3, .int (y.2.1)), (4, .int (y.2.2.1))] [] (y.2.2.2.1) (y.2.2.2.2.1) (y.2.2.2.2.2)) (fun y hy => sb_areMet_35 C  (fun b0 b1 b2 v f g z => z) (y.1) (y.2.1) (y.2.2.1) (y.2.2.2.1) (y.2.2.2.2.1) (y.2.2.2.2.2) hy)
set_option maxRecDepth 20000 in
theorem sb_areMet_7 (C : mC p s m args meth c cX12_areMet 5 (some .boolean) A D cI cJ cZ) {post : Int32 → mS → Prop} {R7 : Int32 → Int32 → Int32 → Int32 → (Nat → Int32) → (Nat → Nat → Int32) → (Nat → Nat → Int64) → Prop} (hR7 : ∀ (x1 : Int32) (x2 : Int32) (x3 : Int32) (x4 : Int32) (v : Nat → Int32) (f : Nat → Nat → Int32) (g : Nat → Nat → Int64), R7 x1 x2 x3 x4 v f g → mG p l e (mRm 0 0) s m args below meth c A D cI cJ cZ a 5 (MQ below (va_Qi post (mB D cI cJ cZ a) A) args s 0 0 A) 7 [(0, .ref (a 0)), (1, .int x1), (2, .int x2), (3, .int x3), (4, .int x4)] [] v f g) (x1 : Int32) (x2 : Int32) (x3 : Int32) (x4 : Int32) (v : Nat → Int32) (f : Nat → Nat → Int32) (g : Nat → Nat → Int64) (h : r_areMet_7 (fun r v f g => post r (v, f, g)) R7 x1 x2 x3 x4 v f g) : mG p l e (mRm 0 0) s m args below meth c A D cI cJ cZ a 5 (MQ below (va_Qi post (mB D cI cJ cZ a) A) args s 0 0 A) 7 [(0, .ref (a 0)), (1, .int x1), (2, .int x2), (3, .int x3), (4, .int x4)] [] v f g := by
  unfold r_areMet_7 at h
  refine mg_iload C 4 rfl dX12_areMet_7 ?_
  refine mg_iload_n C (i := 1) rfl 1 rfl dX12_areMet_9 ?_
  refine mg_icmp_ge C 32 (by decide) dX12_areMet_10 (fun c_ => ?_) (fun c_ => ?_)
  · have h := h.1 c_
    refine mg_iconst C (x := nI 0) rfl dX12_areMet_32 ?_
    refine mg_istore C (lv' := [(4, .int ((nI 0))), (0, .ref (a 0)), (1, .int x1), (2, .int x2), (3, .int x3)]) (Nat.le_of_ble_eq_true rfl) rfl dX12_areMet_33 ?_
    exact mg_sub [1, 3, 4, 0] rfl (sl_areMet_35 C  x2 x3 (((nI 0))) v f g h)
  · have h := h.2 c_
    refine mg_iload_n C (i := 3) rfl 3 rfl dX12_areMet_13 ?_
    refine mg_bipush C (x := nI 63) rfl dX12_areMet_14 ?_
    refine mg_aload_n C (i := 0) rfl 0 rfl dX12_areMet_16 ?_
    refine mg_arr C 64 (by decide) (by decide) rfl mL_chosen rfl dX12_areMet_17 ?_
    refine mg_iload C 4 rfl dX12_areMet_20 ?_
    obtain ⟨hc_22, h⟩ := h
    refine mg_ialoadR C (n := 20) 64 (by decide) (by decide) rfl rfl hc_22 dX12_areMet_22 ?_
    refine mg_ishl C dX12_areMet_23 ?_
    refine mg_ior C dX12_areMet_24 ?_
    refine mg_nmI (fun x3_2 e_x3_2 => ?_)
    have h := h x3_2 e_x3_2
    refine mg_istore_n C (i := 3) (lv' := [(3, .int x3_2), (0, .ref (a 0)), (1, .int x1), (2, .int x2), (4, .int x4)]) rfl (Nat.le_of_ble_eq_true rfl) rfl dX12_areMet_25 ?_
    obtain ⟨x4_3, e_x4_3⟩ : ∃ z : Int32, z = x4 + nI 1 := ⟨_, rfl⟩
    have h := h x4_3 e_x4_3
    refine mg_iinc C (lv' := [(4, .int x4_3), (3, .int x3_2), (0, .ref (a 0)), (1, .int x1), (2, .int x2)]) 4 rfl (by rw [e_x4_3]; rfl) (Nat.le_of_ble_eq_true rfl) rfl dX12_areMet_26 ?_
    refine mg_goto C 7 (by decide) dX12_areMet_29 ?_
    exact mg_sub [2, 3, 4, 1, 0] rfl (hR7 x1 x2 x3_2 x4_3 v f g h)
set_option maxRecDepth 20000 in
theorem sl_areMet_7 (C : mC p s m args meth c cX12_areMet 5 (some .boolean) A D cI cJ cZ) {post : Int32 → mS → Prop}   (x1 : Int32) (x2 : Int32) (x3 : Int32) (x4 : Int32) (v : Nat → Int32) (f : Nat → Nat → Int32) (g : Nat → Nat → Int64) (h : r_areMet_7L (fun r v f g => post r (v, f, g))  x1 x2 x3 x4 v f g) : mG p l e (mRm 0 0) s m args below meth c A D cI cJ cZ a 5 (MQ below (va_Qi post (mB D cI cJ cZ a) A) args s 0 0 A) 7 [(0, .ref (a 0)), (1, .int x1), (2, .int x2), (3, .int x3), (4, .int x4)] [] v f g :=
  h (fun y => mG p l e (mRm 0 0) s m args below meth c A D cI cJ cZ a 5 (MQ below (va_Qi post (mB D cI cJ cZ a) A) args s 0 0 A) 7 [(0, .ref (a 0)), (1, .int (y.1)), (2, .int (y.2.1)), (3, .int (y.2.2.1)), (4, .int (y.2.2.2.1))] [] (y.2.2.2.2.1) (y.2.2.2.2.2.1) (y.2.2.2.2.2.2)) (fun y hy => sb_areMet_7 C  (fun b0 b1 b2 b3 v f g z => z) (y.1) (y.2.1) (y.2.2.1) (y.2.2.2.1) (y.2.2.2.2.1) (y.2.2.2.2.2.1) (y.2.2.2.2.2.2) hy)
end S_areMet
set_option maxHeartbeats 1000000 in
set_option maxRecDepth 20000 in
theorem s_areMet (l : Launch) (x1 : Int32) (v : Nat → Int32) (f : Nat → Nat → Int32) (g : Nat → Nat → Int64) {P : Int32 → (Nat → Int32) → (Nat → Nat → Int32) → (Nat → Nat → Int64) → Prop} (h : r_areMet P x1 v f g) : mMi l yX12_areMet cX12_areMet 5 (some .boolean) 0 0 false [.int x1] v f g (fun r w => P r w.1 w.2.1 w.2.2) := by
  intro D cI cJ cZ a sz
  refine mg_body (by decide +kernel) rfl (Nat.le_of_ble_eq_true rfl) ?_
  intro p e s m args below meth c hsz C
  clear hsz
  generalize va_A (mW cI cJ cZ a v f g) sz = A at C ⊢
  refine mg_lv (lv' := [(0, .ref (a 0)), (1, .int x1)]) rfl ?_
  unfold r_areMet at h
  refine mg_iconst C (x := nI 1) rfl dX12_areMet_0 ?_
  refine mg_istore_n C (i := 2) (lv' := [(2, .int ((nI 1))), (0, .ref (a 0)), (1, .int x1)]) rfl (Nat.le_of_ble_eq_true rfl) rfl dX12_areMet_1 ?_
  refine mg_iconst C (x := nI 0) rfl dX12_areMet_2 ?_
  refine mg_istore_n C (i := 3) (lv' := [(3, .int ((nI 0))), (2, .int ((nI 1))), (0, .ref (a 0)), (1, .int x1)]) rfl (Nat.le_of_ble_eq_true rfl) rfl dX12_areMet_3 ?_
  refine mg_iconst C (x := nI 0) rfl dX12_areMet_4 ?_
  refine mg_istore C (lv' := [(4, .int ((nI 0))), (3, .int ((nI 0))), (2, .int ((nI 1))), (0, .ref (a 0)), (1, .int x1)]) (Nat.le_of_ble_eq_true rfl) rfl dX12_areMet_5 ?_
  exact mg_sub [3, 4, 2, 1, 0] rfl (sl_areMet_7 C  x1 (((nI 1))) (((nI 0))) (((nI 0))) v f g h)
def r_goesOn_49 (Q : Int32 → (Nat → Int32) → (Nat → Nat → Int32) → (Nat → Nat → Int64) → Prop) (R49 : Int32 → Int32 → (Nat → Int32) → (Nat → Nat → Int32) → (Nat → Nat → Int64) → Prop) (x1 : Int32) (x4 : Int32) (v : Nat → Int32) (f : Nat → Nat → Int32) (g : Nat → Nat → Int64) : Prop :=
((x1 ≤ x4 →
  Q ((bI true)) v f g) ∧
 (¬ x1 ≤ x4 →
  vp_in ((x4 - ((nI 1)))) 20 ∧ (vp_in x4 20 ∧ (∀ f4 : Nat → Nat → Int32, f4 = mU f 63 (x4).toNatClampNeg ((((f 63 ((x4 - ((nI 1)))).toNatClampNeg)) + ((nI 1)))) → ∀ x4_5 : Int32, x4_5 = x4 + nI 1 → R49 x1 x4_5 v f4 g))))
def r_goesOn_49L (Q : Int32 → (Nat → Int32) → (Nat → Nat → Int32) → (Nat → Nat → Int64) → Prop)  (x1 : Int32) (x4 : Int32) (v : Nat → Int32) (f : Nat → Nat → Int32) (g : Nat → Nat → Int64) : Prop :=
  lfp (X := Int32 × Int32 × (Nat → Int32) × (Nat → Nat → Int32) × (Nat → Nat → Int64)) (fun P y => r_goesOn_49 Q  (fun b0 b1 v f g => P (b0, b1, v, f, g)) y.1 y.2.1 y.2.2.1 y.2.2.2.1 y.2.2.2.2) (x1, x4, v, f, g)
def r_goesOn_28 (Q : Int32 → (Nat → Int32) → (Nat → Nat → Int32) → (Nat → Nat → Int64) → Prop)  (x1 : Int32) (x3 : Int32) (v : Nat → Int32) (f : Nat → Nat → Int32) (g : Nat → Nat → Int64) : Prop :=
((0 ≤ x3 →
  vp_in x3 20 ∧ (vp_in x3 20 ∧ (∀ f2 : Nat → Nat → Int32, f2 = mU f 63 (x3).toNatClampNeg ((((f 63 (x3).toNatClampNeg)) + ((nI 1)))) → ∀ x4_3 : Int32, x4_3 = (x3 + ((nI 1))) → r_goesOn_49L Q  x1 x4_3 v f2 g))) ∧
 (¬ 0 ≤ x3 →
  Q ((bI false)) v f g))
def r_goesOn_4 (Q : Int32 → (Nat → Int32) → (Nat → Nat → Int32) → (Nat → Nat → Int64) → Prop) (R4 : Int32 → Int32 → Int32 → (Nat → Int32) → (Nat → Nat → Int32) → (Nat → Nat → Int64) → Prop) (x1 : Int32) (x2 : Int32) (x3 : Int32) (v : Nat → Int32) (f : Nat → Nat → Int32) (g : Nat → Nat → Int64) : Prop :=
((x3 < 0 →
  r_goesOn_28 Q  x1 x3 v f g) ∧
 (¬ x3 < 0 →
  vp_in x3 20 ∧ (((¬ ((f 63 (x3).toNatClampNeg)) = ((((x2 - x1)) + x3)) →
    r_goesOn_28 Q  x1 x3 v f g) ∧
   (((f 63 (x3).toNatClampNeg)) = ((((x2 - x1)) + x3)) →
    ∀ x3_6 : Int32, x3_6 = x3 + (-1) → R4 x1 x2 x3_6 v f g)))))
def r_goesOn_4L (Q : Int32 → (Nat → Int32) → (Nat → Nat → Int32) → (Nat → Nat → Int64) → Prop)  (x1 : Int32) (x2 : Int32) (x3 : Int32) (v : Nat → Int32) (f : Nat → Nat → Int32) (g : Nat → Nat → Int64) : Prop :=
  lfp (X := Int32 × Int32 × Int32 × (Nat → Int32) × (Nat → Nat → Int32) × (Nat → Nat → Int64)) (fun P y => r_goesOn_4 Q  (fun b0 b1 b2 v f g => P (b0, b1, b2, v, f, g)) y.1 y.2.1 y.2.2.1 y.2.2.2.1 y.2.2.2.2.1 y.2.2.2.2.2) (x1, x2, x3, v, f, g)
def r_goesOn (Q : Int32 → (Nat → Int32) → (Nat → Nat → Int32) → (Nat → Nat → Int64) → Prop) (x1 : Int32) (x2 : Int32) (v : Nat → Int32) (f : Nat → Nat → Int32) (g : Nat → Nat → Int64) : Prop :=
∀ x3_1 : Int32, x3_1 = (x1 - ((nI 1))) → r_goesOn_4L Q  x1 x2 x3_1 v f g
section S_goesOn
variable {p : Program} {l : Launch} {e : Env} {s : State} {m : MethodId} {args : Array Value} {below : List Frame} {meth : Method} {c : Code} {A : Nat → Prop} {D : va_G} {cI cJ cZ : ClassId} {a : Nat → Nat}
set_option maxRecDepth 20000 in
theorem sb_goesOn_49 (C : mC p s m args meth c cX12_goesOn 5 (some .boolean) A D cI cJ cZ) {post : Int32 → mS → Prop} {R49 : Int32 → Int32 → (Nat → Int32) → (Nat → Nat → Int32) → (Nat → Nat → Int64) → Prop} (hR49 : ∀ (x1 : Int32) (x4 : Int32) (v : Nat → Int32) (f : Nat → Nat → Int32) (g : Nat → Nat → Int64), R49 x1 x4 v f g → mG p l e (mRm 0 0) s m args below meth c A D cI cJ cZ a 5 (MQ below (va_Qi post (mB D cI cJ cZ a) A) args s 0 0 A) 49 [(0, .ref (a 0)), (1, .int x1), (4, .int x4)] [] v f g) (x1 : Int32) (x4 : Int32) (v : Nat → Int32) (f : Nat → Nat → Int32) (g : Nat → Nat → Int64) (h : r_goesOn_49 (fun r v f g => post r (v, f, g)) R49 x1 x4 v f g) : mG p l e (mRm 0 0) s m args below meth c A D cI cJ cZ a 5 (MQ below (va_Qi post (mB D cI cJ cZ a) A) args s 0 0 A) 49 [(0, .ref (a 0)), (1, .int x1), (4, .int x4)] [] v f g := by
  unfold r_goesOn_49 at h
  refine mg_iload C 2 rfl dX12_goesOn_49 ?_
  refine mg_iload_n C (i := 1) rfl 1 rfl dX12_goesOn_51 ?_
  refine mg_icmp_ge C 79 (by decide) dX12_goesOn_52 (fun c_ => ?_) (fun c_ => ?_)
  · have h := h.1 c_
    refine mg_iconst C (x := nI 1) rfl dX12_goesOn_79 ?_
    refine mg_cast (bI true) rfl ?_
    exact mg_zret C (bI_nar _) h dX12_goesOn_80
  · have h := h.2 c_
    refine mg_aload_n C (i := 0) rfl 0 rfl dX12_goesOn_55 ?_
    refine mg_arr C 63 (by decide) (by decide) rfl mL_picked rfl dX12_goesOn_56 ?_
    refine mg_iload C 2 rfl dX12_goesOn_59 ?_
    refine mg_aload_n C (i := 0) rfl 0 rfl dX12_goesOn_61 ?_
    refine mg_arr C 63 (by decide) (by decide) rfl mL_picked rfl dX12_goesOn_62 ?_
    refine mg_iload C 2 rfl dX12_goesOn_65 ?_
    refine mg_iconst C (x := nI 1) rfl dX12_goesOn_67 ?_
    refine mg_isub C dX12_goesOn_68 ?_
    obtain ⟨hc_69, h⟩ := h
    refine mg_ialoadR C (n := 20) 63 (by decide) (by decide) rfl rfl hc_69 dX12_goesOn_69 ?_
    refine mg_iconst C (x := nI 1) rfl dX12_goesOn_70 ?_
    refine mg_iadd C dX12_goesOn_71 ?_
    obtain ⟨hc_72, h⟩ := h
    refine mg_iastoreR C (n := 20) 63 (by decide) (by decide) rfl rfl hc_72 dX12_goesOn_72 ?_
    refine mg_nmF (fun f4 e_f4 => ?_)
    have h := h f4 e_f4
    obtain ⟨x4_5, e_x4_5⟩ : ∃ z : Int32, z = x4 + nI 1 := ⟨_, rfl⟩
    have h := h x4_5 e_x4_5
    refine mg_iinc C (lv' := [(4, .int x4_5), (0, .ref (a 0)), (1, .int x1)]) 2 rfl (by rw [e_x4_5]; rfl) (Nat.le_of_ble_eq_true rfl) rfl dX12_goesOn_73 ?_
    refine mg_goto C 49 (by decide) dX12_goesOn_76 ?_
    exact mg_sub [1, 2, 0] rfl (hR49 x1 x4_5 v f4 g h)
set_option maxRecDepth 20000 in
theorem sl_goesOn_49 (C : mC p s m args meth c cX12_goesOn 5 (some .boolean) A D cI cJ cZ) {post : Int32 → mS → Prop}   (x1 : Int32) (x4 : Int32) (v : Nat → Int32) (f : Nat → Nat → Int32) (g : Nat → Nat → Int64) (h : r_goesOn_49L (fun r v f g => post r (v, f, g))  x1 x4 v f g) : mG p l e (mRm 0 0) s m args below meth c A D cI cJ cZ a 5 (MQ below (va_Qi post (mB D cI cJ cZ a) A) args s 0 0 A) 49 [(0, .ref (a 0)), (1, .int x1), (4, .int x4)] [] v f g :=
  h (fun y => mG p l e (mRm 0 0) s m args below meth c A D cI cJ cZ a 5 (MQ below (va_Qi post (mB D cI cJ cZ a) A) args s 0 0 A) 49 [(0, .ref (a 0)), (1, .int (y.1)), (4, .int (y.2.1))] [] (y.2.2.1) (y.2.2.2.1) (y.2.2.2.2)) (fun y hy => sb_goesOn_49 C  (fun b0 b1 v f g z => z) (y.1) (y.2.1) (y.2.2.1) (y.2.2.2.1) (y.2.2.2.2) hy)
set_option maxRecDepth 20000 in
theorem sb_goesOn_28 (C : mC p s m args meth c cX12_goesOn 5 (some .boolean) A D cI cJ cZ) {post : Int32 → mS → Prop}   (x1 : Int32) (x3 : Int32) (v : Nat → Int32) (f : Nat → Nat → Int32) (g : Nat → Nat → Int64) (h : r_goesOn_28 (fun r v f g => post r (v, f, g))  x1 x3 v f g) : mG p l e (mRm 0 0) s m args below meth c A D cI cJ cZ a 5 (MQ below (va_Qi post (mB D cI cJ cZ a) A) args s 0 0 A) 28 [(0, .ref (a 0)), (1, .int x1), (3, .int x3)] [] v f g := by
  unfold r_goesOn_28 at h
  refine mg_iload_n C (i := 3) rfl 2 rfl dX12_goesOn_28 ?_
  refine mg_if_ge C 34 (by decide) dX12_goesOn_29 (fun c_ => ?_) (fun c_ => ?_)
  · have h := h.1 c_
    refine mg_aload_n C (i := 0) rfl 0 rfl dX12_goesOn_34 ?_
    refine mg_arr C 63 (by decide) (by decide) rfl mL_picked rfl dX12_goesOn_35 ?_
    refine mg_iload_n C (i := 3) rfl 2 rfl dX12_goesOn_38 ?_
    refine mg_dup2 C rfl rfl dX12_goesOn_39 ?_
    obtain ⟨hc_40, h⟩ := h
    refine mg_ialoadR C (n := 20) 63 (by decide) (by decide) rfl rfl hc_40 dX12_goesOn_40 ?_
    refine mg_iconst C (x := nI 1) rfl dX12_goesOn_41 ?_
    refine mg_iadd C dX12_goesOn_42 ?_
    obtain ⟨hc_43, h⟩ := h
    refine mg_iastoreR C (n := 20) 63 (by decide) (by decide) rfl rfl hc_43 dX12_goesOn_43 ?_
    refine mg_nmF (fun f2 e_f2 => ?_)
    have h := h f2 e_f2
    refine mg_iload_n C (i := 3) rfl 2 rfl dX12_goesOn_44 ?_
    refine mg_iconst C (x := nI 1) rfl dX12_goesOn_45 ?_
    refine mg_iadd C dX12_goesOn_46 ?_
    refine mg_nmI (fun x4_3 e_x4_3 => ?_)
    have h := h x4_3 e_x4_3
    refine mg_istore C (lv' := [(4, .int x4_3), (0, .ref (a 0)), (1, .int x1), (3, .int x3)]) (Nat.le_of_ble_eq_true rfl) rfl dX12_goesOn_47 ?_
    exact mg_sub [1, 2, 0] rfl (sl_goesOn_49 C  x1 x4_3 v f2 g h)
  · have h := h.2 c_
    refine mg_iconst C (x := nI 0) rfl dX12_goesOn_32 ?_
    refine mg_cast (bI false) rfl ?_
    exact mg_zret C (bI_nar _) h dX12_goesOn_33
set_option maxRecDepth 20000 in
theorem sb_goesOn_4 (C : mC p s m args meth c cX12_goesOn 5 (some .boolean) A D cI cJ cZ) {post : Int32 → mS → Prop} {R4 : Int32 → Int32 → Int32 → (Nat → Int32) → (Nat → Nat → Int32) → (Nat → Nat → Int64) → Prop} (hR4 : ∀ (x1 : Int32) (x2 : Int32) (x3 : Int32) (v : Nat → Int32) (f : Nat → Nat → Int32) (g : Nat → Nat → Int64), R4 x1 x2 x3 v f g → mG p l e (mRm 0 0) s m args below meth c A D cI cJ cZ a 5 (MQ below (va_Qi post (mB D cI cJ cZ a) A) args s 0 0 A) 4 [(0, .ref (a 0)), (1, .int x1), (2, .int x2), (3, .int x3)] [] v f g) (x1 : Int32) (x2 : Int32) (x3 : Int32) (v : Nat → Int32) (f : Nat → Nat → Int32) (g : Nat → Nat → Int64) (h : r_goesOn_4 (fun r v f g => post r (v, f, g)) R4 x1 x2 x3 v f g) : mG p l e (mRm 0 0) s m args below meth c A D cI cJ cZ a 5 (MQ below (va_Qi post (mB D cI cJ cZ a) A) args s 0 0 A) 4 [(0, .ref (a 0)), (1, .int x1), (2, .int x2), (3, .int x3)] [] v f g := by
  unfold r_goesOn_4 at h
  refine mg_iload_n C (i := 3) rfl 3 rfl dX12_goesOn_4 ?_
  refine mg_if_lt C 28 (by decide) dX12_goesOn_5 (fun c_ => ?_) (fun c_ => ?_)
  · have h := h.1 c_
    exact mg_sub [0, 1, 3] rfl (sb_goesOn_28 C  x1 x3 v f g h)
  · have h := h.2 c_
    refine mg_aload_n C (i := 0) rfl 0 rfl dX12_goesOn_8 ?_
    refine mg_arr C 63 (by decide) (by decide) rfl mL_picked rfl dX12_goesOn_9 ?_
    refine mg_iload_n C (i := 3) rfl 3 rfl dX12_goesOn_12 ?_
    obtain ⟨hc_13, h⟩ := h
    refine mg_ialoadR C (n := 20) 63 (by decide) (by decide) rfl rfl hc_13 dX12_goesOn_13 ?_
    refine mg_iload_n C (i := 2) rfl 2 rfl dX12_goesOn_14 ?_
    refine mg_iload_n C (i := 1) rfl 1 rfl dX12_goesOn_15 ?_
    refine mg_isub C dX12_goesOn_16 ?_
    refine mg_iload_n C (i := 3) rfl 3 rfl dX12_goesOn_17 ?_
    refine mg_iadd C dX12_goesOn_18 ?_
    refine mg_icmp_ne C 28 (by decide) dX12_goesOn_19 (fun c_ => ?_) (fun c_ => ?_)
    · have h := h.1 c_
      exact mg_sub [0, 1, 3] rfl (sb_goesOn_28 C  x1 x3 v f g h)
    · have h := h.2 c_
      obtain ⟨x3_6, e_x3_6⟩ : ∃ z : Int32, z = x3 + (-1) := ⟨_, rfl⟩
      have h := h x3_6 e_x3_6
      refine mg_iinc C (lv' := [(3, .int x3_6), (0, .ref (a 0)), (1, .int x1), (2, .int x2)]) 3 rfl (by rw [e_x3_6]; rfl) (Nat.le_of_ble_eq_true rfl) rfl dX12_goesOn_22 ?_
      refine mg_goto C 4 (by decide) dX12_goesOn_25 ?_
      exact mg_sub [1, 2, 3, 0] rfl (hR4 x1 x2 x3_6 v f g h)
set_option maxRecDepth 20000 in
theorem sl_goesOn_4 (C : mC p s m args meth c cX12_goesOn 5 (some .boolean) A D cI cJ cZ) {post : Int32 → mS → Prop}   (x1 : Int32) (x2 : Int32) (x3 : Int32) (v : Nat → Int32) (f : Nat → Nat → Int32) (g : Nat → Nat → Int64) (h : r_goesOn_4L (fun r v f g => post r (v, f, g))  x1 x2 x3 v f g) : mG p l e (mRm 0 0) s m args below meth c A D cI cJ cZ a 5 (MQ below (va_Qi post (mB D cI cJ cZ a) A) args s 0 0 A) 4 [(0, .ref (a 0)), (1, .int x1), (2, .int x2), (3, .int x3)] [] v f g :=
  h (fun y => mG p l e (mRm 0 0) s m args below meth c A D cI cJ cZ a 5 (MQ below (va_Qi post (mB D cI cJ cZ a) A) args s 0 0 A) 4 [(0, .ref (a 0)), (1, .int (y.1)), (2, .int (y.2.1)), (3, .int (y.2.2.1))] [] (y.2.2.2.1) (y.2.2.2.2.1) (y.2.2.2.2.2)) (fun y hy => sb_goesOn_4 C  (fun b0 b1 b2 v f g z => z) (y.1) (y.2.1) (y.2.2.1) (y.2.2.2.1) (y.2.2.2.2.1) (y.2.2.2.2.2) hy)
end S_goesOn
set_option maxHeartbeats 1000000 in
set_option maxRecDepth 20000 in
theorem s_goesOn (l : Launch) (x1 : Int32) (x2 : Int32) (v : Nat → Int32) (f : Nat → Nat → Int32) (g : Nat → Nat → Int64) {P : Int32 → (Nat → Int32) → (Nat → Nat → Int32) → (Nat → Nat → Int64) → Prop} (h : r_goesOn P x1 x2 v f g) : mMi l yX12_goesOn cX12_goesOn 5 (some .boolean) 0 0 false [.int x1, .int x2] v f g (fun r w => P r w.1 w.2.1 w.2.2) := by
  intro D cI cJ cZ a sz
  refine mg_body (by decide +kernel) rfl (Nat.le_of_ble_eq_true rfl) ?_
  intro p e s m args below meth c hsz C
  clear hsz
  generalize va_A (mW cI cJ cZ a v f g) sz = A at C ⊢
  refine mg_lv (lv' := [(0, .ref (a 0)), (1, .int x1), (2, .int x2)]) rfl ?_
  unfold r_goesOn at h
  refine mg_iload_n C (i := 1) rfl 1 rfl dX12_goesOn_0 ?_
  refine mg_iconst C (x := nI 1) rfl dX12_goesOn_1 ?_
  refine mg_isub C dX12_goesOn_2 ?_
  refine mg_nmI (fun x3_1 e_x3_1 => ?_)
  have h := h x3_1 e_x3_1
  refine mg_istore_n C (i := 3) (lv' := [(3, .int x3_1), (0, .ref (a 0)), (1, .int x1), (2, .int x2)]) rfl (Nat.le_of_ble_eq_true rfl) rfl dX12_goesOn_3 ?_
  exact mg_sub [1, 2, 3, 0] rfl (sl_goesOn_4 C  x1 x2 x3_1 v f g h)
def r_chooses_2 (Q : (Nat → Int32) → (Nat → Nat → Int32) → (Nat → Nat → Int64) → Prop) (R2 : Int32 → Int32 → (Nat → Int32) → (Nat → Nat → Int32) → (Nat → Nat → Int64) → Prop) (x1 : Int32) (x2 : Int32) (v : Nat → Int32) (f : Nat → Nat → Int32) (g : Nat → Nat → Int64) : Prop :=
((x1 ≤ x2 →
  Q v f g) ∧
 (¬ x1 ≤ x2 →
  vp_in x2 20 ∧ (vp_in ((f 63 (x2).toNatClampNeg)) 20 ∧ (vp_in x2 20 ∧ (∀ f1 : Nat → Nat → Int32, f1 = mU f 64 (x2).toNatClampNeg ((f 62 ((f 63 (x2).toNatClampNeg)).toNatClampNeg)) → ∀ x2_2 : Int32, x2_2 = x2 + nI 1 → R2 x1 x2_2 v f1 g)))))
def r_chooses_2L (Q : (Nat → Int32) → (Nat → Nat → Int32) → (Nat → Nat → Int64) → Prop)  (x1 : Int32) (x2 : Int32) (v : Nat → Int32) (f : Nat → Nat → Int32) (g : Nat → Nat → Int64) : Prop :=
  lfp (X := Int32 × Int32 × (Nat → Int32) × (Nat → Nat → Int32) × (Nat → Nat → Int64)) (fun P y => r_chooses_2 Q  (fun b0 b1 v f g => P (b0, b1, v, f, g)) y.1 y.2.1 y.2.2.1 y.2.2.2.1 y.2.2.2.2) (x1, x2, v, f, g)
def r_chooses (Q : (Nat → Int32) → (Nat → Nat → Int32) → (Nat → Nat → Int64) → Prop) (x1 : Int32) (v : Nat → Int32) (f : Nat → Nat → Int32) (g : Nat → Nat → Int64) : Prop :=
r_chooses_2L Q  x1 (((nI 0))) v f g
section S_chooses
variable {p : Program} {l : Launch} {e : Env} {s : State} {m : MethodId} {args : Array Value} {below : List Frame} {meth : Method} {c : Code} {A : Nat → Prop} {D : va_G} {cI cJ cZ : ClassId} {a : Nat → Nat}
set_option maxRecDepth 20000 in
theorem sb_chooses_2 (C : mC p s m args meth c cX12_chooses 3 none A D cI cJ cZ) {post : mS → Prop} {R2 : Int32 → Int32 → (Nat → Int32) → (Nat → Nat → Int32) → (Nat → Nat → Int64) → Prop} (hR2 : ∀ (x1 : Int32) (x2 : Int32) (v : Nat → Int32) (f : Nat → Nat → Int32) (g : Nat → Nat → Int64), R2 x1 x2 v f g → mG p l e (mRm 0 0) s m args below meth c A D cI cJ cZ a 3 (MQ below (va_Qv post (mB D cI cJ cZ a) A) args s 0 0 A) 2 [(0, .ref (a 0)), (1, .int x1), (2, .int x2)] [] v f g) (x1 : Int32) (x2 : Int32) (v : Nat → Int32) (f : Nat → Nat → Int32) (g : Nat → Nat → Int64) (h : r_chooses_2 (fun v f g => post (v, f, g)) R2 x1 x2 v f g) : mG p l e (mRm 0 0) s m args below meth c A D cI cJ cZ a 3 (MQ below (va_Qv post (mB D cI cJ cZ a) A) args s 0 0 A) 2 [(0, .ref (a 0)), (1, .int x1), (2, .int x2)] [] v f g := by
  unfold r_chooses_2 at h
  refine mg_iload_n C (i := 2) rfl 2 rfl dX12_chooses_2 ?_
  refine mg_iload_n C (i := 1) rfl 1 rfl dX12_chooses_3 ?_
  refine mg_icmp_ge C 30 (by decide) dX12_chooses_4 (fun c_ => ?_) (fun c_ => ?_)
  · have h := h.1 c_
    exact mg_vret C h dX12_chooses_30
  · have h := h.2 c_
    refine mg_aload_n C (i := 0) rfl 0 rfl dX12_chooses_7 ?_
    refine mg_arr C 64 (by decide) (by decide) rfl mL_chosen rfl dX12_chooses_8 ?_
    refine mg_iload_n C (i := 2) rfl 2 rfl dX12_chooses_11 ?_
    refine mg_aload_n C (i := 0) rfl 0 rfl dX12_chooses_12 ?_
    refine mg_arr C 62 (by decide) (by decide) rfl mL_choices rfl dX12_chooses_13 ?_
    refine mg_aload_n C (i := 0) rfl 0 rfl dX12_chooses_16 ?_
    refine mg_arr C 63 (by decide) (by decide) rfl mL_picked rfl dX12_chooses_17 ?_
    refine mg_iload_n C (i := 2) rfl 2 rfl dX12_chooses_20 ?_
    obtain ⟨hc_21, h⟩ := h
    refine mg_ialoadR C (n := 20) 63 (by decide) (by decide) rfl rfl hc_21 dX12_chooses_21 ?_
    obtain ⟨hc_22, h⟩ := h
    refine mg_ialoadR C (n := 20) 62 (by decide) (by decide) rfl rfl hc_22 dX12_chooses_22 ?_
    obtain ⟨hc_23, h⟩ := h
    refine mg_iastoreR C (n := 20) 64 (by decide) (by decide) rfl rfl hc_23 dX12_chooses_23 ?_
    refine mg_nmF (fun f1 e_f1 => ?_)
    have h := h f1 e_f1
    obtain ⟨x2_2, e_x2_2⟩ : ∃ z : Int32, z = x2 + nI 1 := ⟨_, rfl⟩
    have h := h x2_2 e_x2_2
    refine mg_iinc C (lv' := [(2, .int x2_2), (0, .ref (a 0)), (1, .int x1)]) 2 rfl (by rw [e_x2_2]; rfl) (Nat.le_of_ble_eq_true rfl) rfl dX12_chooses_24 ?_
    refine mg_goto C 2 (by decide) dX12_chooses_27 ?_
    exact mg_sub [1, 2, 0] rfl (hR2 x1 x2_2 v f1 g h)
set_option maxRecDepth 20000 in
theorem sl_chooses_2 (C : mC p s m args meth c cX12_chooses 3 none A D cI cJ cZ) {post : mS → Prop}   (x1 : Int32) (x2 : Int32) (v : Nat → Int32) (f : Nat → Nat → Int32) (g : Nat → Nat → Int64) (h : r_chooses_2L (fun v f g => post (v, f, g))  x1 x2 v f g) : mG p l e (mRm 0 0) s m args below meth c A D cI cJ cZ a 3 (MQ below (va_Qv post (mB D cI cJ cZ a) A) args s 0 0 A) 2 [(0, .ref (a 0)), (1, .int x1), (2, .int x2)] [] v f g :=
  h (fun y => mG p l e (mRm 0 0) s m args below meth c A D cI cJ cZ a 3 (MQ below (va_Qv post (mB D cI cJ cZ a) A) args s 0 0 A) 2 [(0, .ref (a 0)), (1, .int (y.1)), (2, .int (y.2.1))] [] (y.2.2.1) (y.2.2.2.1) (y.2.2.2.2)) (fun y hy => sb_chooses_2 C  (fun b0 b1 v f g z => z) (y.1) (y.2.1) (y.2.2.1) (y.2.2.2.1) (y.2.2.2.2) hy)
end S_chooses
set_option maxHeartbeats 1000000 in
set_option maxRecDepth 20000 in
theorem s_chooses (l : Launch) (x1 : Int32) (v : Nat → Int32) (f : Nat → Nat → Int32) (g : Nat → Nat → Int64) {P : (Nat → Int32) → (Nat → Nat → Int32) → (Nat → Nat → Int64) → Prop} (h : r_chooses P x1 v f g) : mMv l yX12_chooses cX12_chooses 3 none 0 0 false [.int x1] v f g (fun w => P w.1 w.2.1 w.2.2) := by
  intro D cI cJ cZ a sz
  refine mg_body (by decide +kernel) rfl (Nat.le_of_ble_eq_true rfl) ?_
  intro p e s m args below meth c hsz C
  clear hsz
  generalize va_A (mW cI cJ cZ a v f g) sz = A at C ⊢
  refine mg_lv (lv' := [(0, .ref (a 0)), (1, .int x1)]) rfl ?_
  unfold r_chooses at h
  refine mg_iconst C (x := nI 0) rfl dX12_chooses_0 ?_
  refine mg_istore_n C (i := 2) (lv' := [(2, .int ((nI 0))), (0, .ref (a 0)), (1, .int x1)]) rfl (Nat.le_of_ble_eq_true rfl) rfl dX12_chooses_1 ?_
  exact mg_sub [1, 2, 0] rfl (sl_chooses_2 C  x1 (((nI 0))) v f g h)
def r_passes_74 (Q : Int32 → (Nat → Int32) → (Nat → Nat → Int32) → (Nat → Nat → Int64) → Prop) (R37 : Int32 → Int32 → (Nat → Int32) → (Nat → Nat → Int32) → (Nat → Nat → Int64) → Prop) (R74 : Int32 → Int32 → Int32 → (Nat → Int32) → (Nat → Nat → Int32) → (Nat → Nat → Int64) → Prop) (x2 : Int32) (x3 : Int32) (x4 : Int32) (v : Nat → Int32) (f : Nat → Nat → Int32) (g : Nat → Nat → Int64) : Prop :=
((x4 = 0 →
  ∀ x3_2 : Int32, x3_2 = x3 + nI 1 → R37 x2 x3_2 v f g) ∧
 (¬ x4 = 0 →
  r_areMet (fun r_3 v_3 f_3 g_3 => 
  ((r_3 = 0 →
    r_goesOn (fun r_4 v_4 f_4 g_4 => 
    r_chooses (fun v_5 f_5 g_5 => 
    R74 x2 x3 r_4 v_5 f_5 g_5) x3 v_4 f_4 g_4) x3 x2 v_3 f_3 g_3) ∧
   (¬ r_3 = 0 →
    Q x3 v_3 f_3 g_3))) x3 v f g))
def r_passes_74L (Q : Int32 → (Nat → Int32) → (Nat → Nat → Int32) → (Nat → Nat → Int64) → Prop) (R37 : Int32 → Int32 → (Nat → Int32) → (Nat → Nat → Int32) → (Nat → Nat → Int64) → Prop) (x2 : Int32) (x3 : Int32) (x4 : Int32) (v : Nat → Int32) (f : Nat → Nat → Int32) (g : Nat → Nat → Int64) : Prop :=
  lfp (X := Int32 × Int32 × Int32 × (Nat → Int32) × (Nat → Nat → Int32) × (Nat → Nat → Int64)) (fun P y => r_passes_74 Q R37 (fun b0 b1 b2 v f g => P (b0, b1, b2, v, f, g)) y.1 y.2.1 y.2.2.1 y.2.2.2.1 y.2.2.2.2.1 y.2.2.2.2.2) (x2, x3, x4, v, f, g)
def r_passes_45 (Q : Int32 → (Nat → Int32) → (Nat → Nat → Int32) → (Nat → Nat → Int64) → Prop) (R37 : Int32 → Int32 → (Nat → Int32) → (Nat → Nat → Int32) → (Nat → Nat → Int64) → Prop) (R45 : Int32 → Int32 → Int32 → (Nat → Int32) → (Nat → Nat → Int32) → (Nat → Nat → Int64) → Prop) (x2 : Int32) (x3 : Int32) (x4 : Int32) (v : Nat → Int32) (f : Nat → Nat → Int32) (g : Nat → Nat → Int64) : Prop :=
((x3 ≤ x4 →
  r_chooses (fun v_1 f_1 g_1 => 
  r_passes_74L Q R37 x2 x3 (((nI 1))) v_1 f_1 g_1) x3 v f g) ∧
 (¬ x3 ≤ x4 →
  vp_in x4 20 ∧ (∀ f6 : Nat → Nat → Int32, f6 = mU f 63 (x4).toNatClampNeg x4 → ∀ x4_7 : Int32, x4_7 = x4 + nI 1 → R45 x2 x3 x4_7 v f6 g)))
def r_passes_45L (Q : Int32 → (Nat → Int32) → (Nat → Nat → Int32) → (Nat → Nat → Int64) → Prop) (R37 : Int32 → Int32 → (Nat → Int32) → (Nat → Nat → Int32) → (Nat → Nat → Int64) → Prop) (x2 : Int32) (x3 : Int32) (x4 : Int32) (v : Nat → Int32) (f : Nat → Nat → Int32) (g : Nat → Nat → Int64) : Prop :=
  lfp (X := Int32 × Int32 × Int32 × (Nat → Int32) × (Nat → Nat → Int32) × (Nat → Nat → Int64)) (fun P y => r_passes_45 Q R37 (fun b0 b1 b2 v f g => P (b0, b1, b2, v, f, g)) y.1 y.2.1 y.2.2.1 y.2.2.2.1 y.2.2.2.2.1 y.2.2.2.2.2) (x2, x3, x4, v, f, g)
def r_passes_37 (Q : Int32 → (Nat → Int32) → (Nat → Nat → Int32) → (Nat → Nat → Int64) → Prop) (R37 : Int32 → Int32 → (Nat → Int32) → (Nat → Nat → Int32) → (Nat → Nat → Int64) → Prop) (x2 : Int32) (x3 : Int32) (v : Nat → Int32) (f : Nat → Nat → Int32) (g : Nat → Nat → Int64) : Prop :=
((x2 < x3 →
  Q ((nI 0)) v f g) ∧
 (¬ x2 < x3 →
  r_passes_45L Q R37 x2 x3 (((nI 0))) v f g))
def r_passes_37L (Q : Int32 → (Nat → Int32) → (Nat → Nat → Int32) → (Nat → Nat → Int64) → Prop)  (x2 : Int32) (x3 : Int32) (v : Nat → Int32) (f : Nat → Nat → Int32) (g : Nat → Nat → Int64) : Prop :=
  lfp (X := Int32 × Int32 × (Nat → Int32) × (Nat → Nat → Int32) × (Nat → Nat → Int64)) (fun P y => r_passes_37 Q  (fun b0 b1 v f g => P (b0, b1, v, f, g)) y.1 y.2.1 y.2.2.1 y.2.2.2.1 y.2.2.2.2) (x2, x3, v, f, g)
def r_passes_29 (Q : Int32 → (Nat → Int32) → (Nat → Nat → Int32) → (Nat → Nat → Int64) → Prop) (R4 : Int32 → Int32 → Int32 → (Nat → Int32) → (Nat → Nat → Int32) → (Nat → Nat → Int64) → Prop) (x1 : Int32) (x2 : Int32) (x3 : Int32) (v : Nat → Int32) (f : Nat → Nat → Int32) (g : Nat → Nat → Int64) : Prop :=
∀ x3_8 : Int32, x3_8 = x3 + nI 1 → R4 x1 x2 x3_8 v f g
def r_passes_4 (Q : Int32 → (Nat → Int32) → (Nat → Nat → Int32) → (Nat → Nat → Int64) → Prop) (R4 : Int32 → Int32 → Int32 → (Nat → Int32) → (Nat → Nat → Int32) → (Nat → Nat → Int64) → Prop) (x1 : Int32) (x2 : Int32) (x3 : Int32) (v : Nat → Int32) (f : Nat → Nat → Int32) (g : Nat → Nat → Int64) : Prop :=
((((nI 20)) ≤ x3 →
  r_passes_37L Q  x2 (((nI 1))) v f g) ∧
 (¬ ((nI 20)) ≤ x3 →
  ((¬ ((((x1 >>> (x3 &&& 31))) &&& ((nI 1)))) = ((nI 1)) →
    r_passes_29 Q R4 x1 x2 x3 v f g) ∧
   (((((x1 >>> (x3 &&& 31))) &&& ((nI 1)))) = ((nI 1)) →
    vp_in x2 20 ∧ (∀ f9 : Nat → Nat → Int32, f9 = mU f 62 (x2).toNatClampNeg x3 → ∀ x2_10 : Int32, x2_10 = x2 + nI 1 → r_passes_29 Q R4 x1 x2_10 x3 v f9 g)))))
def r_passes_4L (Q : Int32 → (Nat → Int32) → (Nat → Nat → Int32) → (Nat → Nat → Int64) → Prop)  (x1 : Int32) (x2 : Int32) (x3 : Int32) (v : Nat → Int32) (f : Nat → Nat → Int32) (g : Nat → Nat → Int64) : Prop :=
  lfp (X := Int32 × Int32 × Int32 × (Nat → Int32) × (Nat → Nat → Int32) × (Nat → Nat → Int64)) (fun P y => r_passes_4 Q  (fun b0 b1 b2 v f g => P (b0, b1, b2, v, f, g)) y.1 y.2.1 y.2.2.1 y.2.2.2.1 y.2.2.2.2.1 y.2.2.2.2.2) (x1, x2, x3, v, f, g)
def r_passes (Q : Int32 → (Nat → Int32) → (Nat → Nat → Int32) → (Nat → Nat → Int64) → Prop) (x1 : Int32) (v : Nat → Int32) (f : Nat → Nat → Int32) (g : Nat → Nat → Int64) : Prop :=
r_passes_4L Q  x1 (((nI 0))) (((nI 0))) v f g
section S_passes
variable {p : Program} {l : Launch} {e : Env} {s : State} {m : MethodId} {args : Array Value} {below : List Frame} {meth : Method} {c : Code} {A : Nat → Prop} {D : va_G} {cI cJ cZ : ClassId} {a : Nat → Nat}
set_option maxRecDepth 20000 in
theorem sb_passes_74 (C : mC p s m args meth c cX12_passes 5 (some .int) A D cI cJ cZ) {post : Int32 → mS → Prop} {R37 : Int32 → Int32 → (Nat → Int32) → (Nat → Nat → Int32) → (Nat → Nat → Int64) → Prop} {R74 : Int32 → Int32 → Int32 → (Nat → Int32) → (Nat → Nat → Int32) → (Nat → Nat → Int64) → Prop} (hR37 : ∀ (x2 : Int32) (x3 : Int32) (v : Nat → Int32) (f : Nat → Nat → Int32) (g : Nat → Nat → Int64), R37 x2 x3 v f g → mG p l e (mRm 1 24) s m args below meth c A D cI cJ cZ a 5 (MQ below (va_Qi post (mB D cI cJ cZ a) A) args s 0 0 A) 37 [(0, .ref (a 0)), (2, .int x2), (3, .int x3)] [] v f g) (hR74 : ∀ (x2 : Int32) (x3 : Int32) (x4 : Int32) (v : Nat → Int32) (f : Nat → Nat → Int32) (g : Nat → Nat → Int64), R74 x2 x3 x4 v f g → mG p l e (mRm 1 24) s m args below meth c A D cI cJ cZ a 5 (MQ below (va_Qi post (mB D cI cJ cZ a) A) args s 0 0 A) 74 [(0, .ref (a 0)), (2, .int x2), (3, .int x3), (4, .int x4)] [] v f g) (x2 : Int32) (x3 : Int32) (x4 : Int32) (v : Nat → Int32) (f : Nat → Nat → Int32) (g : Nat → Nat → Int64) (h : r_passes_74 (fun r v f g => post r (v, f, g)) R37 R74 x2 x3 x4 v f g) : mG p l e (mRm 1 24) s m args below meth c A D cI cJ cZ a 5 (MQ below (va_Qi post (mB D cI cJ cZ a) A) args s 0 0 A) 74 [(0, .ref (a 0)), (2, .int x2), (3, .int x3), (4, .int x4)] [] v f g := by
  unfold r_passes_74 at h
  refine mg_iload C 3 rfl dX12_passes_74 ?_
  refine mg_if_eq C 105 (by decide) dX12_passes_76 (fun c_ => ?_) (fun c_ => ?_)
  · have h := h.1 c_
    obtain ⟨x3_2, e_x3_2⟩ : ∃ z : Int32, z = x3 + nI 1 := ⟨_, rfl⟩
    have h := h x3_2 e_x3_2
    refine mg_iinc C (lv' := [(3, .int x3_2), (0, .ref (a 0)), (2, .int x2), (4, .int x4)]) 2 rfl (by rw [e_x3_2]; rfl) (Nat.le_of_ble_eq_true rfl) rfl dX12_passes_105 ?_
    refine mg_goto C 37 (by decide) dX12_passes_108 ?_
    exact mg_sub [1, 2, 0] rfl (hR37 x2 x3_2 v f g h)
  · have h := h.2 c_
    refine mg_aload_n C (i := 0) rfl 0 rfl dX12_passes_79 ?_
    refine mg_iload_n C (i := 3) rfl 2 rfl dX12_passes_80 ?_
    refine mg_calliW C (s_areMet l x3 v f g h) mCal_areMet rfl ⟨by decide, by decide⟩ rfl (Nat.le_of_ble_eq_true rfl) dX12_passes_81 (fun r_3 v_3 f_3 g_3 h => ?_)
    refine mg_if_eq C 89 (by decide) dX12_passes_84 (fun c_ => ?_) (fun c_ => ?_)
    · have h := h.1 c_
      refine mg_aload_n C (i := 0) rfl 0 rfl dX12_passes_89 ?_
      refine mg_iload_n C (i := 3) rfl 2 rfl dX12_passes_90 ?_
      refine mg_iload_n C (i := 2) rfl 1 rfl dX12_passes_91 ?_
      refine mg_calliW C (s_goesOn l x3 x2 v_3 f_3 g_3 h) mCal_goesOn rfl ⟨by decide, by decide⟩ rfl (Nat.le_of_ble_eq_true rfl) dX12_passes_92 (fun r_4 v_4 f_4 g_4 h => ?_)
      refine mg_istore C (lv' := [(4, .int r_4), (0, .ref (a 0)), (2, .int x2), (3, .int x3)]) (Nat.le_of_ble_eq_true rfl) rfl dX12_passes_95 ?_
      refine mg_aload_n C (i := 0) rfl 1 rfl dX12_passes_97 ?_
      refine mg_iload_n C (i := 3) rfl 3 rfl dX12_passes_98 ?_
      refine mg_callvW C (s_chooses l x3 v_4 f_4 g_4 h) mCal_chooses rfl ⟨by decide, by decide⟩ rfl (Nat.le_of_ble_eq_true rfl) dX12_passes_99 (fun v_5 f_5 g_5 h => ?_)
      refine mg_goto C 74 (by decide) dX12_passes_102 ?_
      exact mg_sub [1, 2, 3, 0] rfl (hR74 x2 x3 r_4 v_5 f_5 g_5 h)
    · have h := h.2 c_
      refine mg_iload_n C (i := 3) rfl 2 rfl dX12_passes_87 ?_
      exact mg_iret C h dX12_passes_88
set_option maxRecDepth 20000 in
theorem sl_passes_74 (C : mC p s m args meth c cX12_passes 5 (some .int) A D cI cJ cZ) {post : Int32 → mS → Prop} {R37 : Int32 → Int32 → (Nat → Int32) → (Nat → Nat → Int32) → (Nat → Nat → Int64) → Prop} (hR37 : ∀ (x2 : Int32) (x3 : Int32) (v : Nat → Int32) (f : Nat → Nat → Int32) (g : Nat → Nat → Int64), R37 x2 x3 v f g → mG p l e (mRm 1 24) s m args below meth c A D cI cJ cZ a 5 (MQ below (va_Qi post (mB D cI cJ cZ a) A) args s 0 0 A) 37 [(0, .ref (a 0)), (2, .int x2), (3, .int x3)] [] v f g) (x2 : Int32) (x3 : Int32) (x4 : Int32) (v : Nat → Int32) (f : Nat → Nat → Int32) (g : Nat → Nat → Int64) (h : r_passes_74L (fun r v f g => post r (v, f, g)) R37 x2 x3 x4 v f g) : mG p l e (mRm 1 24) s m args below meth c A D cI cJ cZ a 5 (MQ below (va_Qi post (mB D cI cJ cZ a) A) args s 0 0 A) 74 [(0, .ref (a 0)), (2, .int x2), (3, .int x3), (4, .int x4)] [] v f g :=
  h (fun y => mG p l e (mRm 1 24) s m args below meth c A D cI cJ cZ a 5 (MQ below (va_Qi post (mB D cI cJ cZ a) A) args s 0 0 A) 74 [(0, .ref (a 0)), (2, .int (y.1)), (3, .int (y.2.1)), (4, .int (y.2.2.1))] [] (y.2.2.2.1) (y.2.2.2.2.1) (y.2.2.2.2.2)) (fun y hy => sb_passes_74 C hR37 (fun b0 b1 b2 v f g z => z) (y.1) (y.2.1) (y.2.2.1) (y.2.2.2.1) (y.2.2.2.2.1) (y.2.2.2.2.2) hy)
set_option maxRecDepth 20000 in
theorem sb_passes_45 (C : mC p s m args meth c cX12_passes 5 (some .int) A D cI cJ cZ) {post : Int32 → mS → Prop} {R37 : Int32 → Int32 → (Nat → Int32) → (Nat → Nat → Int32) → (Nat → Nat → Int64) → Prop} {R45 : Int32 → Int32 → Int32 → (Nat → Int32) → (Nat → Nat → Int32) → (Nat → Nat → Int64) → Prop} (hR37 : ∀ (x2 : Int32) (x3 : Int32) (v : Nat → Int32) (f : Nat → Nat → Int32) (g : Nat → Nat → Int64), R37 x2 x3 v f g → mG p l e (mRm 1 24) s m args below meth c A D cI cJ cZ a 5 (MQ below (va_Qi post (mB D cI cJ cZ a) A) args s 0 0 A) 37 [(0, .ref (a 0)), (2, .int x2), (3, .int x3)] [] v f g) (hR45 : ∀ (x2 : Int32) (x3 : Int32) (x4 : Int32) (v : Nat → Int32) (f : Nat → Nat → Int32) (g : Nat → Nat → Int64), R45 x2 x3 x4 v f g → mG p l e (mRm 1 24) s m args below meth c A D cI cJ cZ a 5 (MQ below (va_Qi post (mB D cI cJ cZ a) A) args s 0 0 A) 45 [(0, .ref (a 0)), (2, .int x2), (3, .int x3), (4, .int x4)] [] v f g) (x2 : Int32) (x3 : Int32) (x4 : Int32) (v : Nat → Int32) (f : Nat → Nat → Int32) (g : Nat → Nat → Int64) (h : r_passes_45 (fun r v f g => post r (v, f, g)) R37 R45 x2 x3 x4 v f g) : mG p l e (mRm 1 24) s m args below meth c A D cI cJ cZ a 5 (MQ below (va_Qi post (mB D cI cJ cZ a) A) args s 0 0 A) 45 [(0, .ref (a 0)), (2, .int x2), (3, .int x3), (4, .int x4)] [] v f g := by
  unfold r_passes_45 at h
  refine mg_iload C 3 rfl dX12_passes_45 ?_
  refine mg_iload_n C (i := 3) rfl 2 rfl dX12_passes_47 ?_
  refine mg_icmp_ge C 66 (by decide) dX12_passes_48 (fun c_ => ?_) (fun c_ => ?_)
  · have h := h.1 c_
    refine mg_aload_n C (i := 0) rfl 0 rfl dX12_passes_66 ?_
    refine mg_iload_n C (i := 3) rfl 2 rfl dX12_passes_67 ?_
    refine mg_callvW C (s_chooses l x3 v f g h) mCal_chooses rfl ⟨by decide, by decide⟩ rfl (Nat.le_of_ble_eq_true rfl) dX12_passes_68 (fun v_1 f_1 g_1 h => ?_)
    refine mg_iconst C (x := nI 1) rfl dX12_passes_71 ?_
    refine mg_istore C (lv' := [(4, .int ((nI 1))), (0, .ref (a 0)), (2, .int x2), (3, .int x3)]) (Nat.le_of_ble_eq_true rfl) rfl dX12_passes_72 ?_
    exact mg_sub [1, 2, 3, 0] rfl (sl_passes_74 C hR37 x2 x3 (((nI 1))) v_1 f_1 g_1 h)
  · have h := h.2 c_
    refine mg_aload_n C (i := 0) rfl 0 rfl dX12_passes_51 ?_
    refine mg_arr C 63 (by decide) (by decide) rfl mL_picked rfl dX12_passes_52 ?_
    refine mg_iload C 3 rfl dX12_passes_55 ?_
    refine mg_iload C 3 rfl dX12_passes_57 ?_
    obtain ⟨hc_59, h⟩ := h
    refine mg_iastoreR C (n := 20) 63 (by decide) (by decide) rfl rfl hc_59 dX12_passes_59 ?_
    refine mg_nmF (fun f6 e_f6 => ?_)
    have h := h f6 e_f6
    obtain ⟨x4_7, e_x4_7⟩ : ∃ z : Int32, z = x4 + nI 1 := ⟨_, rfl⟩
    have h := h x4_7 e_x4_7
    refine mg_iinc C (lv' := [(4, .int x4_7), (0, .ref (a 0)), (2, .int x2), (3, .int x3)]) 3 rfl (by rw [e_x4_7]; rfl) (Nat.le_of_ble_eq_true rfl) rfl dX12_passes_60 ?_
    refine mg_goto C 45 (by decide) dX12_passes_63 ?_
    exact mg_sub [1, 2, 3, 0] rfl (hR45 x2 x3 x4_7 v f6 g h)
set_option maxRecDepth 20000 in
theorem sl_passes_45 (C : mC p s m args meth c cX12_passes 5 (some .int) A D cI cJ cZ) {post : Int32 → mS → Prop} {R37 : Int32 → Int32 → (Nat → Int32) → (Nat → Nat → Int32) → (Nat → Nat → Int64) → Prop} (hR37 : ∀ (x2 : Int32) (x3 : Int32) (v : Nat → Int32) (f : Nat → Nat → Int32) (g : Nat → Nat → Int64), R37 x2 x3 v f g → mG p l e (mRm 1 24) s m args below meth c A D cI cJ cZ a 5 (MQ below (va_Qi post (mB D cI cJ cZ a) A) args s 0 0 A) 37 [(0, .ref (a 0)), (2, .int x2), (3, .int x3)] [] v f g) (x2 : Int32) (x3 : Int32) (x4 : Int32) (v : Nat → Int32) (f : Nat → Nat → Int32) (g : Nat → Nat → Int64) (h : r_passes_45L (fun r v f g => post r (v, f, g)) R37 x2 x3 x4 v f g) : mG p l e (mRm 1 24) s m args below meth c A D cI cJ cZ a 5 (MQ below (va_Qi post (mB D cI cJ cZ a) A) args s 0 0 A) 45 [(0, .ref (a 0)), (2, .int x2), (3, .int x3), (4, .int x4)] [] v f g :=
  h (fun y => mG p l e (mRm 1 24) s m args below meth c A D cI cJ cZ a 5 (MQ below (va_Qi post (mB D cI cJ cZ a) A) args s 0 0 A) 45 [(0, .ref (a 0)), (2, .int (y.1)), (3, .int (y.2.1)), (4, .int (y.2.2.1))] [] (y.2.2.2.1) (y.2.2.2.2.1) (y.2.2.2.2.2)) (fun y hy => sb_passes_45 C hR37 (fun b0 b1 b2 v f g z => z) (y.1) (y.2.1) (y.2.2.1) (y.2.2.2.1) (y.2.2.2.2.1) (y.2.2.2.2.2) hy)
set_option maxRecDepth 20000 in
theorem sb_passes_37 (C : mC p s m args meth c cX12_passes 5 (some .int) A D cI cJ cZ) {post : Int32 → mS → Prop} {R37 : Int32 → Int32 → (Nat → Int32) → (Nat → Nat → Int32) → (Nat → Nat → Int64) → Prop} (hR37 : ∀ (x2 : Int32) (x3 : Int32) (v : Nat → Int32) (f : Nat → Nat → Int32) (g : Nat → Nat → Int64), R37 x2 x3 v f g → mG p l e (mRm 1 24) s m args below meth c A D cI cJ cZ a 5 (MQ below (va_Qi post (mB D cI cJ cZ a) A) args s 0 0 A) 37 [(0, .ref (a 0)), (2, .int x2), (3, .int x3)] [] v f g) (x2 : Int32) (x3 : Int32) (v : Nat → Int32) (f : Nat → Nat → Int32) (g : Nat → Nat → Int64) (h : r_passes_37 (fun r v f g => post r (v, f, g)) R37 x2 x3 v f g) : mG p l e (mRm 1 24) s m args below meth c A D cI cJ cZ a 5 (MQ below (va_Qi post (mB D cI cJ cZ a) A) args s 0 0 A) 37 [(0, .ref (a 0)), (2, .int x2), (3, .int x3)] [] v f g := by
  unfold r_passes_37 at h
  refine mg_iload_n C (i := 3) rfl 2 rfl dX12_passes_37 ?_
  refine mg_iload_n C (i := 2) rfl 1 rfl dX12_passes_38 ?_
  refine mg_icmp_gt C 111 (by decide) dX12_passes_39 (fun c_ => ?_) (fun c_ => ?_)
  · have h := h.1 c_
    refine mg_iconst C (x := nI 0) rfl dX12_passes_111 ?_
    exact mg_iret C h dX12_passes_112
  · have h := h.2 c_
    refine mg_iconst C (x := nI 0) rfl dX12_passes_42 ?_
    refine mg_istore C (lv' := [(4, .int ((nI 0))), (0, .ref (a 0)), (2, .int x2), (3, .int x3)]) (Nat.le_of_ble_eq_true rfl) rfl dX12_passes_43 ?_
    exact mg_sub [1, 2, 3, 0] rfl (sl_passes_45 C hR37 x2 x3 (((nI 0))) v f g h)
set_option maxRecDepth 20000 in
theorem sl_passes_37 (C : mC p s m args meth c cX12_passes 5 (some .int) A D cI cJ cZ) {post : Int32 → mS → Prop}   (x2 : Int32) (x3 : Int32) (v : Nat → Int32) (f : Nat → Nat → Int32) (g : Nat → Nat → Int64) (h : r_passes_37L (fun r v f g => post r (v, f, g))  x2 x3 v f g) : mG p l e (mRm 1 24) s m args below meth c A D cI cJ cZ a 5 (MQ below (va_Qi post (mB D cI cJ cZ a) A) args s 0 0 A) 37 [(0, .ref (a 0)), (2, .int x2), (3, .int x3)] [] v f g :=
  h (fun y => mG p l e (mRm 1 24) s m args below meth c A D cI cJ cZ a 5 (MQ below (va_Qi post (mB D cI cJ cZ a) A) args s 0 0 A) 37 [(0, .ref (a 0)), (2, .int (y.1)), (3, .int (y.2.1))] [] (y.2.2.1) (y.2.2.2.1) (y.2.2.2.2)) (fun y hy => sb_passes_37 C  (fun b0 b1 v f g z => z) (y.1) (y.2.1) (y.2.2.1) (y.2.2.2.1) (y.2.2.2.2) hy)
set_option maxRecDepth 20000 in
theorem sb_passes_29 (C : mC p s m args meth c cX12_passes 5 (some .int) A D cI cJ cZ) {post : Int32 → mS → Prop} {R4 : Int32 → Int32 → Int32 → (Nat → Int32) → (Nat → Nat → Int32) → (Nat → Nat → Int64) → Prop} (hR4 : ∀ (x1 : Int32) (x2 : Int32) (x3 : Int32) (v : Nat → Int32) (f : Nat → Nat → Int32) (g : Nat → Nat → Int64), R4 x1 x2 x3 v f g → mG p l e (mRm 1 24) s m args below meth c A D cI cJ cZ a 5 (MQ below (va_Qi post (mB D cI cJ cZ a) A) args s 0 0 A) 4 [(0, .ref (a 0)), (1, .int x1), (2, .int x2), (3, .int x3)] [] v f g) (x1 : Int32) (x2 : Int32) (x3 : Int32) (v : Nat → Int32) (f : Nat → Nat → Int32) (g : Nat → Nat → Int64) (h : r_passes_29 (fun r v f g => post r (v, f, g)) R4 x1 x2 x3 v f g) : mG p l e (mRm 1 24) s m args below meth c A D cI cJ cZ a 5 (MQ below (va_Qi post (mB D cI cJ cZ a) A) args s 0 0 A) 29 [(0, .ref (a 0)), (1, .int x1), (2, .int x2), (3, .int x3)] [] v f g := by
  unfold r_passes_29 at h
  obtain ⟨x3_8, e_x3_8⟩ : ∃ z : Int32, z = x3 + nI 1 := ⟨_, rfl⟩
  have h := h x3_8 e_x3_8
  refine mg_iinc C (lv' := [(3, .int x3_8), (0, .ref (a 0)), (1, .int x1), (2, .int x2)]) 3 rfl (by rw [e_x3_8]; rfl) (Nat.le_of_ble_eq_true rfl) rfl dX12_passes_29 ?_
  refine mg_goto C 4 (by decide) dX12_passes_32 ?_
  exact mg_sub [1, 2, 3, 0] rfl (hR4 x1 x2 x3_8 v f g h)
set_option maxRecDepth 20000 in
theorem sb_passes_4 (C : mC p s m args meth c cX12_passes 5 (some .int) A D cI cJ cZ) {post : Int32 → mS → Prop} {R4 : Int32 → Int32 → Int32 → (Nat → Int32) → (Nat → Nat → Int32) → (Nat → Nat → Int64) → Prop} (hR4 : ∀ (x1 : Int32) (x2 : Int32) (x3 : Int32) (v : Nat → Int32) (f : Nat → Nat → Int32) (g : Nat → Nat → Int64), R4 x1 x2 x3 v f g → mG p l e (mRm 1 24) s m args below meth c A D cI cJ cZ a 5 (MQ below (va_Qi post (mB D cI cJ cZ a) A) args s 0 0 A) 4 [(0, .ref (a 0)), (1, .int x1), (2, .int x2), (3, .int x3)] [] v f g) (x1 : Int32) (x2 : Int32) (x3 : Int32) (v : Nat → Int32) (f : Nat → Nat → Int32) (g : Nat → Nat → Int64) (h : r_passes_4 (fun r v f g => post r (v, f, g)) R4 x1 x2 x3 v f g) : mG p l e (mRm 1 24) s m args below meth c A D cI cJ cZ a 5 (MQ below (va_Qi post (mB D cI cJ cZ a) A) args s 0 0 A) 4 [(0, .ref (a 0)), (1, .int x1), (2, .int x2), (3, .int x3)] [] v f g := by
  unfold r_passes_4 at h
  refine mg_iload_n C (i := 3) rfl 3 rfl dX12_passes_4 ?_
  refine mg_bipush C (x := nI 20) rfl dX12_passes_5 ?_
  refine mg_icmp_ge C 35 (by decide) dX12_passes_7 (fun c_ => ?_) (fun c_ => ?_)
  · have h := h.1 c_
    refine mg_iconst C (x := nI 1) rfl dX12_passes_35 ?_
    refine mg_istore_n C (i := 3) (lv' := [(3, .int ((nI 1))), (0, .ref (a 0)), (1, .int x1), (2, .int x2)]) rfl (Nat.le_of_ble_eq_true rfl) rfl dX12_passes_36 ?_
    exact mg_sub [1, 3, 0] rfl (sl_passes_37 C  x2 (((nI 1))) v f g h)
  · have h := h.2 c_
    refine mg_iload_n C (i := 1) rfl 1 rfl dX12_passes_10 ?_
    refine mg_iload_n C (i := 3) rfl 3 rfl dX12_passes_11 ?_
    refine mg_ishr C dX12_passes_12 ?_
    refine mg_iconst C (x := nI 1) rfl dX12_passes_13 ?_
    refine mg_iand C dX12_passes_14 ?_
    refine mg_iconst C (x := nI 1) rfl dX12_passes_15 ?_
    refine mg_icmp_ne C 29 (by decide) dX12_passes_16 (fun c_ => ?_) (fun c_ => ?_)
    · have h := h.1 c_
      exact mg_sub [0, 1, 2, 3] rfl (sb_passes_29 C hR4 x1 x2 x3 v f g h)
    · have h := h.2 c_
      refine mg_aload_n C (i := 0) rfl 0 rfl dX12_passes_19 ?_
      refine mg_arr C 62 (by decide) (by decide) rfl mL_choices rfl dX12_passes_20 ?_
      refine mg_iload_n C (i := 2) rfl 2 rfl dX12_passes_23 ?_
      refine mg_iload_n C (i := 3) rfl 3 rfl dX12_passes_24 ?_
      obtain ⟨hc_25, h⟩ := h
      refine mg_iastoreR C (n := 20) 62 (by decide) (by decide) rfl rfl hc_25 dX12_passes_25 ?_
      refine mg_nmF (fun f9 e_f9 => ?_)
      have h := h f9 e_f9
      obtain ⟨x2_10, e_x2_10⟩ : ∃ z : Int32, z = x2 + nI 1 := ⟨_, rfl⟩
      have h := h x2_10 e_x2_10
      refine mg_iinc C (lv' := [(2, .int x2_10), (0, .ref (a 0)), (1, .int x1), (3, .int x3)]) 2 rfl (by rw [e_x2_10]; rfl) (Nat.le_of_ble_eq_true rfl) rfl dX12_passes_26 ?_
      exact mg_sub [1, 2, 0, 3] rfl (sb_passes_29 C hR4 x1 x2_10 x3 v f9 g h)
set_option maxRecDepth 20000 in
theorem sl_passes_4 (C : mC p s m args meth c cX12_passes 5 (some .int) A D cI cJ cZ) {post : Int32 → mS → Prop}   (x1 : Int32) (x2 : Int32) (x3 : Int32) (v : Nat → Int32) (f : Nat → Nat → Int32) (g : Nat → Nat → Int64) (h : r_passes_4L (fun r v f g => post r (v, f, g))  x1 x2 x3 v f g) : mG p l e (mRm 1 24) s m args below meth c A D cI cJ cZ a 5 (MQ below (va_Qi post (mB D cI cJ cZ a) A) args s 0 0 A) 4 [(0, .ref (a 0)), (1, .int x1), (2, .int x2), (3, .int x3)] [] v f g :=
  h (fun y => mG p l e (mRm 1 24) s m args below meth c A D cI cJ cZ a 5 (MQ below (va_Qi post (mB D cI cJ cZ a) A) args s 0 0 A) 4 [(0, .ref (a 0)), (1, .int (y.1)), (2, .int (y.2.1)), (3, .int (y.2.2.1))] [] (y.2.2.2.1) (y.2.2.2.2.1) (y.2.2.2.2.2)) (fun y hy => sb_passes_4 C  (fun b0 b1 b2 v f g z => z) (y.1) (y.2.1) (y.2.2.1) (y.2.2.2.1) (y.2.2.2.2.1) (y.2.2.2.2.2) hy)
end S_passes
set_option maxHeartbeats 1000000 in
set_option maxRecDepth 20000 in
theorem s_passes (l : Launch) (x1 : Int32) (v : Nat → Int32) (f : Nat → Nat → Int32) (g : Nat → Nat → Int64) {P : Int32 → (Nat → Int32) → (Nat → Nat → Int32) → (Nat → Nat → Int64) → Prop} (h : r_passes P x1 v f g) : mMi l yX12_passes cX12_passes 5 (some .int) 1 24 false [.int x1] v f g (fun r w => P r w.1 w.2.1 w.2.2) := by
  intro D cI cJ cZ a sz
  refine mg_body (by decide +kernel) rfl (Nat.le_of_ble_eq_true rfl) ?_
  intro p e s m args below meth c hsz C
  clear hsz
  generalize va_A (mW cI cJ cZ a v f g) sz = A at C ⊢
  refine mg_lv (lv' := [(0, .ref (a 0)), (1, .int x1)]) rfl ?_
  unfold r_passes at h
  refine mg_iconst C (x := nI 0) rfl dX12_passes_0 ?_
  refine mg_istore_n C (i := 2) (lv' := [(2, .int ((nI 0))), (0, .ref (a 0)), (1, .int x1)]) rfl (Nat.le_of_ble_eq_true rfl) rfl dX12_passes_1 ?_
  refine mg_iconst C (x := nI 0) rfl dX12_passes_2 ?_
  refine mg_istore_n C (i := 3) (lv' := [(3, .int ((nI 0))), (2, .int ((nI 0))), (0, .ref (a 0)), (1, .int x1)]) rfl (Nat.le_of_ble_eq_true rfl) rfl dX12_passes_3 ?_
  exact mg_sub [2, 3, 1, 0] rfl (sl_passes_4 C  x1 (((nI 0))) (((nI 0))) v f g h)
def r_passagesOf (Q : Int32 → (Nat → Int32) → (Nat → Nat → Int32) → (Nat → Nat → Int64) → Prop) (x1 : Int32) (x2 : Int32) (x3 : Int32) (x4 : Int32) (v : Nat → Int32) (f : Nat → Nat → Int32) (g : Nat → Nat → Int64) : Prop :=
r_slotOf (fun r_1 v_1 f_1 g_1 => 
r_isAsked (fun r_2 v_2 f_2 g_2 => 
((r_2 = 0 →
  Q (((-1))) v_2 f_2 g_2) ∧
 (¬ r_2 = 0 →
  r_isKey (fun r_3 v_3 f_3 g_3 => 
  ((r_3 = 0 →
    Q (((-1))) v_3 f_3 g_3) ∧
   (¬ r_3 = 0 →
    r_isField (fun r_4 v_4 f_4 g_4 => 
    ((¬ r_4 = 0 →
      r_readies (fun v_5 f_5 g_5 => 
      r_withKey (fun r_6 v_6 f_6 g_6 => 
      ((r_6 = (((-1))) →
        Q ((nI 0)) v_6 f_6 g_6) ∧
       (¬ r_6 = (((-1))) →
        r_gives1 (fun r_7 v_7 f_7 g_7 => 
        ((¬ r_7 = (((-1))) →
          r_laysMarks (fun r_8 v_8 f_8 g_8 => 
          r_passes (fun r_9 v_9 f_9 g_9 => 
          Q r_9 v_9 f_9 g_9) r_8 v_8 f_8 g_8) x2 r_6 x4 v_7 f_7 g_7) ∧
         (r_7 = (((-1))) →
          Q ((nI 0)) v_7 f_7 g_7))) x2 r_6 v_6 f_6 g_6))) x3 v_5 f_5 g_5) r_1 x2 v_4 f_4 g_4) ∧
     (r_4 = 0 →
      Q (((-1))) v_4 f_4 g_4))) x4 v_3 f_3 g_3))) x3 v_2 f_2 g_2))) r_1 x2 v_1 f_1 g_1) x1 v f g
set_option maxHeartbeats 1000000 in
set_option maxRecDepth 20000 in
theorem s_passagesOf (l : Launch) (x1 : Int32) (x2 : Int32) (x3 : Int32) (x4 : Int32) (v : Nat → Int32) (f : Nat → Nat → Int32) (g : Nat → Nat → Int64) {P : Int32 → (Nat → Int32) → (Nat → Nat → Int32) → (Nat → Nat → Int64) → Prop} (h : r_passagesOf P x1 x2 x3 x4 v f g) : mMi l yX12_passagesOf cX12_passagesOf 7 (some .int) 7 182 false [.int x1, .int x2, .int x3, .int x4] v f g (fun r w => P r w.1 w.2.1 w.2.2) := by
  intro D cI cJ cZ a sz
  refine mg_body (by decide +kernel) rfl (Nat.le_of_ble_eq_true rfl) ?_
  intro p e s m args below meth c hsz C
  clear hsz
  generalize va_A (mW cI cJ cZ a v f g) sz = A at C ⊢
  refine mg_lv (lv' := [(0, .ref (a 0)), (1, .int x1), (2, .int x2), (3, .int x3), (4, .int x4)]) rfl ?_
  unfold r_passagesOf at h
  refine mg_aload_n C (i := 0) rfl 0 rfl dX12_passagesOf_0 ?_
  refine mg_iload_n C (i := 1) rfl 1 rfl dX12_passagesOf_1 ?_
  refine mg_calliW C (s_slotOf l x1 v f g h) mCal_slotOf rfl ⟨by decide, by decide⟩ rfl (Nat.le_of_ble_eq_true rfl) dX12_passagesOf_2 (fun r_1 v_1 f_1 g_1 h => ?_)
  refine mg_istore C (lv' := [(5, .int r_1), (0, .ref (a 0)), (1, .int x1), (2, .int x2), (3, .int x3), (4, .int x4)]) (Nat.le_of_ble_eq_true rfl) rfl dX12_passagesOf_5 ?_
  refine mg_aload_n C (i := 0) rfl 1 rfl dX12_passagesOf_7 ?_
  refine mg_iload C 0 rfl dX12_passagesOf_8 ?_
  refine mg_iload_n C (i := 2) rfl 3 rfl dX12_passagesOf_10 ?_
  refine mg_calliW C (s_isAsked l r_1 x2 v_1 f_1 g_1 h) mCal_isAsked rfl ⟨by decide, by decide⟩ rfl (Nat.le_of_ble_eq_true rfl) dX12_passagesOf_11 (fun r_2 v_2 f_2 g_2 h => ?_)
  refine mg_if_eq C 33 (by decide) dX12_passagesOf_14 (fun c_ => ?_) (fun c_ => ?_)
  · have h := h.1 c_
    refine mg_iconst C (x := (-1)) rfl dX12_passagesOf_33 ?_
    exact mg_iret C h dX12_passagesOf_34
  · have h := h.2 c_
    refine mg_iload_n C (i := 3) rfl 4 rfl dX12_passagesOf_17 ?_
    refine mg_callsiW C (s_isKey l x3 v_2 f_2 g_2 h) mCal_isKey rfl ⟨by decide, by decide⟩ rfl (Nat.le_of_ble_eq_true rfl) dX12_passagesOf_18 (fun r_3 v_3 f_3 g_3 h => ?_)
    refine mg_if_eq C 33 (by decide) dX12_passagesOf_21 (fun c_ => ?_) (fun c_ => ?_)
    · have h := h.1 c_
      refine mg_iconst C (x := (-1)) rfl dX12_passagesOf_33 ?_
      exact mg_iret C h dX12_passagesOf_34
    · have h := h.2 c_
      refine mg_aload_n C (i := 0) rfl 1 rfl dX12_passagesOf_24 ?_
      refine mg_iload C 5 rfl dX12_passagesOf_25 ?_
      refine mg_calliW C (s_isField l x4 v_3 f_3 g_3 h) mCal_isField rfl ⟨by decide, by decide⟩ rfl (Nat.le_of_ble_eq_true rfl) dX12_passagesOf_27 (fun r_4 v_4 f_4 g_4 h => ?_)
      refine mg_if_ne C 35 (by decide) dX12_passagesOf_30 (fun c_ => ?_) (fun c_ => ?_)
      · have h := h.1 c_
        refine mg_aload_n C (i := 0) rfl 1 rfl dX12_passagesOf_35 ?_
        refine mg_iload C 0 rfl dX12_passagesOf_36 ?_
        refine mg_iload_n C (i := 2) rfl 3 rfl dX12_passagesOf_38 ?_
        refine mg_callvW C (s_readies l r_1 x2 v_4 f_4 g_4 h) mCal_readies rfl ⟨by decide, by decide⟩ rfl (Nat.le_of_ble_eq_true rfl) dX12_passagesOf_39 (fun v_5 f_5 g_5 h => ?_)
        refine mg_aload_n C (i := 0) rfl 1 rfl dX12_passagesOf_42 ?_
        refine mg_iload_n C (i := 3) rfl 4 rfl dX12_passagesOf_43 ?_
        refine mg_calliW C (s_withKey l x3 v_5 f_5 g_5 h) mCal_withKey rfl ⟨by decide, by decide⟩ rfl (Nat.le_of_ble_eq_true rfl) dX12_passagesOf_44 (fun r_6 v_6 f_6 g_6 h => ?_)
        refine mg_istore C (lv' := [(6, .int r_6), (5, .int r_1), (0, .ref (a 0)), (1, .int x1), (2, .int x2), (3, .int x3), (4, .int x4)]) (Nat.le_of_ble_eq_true rfl) rfl dX12_passagesOf_47 ?_
        refine mg_iload C 0 rfl dX12_passagesOf_49 ?_
        refine mg_iconst C (x := (-1)) rfl dX12_passagesOf_51 ?_
        refine mg_icmp_eq C 66 (by decide) dX12_passagesOf_52 (fun c_ => ?_) (fun c_ => ?_)
        · have h := h.1 c_
          refine mg_iconst C (x := nI 0) rfl dX12_passagesOf_66 ?_
          exact mg_iret C h dX12_passagesOf_67
        · have h := h.2 c_
          refine mg_aload_n C (i := 0) rfl 2 rfl dX12_passagesOf_55 ?_
          refine mg_iload_n C (i := 2) rfl 4 rfl dX12_passagesOf_56 ?_
          refine mg_iload C 0 rfl dX12_passagesOf_57 ?_
          refine mg_calliW C (s_gives1 l x2 r_6 v_6 f_6 g_6 h) mCal_gives1 rfl ⟨by decide, by decide⟩ rfl (Nat.le_of_ble_eq_true rfl) dX12_passagesOf_59 (fun r_7 v_7 f_7 g_7 h => ?_)
          refine mg_iconst C (x := (-1)) rfl dX12_passagesOf_62 ?_
          refine mg_icmp_ne C 68 (by decide) dX12_passagesOf_63 (fun c_ => ?_) (fun c_ => ?_)
          · have h := h.1 c_
            refine mg_aload_n C (i := 0) rfl 2 rfl dX12_passagesOf_68 ?_
            refine mg_aload_n C (i := 0) rfl 2 rfl dX12_passagesOf_69 ?_
            refine mg_iload_n C (i := 2) rfl 4 rfl dX12_passagesOf_70 ?_
            refine mg_iload C 0 rfl dX12_passagesOf_71 ?_
            refine mg_iload C 6 rfl dX12_passagesOf_73 ?_
            refine mg_calliW C (s_laysMarks l x2 r_6 x4 v_7 f_7 g_7 h) mCal_laysMarks rfl ⟨by decide, by decide⟩ rfl (Nat.le_of_ble_eq_true rfl) dX12_passagesOf_75 (fun r_8 v_8 f_8 g_8 h => ?_)
            refine mg_calliW C (s_passes l r_8 v_8 f_8 g_8 h) mCal_passes rfl ⟨by decide, by decide⟩ rfl (Nat.le_of_ble_eq_true rfl) dX12_passagesOf_78 (fun r_9 v_9 f_9 g_9 h => ?_)
            exact mg_iret C h dX12_passagesOf_81
          · have h := h.2 c_
            refine mg_iconst C (x := nI 0) rfl dX12_passagesOf_66 ?_
            exact mg_iret C h dX12_passagesOf_67
      · have h := h.2 c_
        refine mg_iconst C (x := (-1)) rfl dX12_passagesOf_33 ?_
        exact mg_iret C h dX12_passagesOf_34
def r_passages_23 (Q : Int32 → (Nat → Int32) → (Nat → Nat → Int32) → (Nat → Nat → Int64) → Prop)  (x5 : Int32) (t0 : Int32) (v : Nat → Int32) (f : Nat → Nat → Int32) (g : Nat → Nat → Int64) : Prop :=
r_goes (fun r_2 v_2 f_2 g_2 => 
((r_2 = 0 →
  Q ((nI 0)) v_2 f_2 g_2) ∧
 (¬ r_2 = 0 →
  Q x5 v_2 f_2 g_2))) t0 ((nI 1)) ((nI 1)) v f g
def r_passages (Q : Int32 → (Nat → Int32) → (Nat → Nat → Int32) → (Nat → Nat → Int64) → Prop) (x1 : Int32) (x2 : Int32) (x3 : Int32) (x4 : Int32) (v : Nat → Int32) (f : Nat → Nat → Int32) (g : Nat → Nat → Int64) : Prop :=
r_passagesOf (fun r_1 v_1 f_1 g_1 => 
((r_1 = (((-1))) →
  r_passages_23 Q  r_1 ((nI 0)) v_1 f_1 g_1) ∧
 (¬ r_1 = (((-1))) →
  r_passages_23 Q  r_1 ((nI 1)) v_1 f_1 g_1))) x1 x2 x3 x4 v f g
section S_passages
variable {p : Program} {l : Launch} {e : Env} {s : State} {m : MethodId} {args : Array Value} {below : List Frame} {meth : Method} {c : Code} {A : Nat → Prop} {D : va_G} {cI cJ cZ : ClassId} {a : Nat → Nat}
set_option maxRecDepth 20000 in
theorem sb_passages_23 (C : mC p s m args meth c cX12_passages 6 (some .int) A D cI cJ cZ) {post : Int32 → mS → Prop}   (x5 : Int32) (t0 : Int32) (v : Nat → Int32) (f : Nat → Nat → Int32) (g : Nat → Nat → Int64) (h : r_passages_23 (fun r v f g => post r (v, f, g))  x5 t0 v f g) : mG p l e (mRm 8 208) s m args below meth c A D cI cJ cZ a 6 (MQ below (va_Qi post (mB D cI cJ cZ a) A) args s 0 0 A) 23 [(5, .int x5)] [.int t0, .ref (a 0)] v f g := by
  unfold r_passages_23 at h
  refine mg_iconst C (x := nI 1) rfl dX12_passages_23 ?_
  refine mg_iconst C (x := nI 1) rfl dX12_passages_24 ?_
  refine mg_calliW C (s_goes l t0 ((nI 1)) ((nI 1)) v f g h) mCal_goes rfl ⟨by decide, by decide⟩ rfl (Nat.le_of_ble_eq_true rfl) dX12_passages_25 (fun r_2 v_2 f_2 g_2 h => ?_)
  refine mg_if_eq C 36 (by decide) dX12_passages_28 (fun c_ => ?_) (fun c_ => ?_)
  · have h := h.1 c_
    refine mg_iconst C (x := nI 0) rfl dX12_passages_36 ?_
    exact mg_iret C h dX12_passages_37
  · have h := h.2 c_
    refine mg_iload C 0 rfl dX12_passages_31 ?_
    refine mg_goto C 37 (by decide) dX12_passages_33 ?_
    exact mg_iret C h dX12_passages_37
end S_passages
set_option maxHeartbeats 1000000 in
set_option maxRecDepth 20000 in
theorem s_passages (l : Launch) (x1 : Int32) (x2 : Int32) (x3 : Int32) (x4 : Int32) (v : Nat → Int32) (f : Nat → Nat → Int32) (g : Nat → Nat → Int64) {P : Int32 → (Nat → Int32) → (Nat → Nat → Int32) → (Nat → Nat → Int64) → Prop} (h : r_passages P x1 x2 x3 x4 v f g) : mMi l yX12_passages cX12_passages 6 (some .int) 8 208 false [.int x1, .int x2, .int x3, .int x4] v f g (fun r w => P r w.1 w.2.1 w.2.2) := by
  intro D cI cJ cZ a sz
  refine mg_body (by decide +kernel) rfl (Nat.le_of_ble_eq_true rfl) ?_
  intro p e s m args below meth c hsz C
  clear hsz
  generalize va_A (mW cI cJ cZ a v f g) sz = A at C ⊢
  refine mg_lv (lv' := [(0, .ref (a 0)), (1, .int x1), (2, .int x2), (3, .int x3), (4, .int x4)]) rfl ?_
  unfold r_passages at h
  refine mg_aload_n C (i := 0) rfl 0 rfl dX12_passages_0 ?_
  refine mg_iload_n C (i := 1) rfl 1 rfl dX12_passages_1 ?_
  refine mg_iload_n C (i := 2) rfl 2 rfl dX12_passages_2 ?_
  refine mg_iload_n C (i := 3) rfl 3 rfl dX12_passages_3 ?_
  refine mg_iload C 4 rfl dX12_passages_4 ?_
  refine mg_calliW C (s_passagesOf l x1 x2 x3 x4 v f g h) mCal_passagesOf rfl ⟨by decide, by decide⟩ rfl (Nat.le_of_ble_eq_true rfl) dX12_passages_6 (fun r_1 v_1 f_1 g_1 h => ?_)
  refine mg_istore C (lv' := [(5, .int r_1), (0, .ref (a 0)), (1, .int x1), (2, .int x2), (3, .int x3), (4, .int x4)]) (Nat.le_of_ble_eq_true rfl) rfl dX12_passages_9 ?_
  refine mg_aload_n C (i := 0) rfl 1 rfl dX12_passages_11 ?_
  refine mg_iload C 0 rfl dX12_passages_12 ?_
  refine mg_iconst C (x := (-1)) rfl dX12_passages_14 ?_
  refine mg_icmp_eq C 22 (by decide) dX12_passages_15 (fun c_ => ?_) (fun c_ => ?_)
  · have h := h.1 c_
    refine mg_iconst C (x := nI 0) rfl dX12_passages_22 ?_
    exact mg_sub [0] rfl (sb_passages_23 C  r_1 ((nI 0)) v_1 f_1 g_1 h)
  · have h := h.2 c_
    refine mg_iconst C (x := nI 1) rfl dX12_passages_18 ?_
    refine mg_goto C 23 (by decide) dX12_passages_19 ?_
    exact mg_sub [0] rfl (sb_passages_23 C  r_1 ((nI 1)) v_1 f_1 g_1 h)
def r_passageAt_23 (Q : Int32 → (Nat → Int32) → (Nat → Nat → Int32) → (Nat → Nat → Int64) → Prop)  (x5 : Int32) (x6 : Int32) (t0 : Int32) (v : Nat → Int32) (f : Nat → Nat → Int32) (g : Nat → Nat → Int64) : Prop :=
r_goes (fun r_2 v_2 f_2 g_2 => 
((¬ r_2 = 0 →
  r_in (fun r_3 v_3 f_3 g_3 => 
  ((r_3 = 0 →
    Q (((-1))) v_3 f_3 g_3) ∧
   (¬ r_3 = 0 →
    vp_in x5 20 ∧ (Q ((f_3 64 (x5).toNatClampNeg)) v_3 f_3 g_3)))) x5 ((nI 0)) ((x6 - ((nI 1)))) v_2 f_2 g_2) ∧
 (r_2 = 0 →
  Q ((nI 0)) v_2 f_2 g_2))) t0 ((nI 1)) ((nI 1)) v f g
def r_passageAt (Q : Int32 → (Nat → Int32) → (Nat → Nat → Int32) → (Nat → Nat → Int64) → Prop) (x1 : Int32) (x2 : Int32) (x3 : Int32) (x4 : Int32) (x5 : Int32) (v : Nat → Int32) (f : Nat → Nat → Int32) (g : Nat → Nat → Int64) : Prop :=
r_passagesOf (fun r_1 v_1 f_1 g_1 => 
((r_1 = (((-1))) →
  r_passageAt_23 Q  x5 r_1 ((nI 0)) v_1 f_1 g_1) ∧
 (¬ r_1 = (((-1))) →
  r_passageAt_23 Q  x5 r_1 ((nI 1)) v_1 f_1 g_1))) x1 x2 x3 x4 v f g
section S_passageAt
variable {p : Program} {l : Launch} {e : Env} {s : State} {m : MethodId} {args : Array Value} {below : List Frame} {meth : Method} {c : Code} {A : Nat → Prop} {D : va_G} {cI cJ cZ : ClassId} {a : Nat → Nat}
set_option maxRecDepth 20000 in
theorem sb_passageAt_23 (C : mC p s m args meth c cX12_passageAt 7 (some .int) A D cI cJ cZ) {post : Int32 → mS → Prop}   (x5 : Int32) (x6 : Int32) (t0 : Int32) (v : Nat → Int32) (f : Nat → Nat → Int32) (g : Nat → Nat → Int64) (h : r_passageAt_23 (fun r v f g => post r (v, f, g))  x5 x6 t0 v f g) : mG p l e (mRm 8 208) s m args below meth c A D cI cJ cZ a 7 (MQ below (va_Qi post (mB D cI cJ cZ a) A) args s 0 0 A) 23 [(0, .ref (a 0)), (5, .int x5), (6, .int x6)] [.int t0, .ref (a 0)] v f g := by
  unfold r_passageAt_23 at h
  refine mg_iconst C (x := nI 1) rfl dX12_passageAt_23 ?_
  refine mg_iconst C (x := nI 1) rfl dX12_passageAt_24 ?_
  refine mg_calliW C (s_goes l t0 ((nI 1)) ((nI 1)) v f g h) mCal_goes rfl ⟨by decide, by decide⟩ rfl (Nat.le_of_ble_eq_true rfl) dX12_passageAt_25 (fun r_2 v_2 f_2 g_2 h => ?_)
  refine mg_if_ne C 33 (by decide) dX12_passageAt_28 (fun c_ => ?_) (fun c_ => ?_)
  · have h := h.1 c_
    refine mg_iload C 1 rfl dX12_passageAt_33 ?_
    refine mg_iconst C (x := nI 0) rfl dX12_passageAt_35 ?_
    refine mg_iload C 2 rfl dX12_passageAt_36 ?_
    refine mg_iconst C (x := nI 1) rfl dX12_passageAt_38 ?_
    refine mg_isub C dX12_passageAt_39 ?_
    refine mg_callsiW C (s_in l x5 ((nI 0)) ((x6 - ((nI 1)))) v_2 f_2 g_2 h) mCal_in rfl ⟨by decide, by decide⟩ rfl (Nat.le_of_ble_eq_true rfl) dX12_passageAt_40 (fun r_3 v_3 f_3 g_3 h => ?_)
    refine mg_if_eq C 56 (by decide) dX12_passageAt_43 (fun c_ => ?_) (fun c_ => ?_)
    · have h := h.1 c_
      refine mg_iconst C (x := (-1)) rfl dX12_passageAt_56 ?_
      exact mg_iret C h dX12_passageAt_57
    · have h := h.2 c_
      refine mg_aload_n C (i := 0) rfl 0 rfl dX12_passageAt_46 ?_
      refine mg_arr C 64 (by decide) (by decide) rfl mL_chosen rfl dX12_passageAt_47 ?_
      refine mg_iload C 1 rfl dX12_passageAt_50 ?_
      obtain ⟨hc_52, h⟩ := h
      refine mg_ialoadR C (n := 20) 64 (by decide) (by decide) rfl rfl hc_52 dX12_passageAt_52 ?_
      refine mg_goto C 57 (by decide) dX12_passageAt_53 ?_
      exact mg_iret C h dX12_passageAt_57
  · have h := h.2 c_
    refine mg_iconst C (x := nI 0) rfl dX12_passageAt_31 ?_
    exact mg_iret C h dX12_passageAt_32
end S_passageAt
set_option maxHeartbeats 1000000 in
set_option maxRecDepth 20000 in
theorem s_passageAt (l : Launch) (x1 : Int32) (x2 : Int32) (x3 : Int32) (x4 : Int32) (x5 : Int32) (v : Nat → Int32) (f : Nat → Nat → Int32) (g : Nat → Nat → Int64) {P : Int32 → (Nat → Int32) → (Nat → Nat → Int32) → (Nat → Nat → Int64) → Prop} (h : r_passageAt P x1 x2 x3 x4 x5 v f g) : mMi l yX12_passageAt cX12_passageAt 7 (some .int) 8 208 false [.int x1, .int x2, .int x3, .int x4, .int x5] v f g (fun r w => P r w.1 w.2.1 w.2.2) := by
  intro D cI cJ cZ a sz
  refine mg_body (by decide +kernel) rfl (Nat.le_of_ble_eq_true rfl) ?_
  intro p e s m args below meth c hsz C
  clear hsz
  generalize va_A (mW cI cJ cZ a v f g) sz = A at C ⊢
  refine mg_lv (lv' := [(0, .ref (a 0)), (1, .int x1), (2, .int x2), (3, .int x3), (4, .int x4), (5, .int x5)]) rfl ?_
  unfold r_passageAt at h
  refine mg_aload_n C (i := 0) rfl 0 rfl dX12_passageAt_0 ?_
  refine mg_iload_n C (i := 1) rfl 1 rfl dX12_passageAt_1 ?_
  refine mg_iload_n C (i := 2) rfl 2 rfl dX12_passageAt_2 ?_
  refine mg_iload_n C (i := 3) rfl 3 rfl dX12_passageAt_3 ?_
  refine mg_iload C 4 rfl dX12_passageAt_4 ?_
  refine mg_calliW C (s_passagesOf l x1 x2 x3 x4 v f g h) mCal_passagesOf rfl ⟨by decide, by decide⟩ rfl (Nat.le_of_ble_eq_true rfl) dX12_passageAt_6 (fun r_1 v_1 f_1 g_1 h => ?_)
  refine mg_istore C (lv' := [(6, .int r_1), (0, .ref (a 0)), (1, .int x1), (2, .int x2), (3, .int x3), (4, .int x4), (5, .int x5)]) (Nat.le_of_ble_eq_true rfl) rfl dX12_passageAt_9 ?_
  refine mg_aload_n C (i := 0) rfl 1 rfl dX12_passageAt_11 ?_
  refine mg_iload C 0 rfl dX12_passageAt_12 ?_
  refine mg_iconst C (x := (-1)) rfl dX12_passageAt_14 ?_
  refine mg_icmp_eq C 22 (by decide) dX12_passageAt_15 (fun c_ => ?_) (fun c_ => ?_)
  · have h := h.1 c_
    refine mg_iconst C (x := nI 0) rfl dX12_passageAt_22 ?_
    exact mg_sub [1, 6, 0] rfl (sb_passageAt_23 C  x5 r_1 ((nI 0)) v_1 f_1 g_1 h)
  · have h := h.2 c_
    refine mg_iconst C (x := nI 1) rfl dX12_passageAt_18 ?_
    refine mg_goto C 23 (by decide) dX12_passageAt_19 ?_
    exact mg_sub [1, 6, 0] rfl (sb_passageAt_23 C  x5 r_1 ((nI 1)) v_1 f_1 g_1 h)
