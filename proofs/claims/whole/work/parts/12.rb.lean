/-! the reference's methods as predicates, and their contracts -/
def r_delete_17 (Q : Int32 → (Nat → Int32) → (Nat → Nat → Int32) → (Nat → Nat → Int64) → Prop)  (x1 : Int32) (t0 : Int32) (t1 : Int32) (v : Nat → Int32) (f : Nat → Nat → Int32) (g : Nat → Nat → Int64) : Prop :=
r_goes (fun r_2 v_2 f_2 g_2 => 
((r_2 = 0 →
  Q ((bI false)) v_2 f_2 g_2) ∧
 (¬ r_2 = 0 →
  r_deletes (fun r_3 v_3 f_3 g_3 => 
  ((r_3 = 0 →
    Q ((bI false)) v_3 f_3 g_3) ∧
   (¬ r_3 = 0 →
    Q ((bI true)) v_3 f_3 g_3))) x1 v_2 f_2 g_2))) t1 t0 ((nI 1)) v f g
def r_delete (Q : Int32 → (Nat → Int32) → (Nat → Nat → Int32) → (Nat → Nat → Int64) → Prop) (x1 : Int32) (v : Nat → Int32) (f : Nat → Nat → Int32) (g : Nat → Nat → Int64) : Prop :=
r_isKey (fun r_1 v_1 f_1 g_1 => 
((¬ ((v_1 98)) = 0 →
  r_delete_17 Q  x1 ((nI 0)) r_1 v_1 f_1 g_1) ∧
 (((v_1 98)) = 0 →
  r_delete_17 Q  x1 ((nI 1)) r_1 v_1 f_1 g_1))) x1 v f g
section S_delete
variable {p : Program} {l : Launch} {e : Env} {s : State} {m : MethodId} {args : Array Value} {below : List Frame} {meth : Method} {c : Code} {A : Nat → Prop} {D : va_G} {cI cJ cZ : ClassId} {a : Nat → Nat}
set_option maxRecDepth 20000 in
theorem sb_delete_17 (C : mC p s m args meth c cX12_delete 2 (some .boolean) A D cI cJ cZ) {post : Int32 → mS → Prop}   (x1 : Int32) (t0 : Int32) (t1 : Int32) (v : Nat → Int32) (f : Nat → Nat → Int32) (g : Nat → Nat → Int64) (h : r_delete_17 (fun r v f g => post r (v, f, g))  x1 t0 t1 v f g) : mG p l e (mRm 2 49) s m args below meth c A D cI cJ cZ a 2 (MQ below (va_Qi post (mB D cI cJ cZ a) A) args s 0 0 A) 17 [(0, .ref (a 0)), (1, .int x1)] [.int t0, .int t1, .ref (a 0)] v f g := by
  unfold r_delete_17 at h
  refine mg_iconst C (x := nI 1) rfl dX12_delete_17 ?_
  refine mg_calliW C (s_goes l t1 t0 ((nI 1)) v f g h) mCal_goes rfl ⟨by decide, by decide⟩ rfl (Nat.le_of_ble_eq_true rfl) dX12_delete_18 (fun r_2 v_2 f_2 g_2 h => ?_)
  refine mg_if_eq C 36 (by decide) dX12_delete_21 (fun c_ => ?_) (fun c_ => ?_)
  · have h := h.1 c_
    refine mg_iconst C (x := nI 0) rfl dX12_delete_36 ?_
    refine mg_cast (bI false) rfl ?_
    exact mg_zret C (bI_nar _) h dX12_delete_37
  · have h := h.2 c_
    refine mg_aload_n C (i := 0) rfl 0 rfl dX12_delete_24 ?_
    refine mg_iload_n C (i := 1) rfl 1 rfl dX12_delete_25 ?_
    refine mg_calliW C (s_deletes l x1 v_2 f_2 g_2 h) mCal_deletes rfl ⟨by decide, by decide⟩ rfl (Nat.le_of_ble_eq_true rfl) dX12_delete_26 (fun r_3 v_3 f_3 g_3 h => ?_)
    refine mg_if_eq C 36 (by decide) dX12_delete_29 (fun c_ => ?_) (fun c_ => ?_)
    · have h := h.1 c_
      refine mg_iconst C (x := nI 0) rfl dX12_delete_36 ?_
      refine mg_cast (bI false) rfl ?_
      exact mg_zret C (bI_nar _) h dX12_delete_37
    · have h := h.2 c_
      refine mg_iconst C (x := nI 1) rfl dX12_delete_32 ?_
      refine mg_goto C 37 (by decide) dX12_delete_33 ?_
      refine mg_cast (bI true) rfl ?_
      exact mg_zret C (bI_nar _) h dX12_delete_37
end S_delete
set_option maxHeartbeats 1000000 in
set_option maxRecDepth 20000 in
theorem s_delete (l : Launch) (x1 : Int32) (v : Nat → Int32) (f : Nat → Nat → Int32) (g : Nat → Nat → Int64) {P : Int32 → (Nat → Int32) → (Nat → Nat → Int32) → (Nat → Nat → Int64) → Prop} (h : r_delete P x1 v f g) : mMi l yX12_delete cX12_delete 2 (some .boolean) 2 49 false [.int x1] v f g (fun r w => P r w.1 w.2.1 w.2.2) := by
  intro D cI cJ cZ a sz
  refine mg_body (by decide +kernel) rfl (Nat.le_of_ble_eq_true rfl) ?_
  intro p e s m args below meth c hsz C
  clear hsz
  generalize va_A (mW cI cJ cZ a v f g) sz = A at C ⊢
  refine mg_lv (lv' := [(0, .ref (a 0)), (1, .int x1)]) rfl ?_
  unfold r_delete at h
  refine mg_aload_n C (i := 0) rfl 0 rfl dX12_delete_0 ?_
  refine mg_iload_n C (i := 1) rfl 1 rfl dX12_delete_1 ?_
  refine mg_callsiW C (s_isKey l x1 v f g h) mCal_isKey rfl ⟨by decide, by decide⟩ rfl (Nat.le_of_ble_eq_true rfl) dX12_delete_2 (fun r_1 v_1 f_1 g_1 h => ?_)
  refine mg_aload_n C (i := 0) rfl 0 rfl dX12_delete_5 ?_
  refine mg_getI C (k := 98) (by decide) rfl mL_down rfl dX12_delete_6 ?_
  refine mg_if_ne C 16 (by decide) dX12_delete_9 (fun c_ => ?_) (fun c_ => ?_)
  · have h := h.1 c_
    refine mg_iconst C (x := nI 0) rfl dX12_delete_16 ?_
    exact mg_sub [0, 1] rfl (sb_delete_17 C  x1 ((nI 0)) r_1 v_1 f_1 g_1 h)
  · have h := h.2 c_
    refine mg_iconst C (x := nI 1) rfl dX12_delete_12 ?_
    refine mg_goto C 17 (by decide) dX12_delete_13 ?_
    exact mg_sub [0, 1] rfl (sb_delete_17 C  x1 ((nI 1)) r_1 v_1 f_1 g_1 h)
def r_writes1_91 (Q : Int32 → (Nat → Int32) → (Nat → Nat → Int32) → (Nat → Nat → Int64) → Prop)  (t0 : Int32) (t1 : Int32) (v : Nat → Int32) (f : Nat → Nat → Int32) (g : Nat → Nat → Int64) : Prop :=
∀ v1 : Nat → Int32, v1 = upd v 97 ((t1 - t0)) → ∀ v2 : Nat → Int32, v2 = upd v1 96 ((((v1 96)) + ((nI 1)))) → Q ((bI true)) v2 f g
def r_writes1_54 (Q : Int32 → (Nat → Int32) → (Nat → Nat → Int32) → (Nat → Nat → Int64) → Prop) (R54 : Int32 → (Nat → Int32) → (Nat → Nat → Int32) → (Nat → Nat → Int64) → Prop) (x1 : Int32) (v : Nat → Int32) (f : Nat → Nat → Int32) (g : Nat → Nat → Int64) : Prop :=
((((nI 5)) ≤ x1 →
  Q ((bI false)) v f g) ∧
 (¬ ((nI 5)) ≤ x1 →
  vp_in x1 5 ∧ (∀ f12 : Nat → Nat → Int32, f12 = mU f 29 (x1).toNatClampNeg (((-1))) → ∀ x1_13 : Int32, x1_13 = x1 + nI 1 → R54 x1_13 v f12 g)))
def r_writes1_54L (Q : Int32 → (Nat → Int32) → (Nat → Nat → Int32) → (Nat → Nat → Int64) → Prop)  (x1 : Int32) (v : Nat → Int32) (f : Nat → Nat → Int32) (g : Nat → Nat → Int64) : Prop :=
  lfp (X := Int32 × (Nat → Int32) × (Nat → Nat → Int32) × (Nat → Nat → Int64)) (fun P y => r_writes1_54 Q  (fun b0 v f g => P (b0, v, f, g)) y.1 y.2.1 y.2.2.1 y.2.2.2) (x1, v, f, g)
def r_writes1 (Q : Int32 → (Nat → Int32) → (Nat → Nat → Int32) → (Nat → Nat → Int64) → Prop)  (v : Nat → Int32) (f : Nat → Nat → Int32) (g : Nat → Nat → Int64) : Prop :=
((¬ ((v 97)) = 0 →
  ((((v 97)) ≤ 0 →
    r_writes1_91 Q  ((nI 0)) ((v 97)) v f g) ∧
   (¬ ((v 97)) ≤ 0 →
    r_writes1_91 Q  ((nI 1)) ((v 97)) v f g))) ∧
 (((v 97)) = 0 →
  ∀ v3 : Nat → Int32, v3 = upd v 98 ((bI true)) → ∀ v4 : Nat → Int32, v4 = upd v3 20 ((nI 0)) → ∀ v5 : Nat → Int32, v5 = upd v4 49 ((bI false)) → ∀ v6 : Nat → Int32, v6 = upd v5 40 ((bI false)) → ∀ v7 : Nat → Int32, v7 = upd v6 85 ((nI 0)) → ∀ v8 : Nat → Int32, v8 = upd v7 88 ((nI 0)) → ∀ v9 : Nat → Int32, v9 = upd v8 89 ((nI 0)) → ∀ v10 : Nat → Int32, v10 = upd v9 90 ((nI 0)) → ∀ v11 : Nat → Int32, v11 = upd v10 34 ((nI 0)) → r_writes1_54L Q  (((nI 0))) v11 f g))
section S_writes1
variable {p : Program} {l : Launch} {e : Env} {s : State} {m : MethodId} {args : Array Value} {below : List Frame} {meth : Method} {c : Code} {A : Nat → Prop} {D : va_G} {cI cJ cZ : ClassId} {a : Nat → Nat}
set_option maxRecDepth 20000 in
theorem sb_writes1_91 (C : mC p s m args meth c cX12_writes1 2 (some .boolean) A D cI cJ cZ) {post : Int32 → mS → Prop}   (t0 : Int32) (t1 : Int32) (v : Nat → Int32) (f : Nat → Nat → Int32) (g : Nat → Nat → Int64) (h : r_writes1_91 (fun r v f g => post r (v, f, g))  t0 t1 v f g) : mG p l e (mRm 0 0) s m args below meth c A D cI cJ cZ a 2 (MQ below (va_Qi post (mB D cI cJ cZ a) A) args s 0 0 A) 91 [(0, .ref (a 0))] [.int t0, .int t1, .ref (a 0)] v f g := by
  unfold r_writes1_91 at h
  refine mg_isub C dX12_writes1_91 ?_
  refine mg_put C (k := 97) (by decide) rfl mL_crash rfl (by decide +kernel) mT_crash rfl rfl dX12_writes1_92 ?_
  refine mg_nmV (fun v1 e_v1 => ?_)
  have h := h v1 e_v1
  refine mg_aload_n C (i := 0) rfl 0 rfl dX12_writes1_95 ?_
  refine mg_dup C rfl dX12_writes1_96 ?_
  refine mg_getI C (k := 96) (by decide) rfl mL_writes rfl dX12_writes1_97 ?_
  refine mg_iconst C (x := nI 1) rfl dX12_writes1_100 ?_
  refine mg_iadd C dX12_writes1_101 ?_
  refine mg_put C (k := 96) (by decide) rfl mL_writes rfl (by decide +kernel) mT_writes rfl rfl dX12_writes1_102 ?_
  refine mg_nmV (fun v2 e_v2 => ?_)
  have h := h v2 e_v2
  refine mg_iconst C (x := nI 1) rfl dX12_writes1_105 ?_
  refine mg_cast (bI true) rfl ?_
  exact mg_zret C (bI_nar _) h dX12_writes1_106
set_option maxRecDepth 20000 in
theorem sb_writes1_54 (C : mC p s m args meth c cX12_writes1 2 (some .boolean) A D cI cJ cZ) {post : Int32 → mS → Prop} {R54 : Int32 → (Nat → Int32) → (Nat → Nat → Int32) → (Nat → Nat → Int64) → Prop} (hR54 : ∀ (x1 : Int32) (v : Nat → Int32) (f : Nat → Nat → Int32) (g : Nat → Nat → Int64), R54 x1 v f g → mG p l e (mRm 0 0) s m args below meth c A D cI cJ cZ a 2 (MQ below (va_Qi post (mB D cI cJ cZ a) A) args s 0 0 A) 54 [(0, .ref (a 0)), (1, .int x1)] [] v f g) (x1 : Int32) (v : Nat → Int32) (f : Nat → Nat → Int32) (g : Nat → Nat → Int64) (h : r_writes1_54 (fun r v f g => post r (v, f, g)) R54 x1 v f g) : mG p l e (mRm 0 0) s m args below meth c A D cI cJ cZ a 2 (MQ below (va_Qi post (mB D cI cJ cZ a) A) args s 0 0 A) 54 [(0, .ref (a 0)), (1, .int x1)] [] v f g := by
  unfold r_writes1_54 at h
  refine mg_iload_n C (i := 1) rfl 1 rfl dX12_writes1_54 ?_
  refine mg_iconst C (x := nI 5) rfl dX12_writes1_55 ?_
  refine mg_icmp_ge C 72 (by decide) dX12_writes1_56 (fun c_ => ?_) (fun c_ => ?_)
  · have h := h.1 c_
    refine mg_iconst C (x := nI 0) rfl dX12_writes1_72 ?_
    refine mg_cast (bI false) rfl ?_
    exact mg_zret C (bI_nar _) h dX12_writes1_73
  · have h := h.2 c_
    refine mg_aload_n C (i := 0) rfl 0 rfl dX12_writes1_59 ?_
    refine mg_arr C 29 (by decide) (by decide) rfl mL_lookNumbers rfl dX12_writes1_60 ?_
    refine mg_iload_n C (i := 1) rfl 1 rfl dX12_writes1_63 ?_
    refine mg_iconst C (x := (-1)) rfl dX12_writes1_64 ?_
    obtain ⟨hc_65, h⟩ := h
    refine mg_iastoreR C (n := 5) 29 (by decide) (by decide) rfl rfl hc_65 dX12_writes1_65 ?_
    refine mg_nmF (fun f12 e_f12 => ?_)
    have h := h f12 e_f12
    obtain ⟨x1_13, e_x1_13⟩ : ∃ z : Int32, z = x1 + nI 1 := ⟨_, rfl⟩
    have h := h x1_13 e_x1_13
    refine mg_iinc C (lv' := [(1, .int x1_13), (0, .ref (a 0))]) 1 rfl (by rw [e_x1_13]; rfl) (Nat.le_of_ble_eq_true rfl) rfl dX12_writes1_66 ?_
    refine mg_goto C 54 (by decide) dX12_writes1_69 ?_
    exact mg_sub [1, 0] rfl (hR54 x1_13 v f12 g h)
set_option maxRecDepth 20000 in
theorem sl_writes1_54 (C : mC p s m args meth c cX12_writes1 2 (some .boolean) A D cI cJ cZ) {post : Int32 → mS → Prop}   (x1 : Int32) (v : Nat → Int32) (f : Nat → Nat → Int32) (g : Nat → Nat → Int64) (h : r_writes1_54L (fun r v f g => post r (v, f, g))  x1 v f g) : mG p l e (mRm 0 0) s m args below meth c A D cI cJ cZ a 2 (MQ below (va_Qi post (mB D cI cJ cZ a) A) args s 0 0 A) 54 [(0, .ref (a 0)), (1, .int x1)] [] v f g :=
  h (fun y => mG p l e (mRm 0 0) s m args below meth c A D cI cJ cZ a 2 (MQ below (va_Qi post (mB D cI cJ cZ a) A) args s 0 0 A) 54 [(0, .ref (a 0)), (1, .int (y.1))] [] (y.2.1) (y.2.2.1) (y.2.2.2)) (fun y hy => sb_writes1_54 C  (fun b0 v f g z => z) (y.1) (y.2.1) (y.2.2.1) (y.2.2.2) hy)
end S_writes1
set_option maxHeartbeats 1000000 in
set_option maxRecDepth 20000 in
theorem s_writes1 (l : Launch)  (v : Nat → Int32) (f : Nat → Nat → Int32) (g : Nat → Nat → Int64) {P : Int32 → (Nat → Int32) → (Nat → Nat → Int32) → (Nat → Nat → Int64) → Prop} (h : r_writes1 P  v f g) : mMi l yX12_writes1 cX12_writes1 2 (some .boolean) 0 0 false [] v f g (fun r w => P r w.1 w.2.1 w.2.2) := by
  intro D cI cJ cZ a sz
  refine mg_body (by decide +kernel) rfl (Nat.le_of_ble_eq_true rfl) ?_
  intro p e s m args below meth c hsz C
  clear hsz
  generalize va_A (mW cI cJ cZ a v f g) sz = A at C ⊢
  refine mg_lv (lv' := [(0, .ref (a 0))]) rfl ?_
  unfold r_writes1 at h
  refine mg_aload_n C (i := 0) rfl 0 rfl dX12_writes1_0 ?_
  refine mg_getI C (k := 97) (by decide) rfl mL_crash rfl dX12_writes1_1 ?_
  refine mg_if_ne C 74 (by decide) dX12_writes1_4 (fun c_ => ?_) (fun c_ => ?_)
  · have h := h.1 c_
    refine mg_aload_n C (i := 0) rfl 0 rfl dX12_writes1_74 ?_
    refine mg_dup C rfl dX12_writes1_75 ?_
    refine mg_getI C (k := 97) (by decide) rfl mL_crash rfl dX12_writes1_76 ?_
    refine mg_aload_n C (i := 0) rfl 0 rfl dX12_writes1_79 ?_
    refine mg_getI C (k := 97) (by decide) rfl mL_crash rfl dX12_writes1_80 ?_
    refine mg_if_le C 90 (by decide) dX12_writes1_83 (fun c_ => ?_) (fun c_ => ?_)
    · have h := h.1 c_
      refine mg_iconst C (x := nI 0) rfl dX12_writes1_90 ?_
      exact mg_sub [0] rfl (sb_writes1_91 C  ((nI 0)) ((v 97)) v f g h)
    · have h := h.2 c_
      refine mg_iconst C (x := nI 1) rfl dX12_writes1_86 ?_
      refine mg_goto C 91 (by decide) dX12_writes1_87 ?_
      exact mg_sub [0] rfl (sb_writes1_91 C  ((nI 1)) ((v 97)) v f g h)
  · have h := h.2 c_
    refine mg_aload_n C (i := 0) rfl 0 rfl dX12_writes1_7 ?_
    refine mg_iconst C (x := nI 1) rfl dX12_writes1_8 ?_
    refine mg_cast (bI true) rfl ?_
    refine mg_put C (k := 98) (by decide) rfl mL_down rfl (by decide +kernel) mT_down (bI_nar _) (bI_fit _) dX12_writes1_9 ?_
    refine mg_nmV (fun v3 e_v3 => ?_)
    have h := h v3 e_v3
    refine mg_aload_n C (i := 0) rfl 0 rfl dX12_writes1_12 ?_
    refine mg_iconst C (x := nI 0) rfl dX12_writes1_13 ?_
    refine mg_put C (k := 20) (by decide) rfl mL_buffered rfl (by decide +kernel) mT_buffered rfl rfl dX12_writes1_14 ?_
    refine mg_nmV (fun v4 e_v4 => ?_)
    have h := h v4 e_v4
    refine mg_aload_n C (i := 0) rfl 0 rfl dX12_writes1_17 ?_
    refine mg_iconst C (x := nI 0) rfl dX12_writes1_18 ?_
    refine mg_cast (bI false) rfl ?_
    refine mg_put C (k := 49) (by decide) rfl mL_merging rfl (by decide +kernel) mT_merging (bI_nar _) (bI_fit _) dX12_writes1_19 ?_
    refine mg_nmV (fun v5 e_v5 => ?_)
    have h := h v5 e_v5
    refine mg_aload_n C (i := 0) rfl 0 rfl dX12_writes1_22 ?_
    refine mg_iconst C (x := nI 0) rfl dX12_writes1_23 ?_
    refine mg_cast (bI false) rfl ?_
    refine mg_put C (k := 40) (by decide) rfl mL_isPrepared rfl (by decide +kernel) mT_isPrepared (bI_nar _) (bI_fit _) dX12_writes1_24 ?_
    refine mg_nmV (fun v6 e_v6 => ?_)
    have h := h v6 e_v6
    refine mg_aload_n C (i := 0) rfl 0 rfl dX12_writes1_27 ?_
    refine mg_iconst C (x := nI 0) rfl dX12_writes1_28 ?_
    refine mg_put C (k := 85) (by decide) rfl mL_cached rfl (by decide +kernel) mT_cached rfl rfl dX12_writes1_29 ?_
    refine mg_nmV (fun v7 e_v7 => ?_)
    have h := h v7 e_v7
    refine mg_aload_n C (i := 0) rfl 0 rfl dX12_writes1_32 ?_
    refine mg_iconst C (x := nI 0) rfl dX12_writes1_33 ?_
    refine mg_put C (k := 88) (by decide) rfl mL_hits rfl (by decide +kernel) mT_hits rfl rfl dX12_writes1_34 ?_
    refine mg_nmV (fun v8 e_v8 => ?_)
    have h := h v8 e_v8
    refine mg_aload_n C (i := 0) rfl 0 rfl dX12_writes1_37 ?_
    refine mg_iconst C (x := nI 0) rfl dX12_writes1_38 ?_
    refine mg_put C (k := 89) (by decide) rfl mL_skips rfl (by decide +kernel) mT_skips rfl rfl dX12_writes1_39 ?_
    refine mg_nmV (fun v9 e_v9 => ?_)
    have h := h v9 e_v9
    refine mg_aload_n C (i := 0) rfl 0 rfl dX12_writes1_42 ?_
    refine mg_iconst C (x := nI 0) rfl dX12_writes1_43 ?_
    refine mg_put C (k := 90) (by decide) rfl mL_taken rfl (by decide +kernel) mT_taken rfl rfl dX12_writes1_44 ?_
    refine mg_nmV (fun v10 e_v10 => ?_)
    have h := h v10 e_v10
    refine mg_aload_n C (i := 0) rfl 0 rfl dX12_writes1_47 ?_
    refine mg_iconst C (x := nI 0) rfl dX12_writes1_48 ?_
    refine mg_put C (k := 34) (by decide) rfl mL_indexed rfl (by decide +kernel) mT_indexed rfl rfl dX12_writes1_49 ?_
    refine mg_nmV (fun v11 e_v11 => ?_)
    have h := h v11 e_v11
    refine mg_iconst C (x := nI 0) rfl dX12_writes1_52 ?_
    refine mg_istore_n C (i := 1) (lv' := [(1, .int ((nI 0))), (0, .ref (a 0))]) rfl (Nat.le_of_ble_eq_true rfl) rfl dX12_writes1_53 ?_
    exact mg_sub [1, 0] rfl (sl_writes1_54 C  (((nI 0))) v11 f g h)
def r_flushes_88 (Q : Int32 → (Nat → Int32) → (Nat → Nat → Int32) → (Nat → Nat → Int64) → Prop) (R36 : Int32 → Int32 → (Nat → Int32) → (Nat → Nat → Int32) → (Nat → Nat → Int64) → Prop) (R88 : Int32 → Int32 → Int32 → (Nat → Int32) → (Nat → Nat → Int32) → (Nat → Nat → Int64) → Prop) (x1 : Int32) (x2 : Int32) (x3 : Int32) (v : Nat → Int32) (f : Nat → Nat → Int32) (g : Nat → Nat → Int64) : Prop :=
((((nI 40)) ≤ x3 →
  vp_in ((((nI 2)) * x2)) 24 ∧ (vp_in ((((nI 2)) * ((v 26)))) 4848 ∧ (∀ f10 : Nat → Nat → Int32, f10 = mU f 18 ((((nI 2)) * ((v 26)))).toNatClampNeg ((f 13 ((((nI 2)) * x2)).toNatClampNeg)) → vp_in ((((((nI 2)) * x2)) + ((nI 1)))) 24 ∧ (vp_in ((((((nI 2)) * ((v 26)))) + ((nI 1)))) 4848 ∧ (∀ f11 : Nat → Nat → Int32, f11 = mU f10 18 ((((((nI 2)) * ((v 26)))) + ((nI 1)))).toNatClampNeg ((f10 13 ((((((nI 2)) * x2)) + ((nI 1)))).toNatClampNeg)) → vp_in ((((((nI 100)) * ((v 29)))) + x2)) 20200 ∧ (∀ f12 : Nat → Nat → Int32, f12 = mU f11 19 ((((((nI 100)) * ((v 29)))) + x2)).toNatClampNeg ((v 26)) → vp_in ((((((nI 100)) * ((v 29)))) + x2)) 20200 ∧ (∀ f13 : Nat → Nat → Int32, f13 = mU f12 21 ((((((nI 100)) * ((v 29)))) + x2)).toNatClampNeg ((bI true)) → vp_in ((((((nI 100)) * ((v 29)))) + x2)) 20200 ∧ (∀ f14 : Nat → Nat → Int32, f14 = mU f13 22 ((((((nI 100)) * ((v 29)))) + x2)).toNatClampNeg ((bI true)) → ∀ v15 : Nat → Int32, v15 = upd v 26 ((((v 26)) + ((nI 1)))) → ∀ x2_16 : Int32, x2_16 = x2 + nI 1 → R36 x1 x2_16 v15 f14 g)))))))) ∧
 (¬ ((nI 40)) ≤ x3 →
  vp_in ((((((nI 40)) * x2)) + x3)) 480 ∧ (vp_in ((((((nI 40)) * ((v 26)))) + x3)) 96960 ∧ (∀ g17 : Nat → Nat → Int64, g17 = mU g 17 ((((((nI 40)) * ((v 26)))) + x3)).toNatClampNeg (g 12 ((((((nI 40)) * x2)) + x3)).toNatClampNeg) → ∀ x3_18 : Int32, x3_18 = x3 + nI 1 → R88 x1 x2 x3_18 v f g17))))
def r_flushes_88L (Q : Int32 → (Nat → Int32) → (Nat → Nat → Int32) → (Nat → Nat → Int64) → Prop) (R36 : Int32 → Int32 → (Nat → Int32) → (Nat → Nat → Int32) → (Nat → Nat → Int64) → Prop) (x1 : Int32) (x2 : Int32) (x3 : Int32) (v : Nat → Int32) (f : Nat → Nat → Int32) (g : Nat → Nat → Int64) : Prop :=
  lfp (X := Int32 × Int32 × Int32 × (Nat → Int32) × (Nat → Nat → Int32) × (Nat → Nat → Int64)) (fun P y => r_flushes_88 Q R36 (fun b0 b1 b2 v f g => P (b0, b1, b2, v, f, g)) y.1 y.2.1 y.2.2.1 y.2.2.2.1 y.2.2.2.2.1 y.2.2.2.2.2) (x1, x2, x3, v, f, g)
def r_flushes_36 (Q : Int32 → (Nat → Int32) → (Nat → Nat → Int32) → (Nat → Nat → Int64) → Prop) (R36 : Int32 → Int32 → (Nat → Int32) → (Nat → Nat → Int32) → (Nat → Nat → Int64) → Prop) (x1 : Int32) (x2 : Int32) (v : Nat → Int32) (f : Nat → Nat → Int32) (g : Nat → Nat → Int64) : Prop :=
((x1 ≤ x2 →
  vp_in ((v 29)) 202 ∧ (∀ f2 : Nat → Nat → Int32, f2 = mU f 20 ((v 29)).toNatClampNeg x1 → vp_in ((v 34)) 202 ∧ (∀ f3 : Nat → Nat → Int32, f3 = mU f2 24 ((v 34)).toNatClampNeg ((v 29)) → ∀ v4 : Nat → Int32, v4 = upd v 34 ((((v 34)) + ((nI 1)))) → ∀ v5 : Nat → Int32, v5 = upd v4 29 ((((v4 29)) + ((nI 1)))) → ∀ v6 : Nat → Int32, v6 = upd v5 20 ((nI 0)) → Q ((((v6 29)) - ((nI 1)))) v6 f3 g))) ∧
 (¬ x1 ≤ x2 →
  vp_in x2 12 ∧ (vp_in ((v 26)) 2424 ∧ (∀ f7 : Nat → Nat → Int32, f7 = mU f 14 ((v 26)).toNatClampNeg ((f 9 (x2).toNatClampNeg)) → vp_in x2 12 ∧ (vp_in ((v 26)) 2424 ∧ (∀ f8 : Nat → Nat → Int32, f8 = mU f7 15 ((v 26)).toNatClampNeg ((f7 10 (x2).toNatClampNeg)) → vp_in x2 12 ∧ (vp_in ((v 26)) 2424 ∧ (∀ f9 : Nat → Nat → Int32, f9 = mU f8 16 ((v 26)).toNatClampNeg ((f8 11 (x2).toNatClampNeg)) → r_flushes_88L Q R36 x1 x2 (((nI 0))) v f9 g))))))))
def r_flushes_36L (Q : Int32 → (Nat → Int32) → (Nat → Nat → Int32) → (Nat → Nat → Int64) → Prop)  (x1 : Int32) (x2 : Int32) (v : Nat → Int32) (f : Nat → Nat → Int32) (g : Nat → Nat → Int64) : Prop :=
  lfp (X := Int32 × Int32 × (Nat → Int32) × (Nat → Nat → Int32) × (Nat → Nat → Int64)) (fun P y => r_flushes_36 Q  (fun b0 b1 v f g => P (b0, b1, v, f, g)) y.1 y.2.1 y.2.2.1 y.2.2.2.1 y.2.2.2.2) (x1, x2, v, f, g)
def r_flushes_13 (Q : Int32 → (Nat → Int32) → (Nat → Nat → Int32) → (Nat → Nat → Int64) → Prop) (R13 : Int32 → Int32 → (Nat → Int32) → (Nat → Nat → Int32) → (Nat → Nat → Int64) → Prop) (x1 : Int32) (x2 : Int32) (v : Nat → Int32) (f : Nat → Nat → Int32) (g : Nat → Nat → Int64) : Prop :=
((x1 < x2 →
  r_flushes_36L Q  x1 (((nI 0))) v f g) ∧
 (¬ x1 < x2 →
  r_writes1 (fun r_19 v_19 f_19 g_19 => 
  ((¬ r_19 = 0 →
    ∀ x2_20 : Int32, x2_20 = x2 + nI 1 → R13 x1 x2_20 v_19 f_19 g_19) ∧
   (r_19 = 0 →
    Q (((-2))) v_19 f_19 g_19)))  v f g))
def r_flushes_13L (Q : Int32 → (Nat → Int32) → (Nat → Nat → Int32) → (Nat → Nat → Int64) → Prop)  (x1 : Int32) (x2 : Int32) (v : Nat → Int32) (f : Nat → Nat → Int32) (g : Nat → Nat → Int64) : Prop :=
  lfp (X := Int32 × Int32 × (Nat → Int32) × (Nat → Nat → Int32) × (Nat → Nat → Int64)) (fun P y => r_flushes_13 Q  (fun b0 b1 v f g => P (b0, b1, v, f, g)) y.1 y.2.1 y.2.2.1 y.2.2.2.1 y.2.2.2.2) (x1, x2, v, f, g)
def r_flushes (Q : Int32 → (Nat → Int32) → (Nat → Nat → Int32) → (Nat → Nat → Int64) → Prop)  (v : Nat → Int32) (f : Nat → Nat → Int32) (g : Nat → Nat → Int64) : Prop :=
∀ x1_1 : Int32, x1_1 = (v 20) → ((¬ x1_1 = 0 →
  r_flushes_13L Q  x1_1 (((nI 0))) v f g) ∧
 (x1_1 = 0 →
  Q (((-1))) v f g))
section S_flushes
variable {p : Program} {l : Launch} {e : Env} {s : State} {m : MethodId} {args : Array Value} {below : List Frame} {meth : Method} {c : Code} {A : Nat → Prop} {D : va_G} {cI cJ cZ : ClassId} {a : Nat → Nat}
set_option maxRecDepth 20000 in
theorem sb_flushes_88 (C : mC p s m args meth c cX12_flushes 4 (some .int) A D cI cJ cZ) {post : Int32 → mS → Prop} {R36 : Int32 → Int32 → (Nat → Int32) → (Nat → Nat → Int32) → (Nat → Nat → Int64) → Prop} {R88 : Int32 → Int32 → Int32 → (Nat → Int32) → (Nat → Nat → Int32) → (Nat → Nat → Int64) → Prop} (hR36 : ∀ (x1 : Int32) (x2 : Int32) (v : Nat → Int32) (f : Nat → Nat → Int32) (g : Nat → Nat → Int64), R36 x1 x2 v f g → mG p l e (mRm 1 21) s m args below meth c A D cI cJ cZ a 4 (MQ below (va_Qi post (mB D cI cJ cZ a) A) args s 0 0 A) 36 [(0, .ref (a 0)), (1, .int x1), (2, .int x2)] [] v f g) (hR88 : ∀ (x1 : Int32) (x2 : Int32) (x3 : Int32) (v : Nat → Int32) (f : Nat → Nat → Int32) (g : Nat → Nat → Int64), R88 x1 x2 x3 v f g → mG p l e (mRm 1 21) s m args below meth c A D cI cJ cZ a 4 (MQ below (va_Qi post (mB D cI cJ cZ a) A) args s 0 0 A) 88 [(0, .ref (a 0)), (1, .int x1), (2, .int x2), (3, .int x3)] [] v f g) (x1 : Int32) (x2 : Int32) (x3 : Int32) (v : Nat → Int32) (f : Nat → Nat → Int32) (g : Nat → Nat → Int64) (h : r_flushes_88 (fun r v f g => post r (v, f, g)) R36 R88 x1 x2 x3 v f g) : mG p l e (mRm 1 21) s m args below meth c A D cI cJ cZ a 4 (MQ below (va_Qi post (mB D cI cJ cZ a) A) args s 0 0 A) 88 [(0, .ref (a 0)), (1, .int x1), (2, .int x2), (3, .int x3)] [] v f g := by
  unfold r_flushes_88 at h
  refine mg_iload_n C (i := 3) rfl 3 rfl dX12_flushes_88 ?_
  refine mg_bipush C (x := nI 40) rfl dX12_flushes_89 ?_
  refine mg_icmp_ge C 125 (by decide) dX12_flushes_91 (fun c_ => ?_) (fun c_ => ?_)
  · have h := h.1 c_
    refine mg_aload_n C (i := 0) rfl 0 rfl dX12_flushes_125 ?_
    refine mg_arr C 18 (by decide) (by decide) rfl mL_places rfl dX12_flushes_126 ?_
    refine mg_iconst C (x := nI 2) rfl dX12_flushes_129 ?_
    refine mg_aload_n C (i := 0) rfl 0 rfl dX12_flushes_130 ?_
    refine mg_getI C (k := 26) (by decide) rfl mL_documents rfl dX12_flushes_131 ?_
    refine mg_imul C dX12_flushes_134 ?_
    refine mg_aload_n C (i := 0) rfl 0 rfl dX12_flushes_135 ?_
    refine mg_arr C 13 (by decide) (by decide) rfl mL_bufferPlaces rfl dX12_flushes_136 ?_
    refine mg_iconst C (x := nI 2) rfl dX12_flushes_139 ?_
    refine mg_iload_n C (i := 2) rfl 2 rfl dX12_flushes_140 ?_
    refine mg_imul C dX12_flushes_141 ?_
    obtain ⟨hc_142, h⟩ := h
    refine mg_ialoadR C (n := 24) 13 (by decide) (by decide) rfl rfl hc_142 dX12_flushes_142 ?_
    obtain ⟨hc_143, h⟩ := h
    refine mg_iastoreR C (n := 4848) 18 (by decide) (by decide) rfl rfl hc_143 dX12_flushes_143 ?_
    refine mg_nmF (fun f10 e_f10 => ?_)
    have h := h f10 e_f10
    refine mg_aload_n C (i := 0) rfl 0 rfl dX12_flushes_144 ?_
    refine mg_arr C 18 (by decide) (by decide) rfl mL_places rfl dX12_flushes_145 ?_
    refine mg_iconst C (x := nI 2) rfl dX12_flushes_148 ?_
    refine mg_aload_n C (i := 0) rfl 0 rfl dX12_flushes_149 ?_
    refine mg_getI C (k := 26) (by decide) rfl mL_documents rfl dX12_flushes_150 ?_
    refine mg_imul C dX12_flushes_153 ?_
    refine mg_iconst C (x := nI 1) rfl dX12_flushes_154 ?_
    refine mg_iadd C dX12_flushes_155 ?_
    refine mg_aload_n C (i := 0) rfl 0 rfl dX12_flushes_156 ?_
    refine mg_arr C 13 (by decide) (by decide) rfl mL_bufferPlaces rfl dX12_flushes_157 ?_
    refine mg_iconst C (x := nI 2) rfl dX12_flushes_160 ?_
    refine mg_iload_n C (i := 2) rfl 2 rfl dX12_flushes_161 ?_
    refine mg_imul C dX12_flushes_162 ?_
    refine mg_iconst C (x := nI 1) rfl dX12_flushes_163 ?_
    refine mg_iadd C dX12_flushes_164 ?_
    obtain ⟨hc_165, h⟩ := h
    refine mg_ialoadR C (n := 24) 13 (by decide) (by decide) rfl rfl hc_165 dX12_flushes_165 ?_
    obtain ⟨hc_166, h⟩ := h
    refine mg_iastoreR C (n := 4848) 18 (by decide) (by decide) rfl rfl hc_166 dX12_flushes_166 ?_
    refine mg_nmF (fun f11 e_f11 => ?_)
    have h := h f11 e_f11
    refine mg_aload_n C (i := 0) rfl 0 rfl dX12_flushes_167 ?_
    refine mg_arr C 19 (by decide) (by decide) rfl mL_held rfl dX12_flushes_168 ?_
    refine mg_bipush C (x := nI 100) rfl dX12_flushes_171 ?_
    refine mg_aload_n C (i := 0) rfl 0 rfl dX12_flushes_173 ?_
    refine mg_getI C (k := 29) (by decide) rfl mL_made rfl dX12_flushes_174 ?_
    refine mg_imul C dX12_flushes_177 ?_
    refine mg_iload_n C (i := 2) rfl 2 rfl dX12_flushes_178 ?_
    refine mg_iadd C dX12_flushes_179 ?_
    refine mg_aload_n C (i := 0) rfl 0 rfl dX12_flushes_180 ?_
    refine mg_getI C (k := 26) (by decide) rfl mL_documents rfl dX12_flushes_181 ?_
    obtain ⟨hc_184, h⟩ := h
    refine mg_iastoreR C (n := 20200) 19 (by decide) (by decide) rfl rfl hc_184 dX12_flushes_184 ?_
    refine mg_nmF (fun f12 e_f12 => ?_)
    have h := h f12 e_f12
    refine mg_aload_n C (i := 0) rfl 0 rfl dX12_flushes_185 ?_
    refine mg_arr C 21 (by decide) (by decide) rfl mL_live rfl dX12_flushes_186 ?_
    refine mg_bipush C (x := nI 100) rfl dX12_flushes_189 ?_
    refine mg_aload_n C (i := 0) rfl 0 rfl dX12_flushes_191 ?_
    refine mg_getI C (k := 29) (by decide) rfl mL_made rfl dX12_flushes_192 ?_
    refine mg_imul C dX12_flushes_195 ?_
    refine mg_iload_n C (i := 2) rfl 2 rfl dX12_flushes_196 ?_
    refine mg_iadd C dX12_flushes_197 ?_
    refine mg_iconst C (x := nI 1) rfl dX12_flushes_198 ?_
    obtain ⟨hc_199, h⟩ := h
    refine mg_cast (bI true) rfl ?_
    refine mg_bastoreR C (n := 20200) 21 (by decide) (by decide) rfl rfl hc_199 (bI_vp _) dX12_flushes_199 ?_
    refine mg_nmF (fun f13 e_f13 => ?_)
    have h := h f13 e_f13
    refine mg_aload_n C (i := 0) rfl 0 rfl dX12_flushes_200 ?_
    refine mg_arr C 22 (by decide) (by decide) rfl mL_wrote rfl dX12_flushes_201 ?_
    refine mg_bipush C (x := nI 100) rfl dX12_flushes_204 ?_
    refine mg_aload_n C (i := 0) rfl 0 rfl dX12_flushes_206 ?_
    refine mg_getI C (k := 29) (by decide) rfl mL_made rfl dX12_flushes_207 ?_
    refine mg_imul C dX12_flushes_210 ?_
    refine mg_iload_n C (i := 2) rfl 2 rfl dX12_flushes_211 ?_
    refine mg_iadd C dX12_flushes_212 ?_
    refine mg_iconst C (x := nI 1) rfl dX12_flushes_213 ?_
    obtain ⟨hc_214, h⟩ := h
    refine mg_cast (bI true) rfl ?_
    refine mg_bastoreR C (n := 20200) 22 (by decide) (by decide) rfl rfl hc_214 (bI_vp _) dX12_flushes_214 ?_
    refine mg_nmF (fun f14 e_f14 => ?_)
    have h := h f14 e_f14
    refine mg_aload_n C (i := 0) rfl 0 rfl dX12_flushes_215 ?_
    refine mg_dup C rfl dX12_flushes_216 ?_
    refine mg_getI C (k := 26) (by decide) rfl mL_documents rfl dX12_flushes_217 ?_
    refine mg_iconst C (x := nI 1) rfl dX12_flushes_220 ?_
    refine mg_iadd C dX12_flushes_221 ?_
    refine mg_put C (k := 26) (by decide) rfl mL_documents rfl (by decide +kernel) mT_documents rfl rfl dX12_flushes_222 ?_
    refine mg_nmV (fun v15 e_v15 => ?_)
    have h := h v15 e_v15
    obtain ⟨x2_16, e_x2_16⟩ : ∃ z : Int32, z = x2 + nI 1 := ⟨_, rfl⟩
    have h := h x2_16 e_x2_16
    refine mg_iinc C (lv' := [(2, .int x2_16), (0, .ref (a 0)), (1, .int x1), (3, .int x3)]) 2 rfl (by rw [e_x2_16]; rfl) (Nat.le_of_ble_eq_true rfl) rfl dX12_flushes_225 ?_
    refine mg_goto C 36 (by decide) dX12_flushes_228 ?_
    exact mg_sub [1, 2, 0] rfl (hR36 x1 x2_16 v15 f14 g h)
  · have h := h.2 c_
    refine mg_aload_n C (i := 0) rfl 0 rfl dX12_flushes_94 ?_
    refine mg_arr C 17 (by decide) (by decide) rfl mL_stems rfl dX12_flushes_95 ?_
    refine mg_bipush C (x := nI 40) rfl dX12_flushes_98 ?_
    refine mg_aload_n C (i := 0) rfl 0 rfl dX12_flushes_100 ?_
    refine mg_getI C (k := 26) (by decide) rfl mL_documents rfl dX12_flushes_101 ?_
    refine mg_imul C dX12_flushes_104 ?_
    refine mg_iload_n C (i := 3) rfl 3 rfl dX12_flushes_105 ?_
    refine mg_iadd C dX12_flushes_106 ?_
    refine mg_aload_n C (i := 0) rfl 0 rfl dX12_flushes_107 ?_
    refine mg_arr C 12 (by decide) (by decide) rfl mL_bufferStems rfl dX12_flushes_108 ?_
    refine mg_bipush C (x := nI 40) rfl dX12_flushes_111 ?_
    refine mg_iload_n C (i := 2) rfl 2 rfl dX12_flushes_113 ?_
    refine mg_imul C dX12_flushes_114 ?_
    refine mg_iload_n C (i := 3) rfl 3 rfl dX12_flushes_115 ?_
    refine mg_iadd C dX12_flushes_116 ?_
    obtain ⟨hc_117, h⟩ := h
    refine mg_laloadR C (n := 480) 12 (by decide) (by decide) rfl rfl hc_117 dX12_flushes_117 ?_
    obtain ⟨hc_118, h⟩ := h
    refine mg_lastoreR C (n := 96960) 17 (by decide) (by decide) rfl rfl hc_118 dX12_flushes_118 ?_
    refine mg_nmG (fun g17 e_g17 => ?_)
    have h := h g17 e_g17
    obtain ⟨x3_18, e_x3_18⟩ : ∃ z : Int32, z = x3 + nI 1 := ⟨_, rfl⟩
    have h := h x3_18 e_x3_18
    refine mg_iinc C (lv' := [(3, .int x3_18), (0, .ref (a 0)), (1, .int x1), (2, .int x2)]) 3 rfl (by rw [e_x3_18]; rfl) (Nat.le_of_ble_eq_true rfl) rfl dX12_flushes_119 ?_
    refine mg_goto C 88 (by decide) dX12_flushes_122 ?_
    exact mg_sub [1, 2, 3, 0] rfl (hR88 x1 x2 x3_18 v f g17 h)
set_option maxRecDepth 20000 in
theorem sl_flushes_88 (C : mC p s m args meth c cX12_flushes 4 (some .int) A D cI cJ cZ) {post : Int32 → mS → Prop} {R36 : Int32 → Int32 → (Nat → Int32) → (Nat → Nat → Int32) → (Nat → Nat → Int64) → Prop} (hR36 : ∀ (x1 : Int32) (x2 : Int32) (v : Nat → Int32) (f : Nat → Nat → Int32) (g : Nat → Nat → Int64), R36 x1 x2 v f g → mG p l e (mRm 1 21) s m args below meth c A D cI cJ cZ a 4 (MQ below (va_Qi post (mB D cI cJ cZ a) A) args s 0 0 A) 36 [(0, .ref (a 0)), (1, .int x1), (2, .int x2)] [] v f g) (x1 : Int32) (x2 : Int32) (x3 : Int32) (v : Nat → Int32) (f : Nat → Nat → Int32) (g : Nat → Nat → Int64) (h : r_flushes_88L (fun r v f g => post r (v, f, g)) R36 x1 x2 x3 v f g) : mG p l e (mRm 1 21) s m args below meth c A D cI cJ cZ a 4 (MQ below (va_Qi post (mB D cI cJ cZ a) A) args s 0 0 A) 88 [(0, .ref (a 0)), (1, .int x1), (2, .int x2), (3, .int x3)] [] v f g :=
  h (fun y => mG p l e (mRm 1 21) s m args below meth c A D cI cJ cZ a 4 (MQ below (va_Qi post (mB D cI cJ cZ a) A) args s 0 0 A) 88 [(0, .ref (a 0)), (1, .int (y.1)), (2, .int (y.2.1)), (3, .int (y.2.2.1))] [] (y.2.2.2.1) (y.2.2.2.2.1) (y.2.2.2.2.2)) (fun y hy => sb_flushes_88 C hR36 (fun b0 b1 b2 v f g z => z) (y.1) (y.2.1) (y.2.2.1) (y.2.2.2.1) (y.2.2.2.2.1) (y.2.2.2.2.2) hy)
set_option maxRecDepth 20000 in
theorem sb_flushes_36 (C : mC p s m args meth c cX12_flushes 4 (some .int) A D cI cJ cZ) {post : Int32 → mS → Prop} {R36 : Int32 → Int32 → (Nat → Int32) → (Nat → Nat → Int32) → (Nat → Nat → Int64) → Prop} (hR36 : ∀ (x1 : Int32) (x2 : Int32) (v : Nat → Int32) (f : Nat → Nat → Int32) (g : Nat → Nat → Int64), R36 x1 x2 v f g → mG p l e (mRm 1 21) s m args below meth c A D cI cJ cZ a 4 (MQ below (va_Qi post (mB D cI cJ cZ a) A) args s 0 0 A) 36 [(0, .ref (a 0)), (1, .int x1), (2, .int x2)] [] v f g) (x1 : Int32) (x2 : Int32) (v : Nat → Int32) (f : Nat → Nat → Int32) (g : Nat → Nat → Int64) (h : r_flushes_36 (fun r v f g => post r (v, f, g)) R36 x1 x2 v f g) : mG p l e (mRm 1 21) s m args below meth c A D cI cJ cZ a 4 (MQ below (va_Qi post (mB D cI cJ cZ a) A) args s 0 0 A) 36 [(0, .ref (a 0)), (1, .int x1), (2, .int x2)] [] v f g := by
  unfold r_flushes_36 at h
  refine mg_iload_n C (i := 2) rfl 2 rfl dX12_flushes_36 ?_
  refine mg_iload_n C (i := 1) rfl 1 rfl dX12_flushes_37 ?_
  refine mg_icmp_ge C 231 (by decide) dX12_flushes_38 (fun c_ => ?_) (fun c_ => ?_)
  · have h := h.1 c_
    refine mg_aload_n C (i := 0) rfl 0 rfl dX12_flushes_231 ?_
    refine mg_arr C 20 (by decide) (by decide) rfl mL_sizes rfl dX12_flushes_232 ?_
    refine mg_aload_n C (i := 0) rfl 0 rfl dX12_flushes_235 ?_
    refine mg_getI C (k := 29) (by decide) rfl mL_made rfl dX12_flushes_236 ?_
    refine mg_iload_n C (i := 1) rfl 1 rfl dX12_flushes_239 ?_
    obtain ⟨hc_240, h⟩ := h
    refine mg_iastoreR C (n := 202) 20 (by decide) (by decide) rfl rfl hc_240 dX12_flushes_240 ?_
    refine mg_nmF (fun f2 e_f2 => ?_)
    have h := h f2 e_f2
    refine mg_aload_n C (i := 0) rfl 0 rfl dX12_flushes_241 ?_
    refine mg_arr C 24 (by decide) (by decide) rfl mL_index rfl dX12_flushes_242 ?_
    refine mg_aload_n C (i := 0) rfl 0 rfl dX12_flushes_245 ?_
    refine mg_getI C (k := 34) (by decide) rfl mL_indexed rfl dX12_flushes_246 ?_
    refine mg_aload_n C (i := 0) rfl 0 rfl dX12_flushes_249 ?_
    refine mg_getI C (k := 29) (by decide) rfl mL_made rfl dX12_flushes_250 ?_
    obtain ⟨hc_253, h⟩ := h
    refine mg_iastoreR C (n := 202) 24 (by decide) (by decide) rfl rfl hc_253 dX12_flushes_253 ?_
    refine mg_nmF (fun f3 e_f3 => ?_)
    have h := h f3 e_f3
    refine mg_aload_n C (i := 0) rfl 0 rfl dX12_flushes_254 ?_
    refine mg_dup C rfl dX12_flushes_255 ?_
    refine mg_getI C (k := 34) (by decide) rfl mL_indexed rfl dX12_flushes_256 ?_
    refine mg_iconst C (x := nI 1) rfl dX12_flushes_259 ?_
    refine mg_iadd C dX12_flushes_260 ?_
    refine mg_put C (k := 34) (by decide) rfl mL_indexed rfl (by decide +kernel) mT_indexed rfl rfl dX12_flushes_261 ?_
    refine mg_nmV (fun v4 e_v4 => ?_)
    have h := h v4 e_v4
    refine mg_aload_n C (i := 0) rfl 0 rfl dX12_flushes_264 ?_
    refine mg_dup C rfl dX12_flushes_265 ?_
    refine mg_getI C (k := 29) (by decide) rfl mL_made rfl dX12_flushes_266 ?_
    refine mg_iconst C (x := nI 1) rfl dX12_flushes_269 ?_
    refine mg_iadd C dX12_flushes_270 ?_
    refine mg_put C (k := 29) (by decide) rfl mL_made rfl (by decide +kernel) mT_made rfl rfl dX12_flushes_271 ?_
    refine mg_nmV (fun v5 e_v5 => ?_)
    have h := h v5 e_v5
    refine mg_aload_n C (i := 0) rfl 0 rfl dX12_flushes_274 ?_
    refine mg_iconst C (x := nI 0) rfl dX12_flushes_275 ?_
    refine mg_put C (k := 20) (by decide) rfl mL_buffered rfl (by decide +kernel) mT_buffered rfl rfl dX12_flushes_276 ?_
    refine mg_nmV (fun v6 e_v6 => ?_)
    have h := h v6 e_v6
    refine mg_aload_n C (i := 0) rfl 0 rfl dX12_flushes_279 ?_
    refine mg_getI C (k := 29) (by decide) rfl mL_made rfl dX12_flushes_280 ?_
    refine mg_iconst C (x := nI 1) rfl dX12_flushes_283 ?_
    refine mg_isub C dX12_flushes_284 ?_
    exact mg_iret C h dX12_flushes_285
  · have h := h.2 c_
    refine mg_aload_n C (i := 0) rfl 0 rfl dX12_flushes_41 ?_
    refine mg_arr C 14 (by decide) (by decide) rfl mL_keys rfl dX12_flushes_42 ?_
    refine mg_aload_n C (i := 0) rfl 0 rfl dX12_flushes_45 ?_
    refine mg_getI C (k := 26) (by decide) rfl mL_documents rfl dX12_flushes_46 ?_
    refine mg_aload_n C (i := 0) rfl 0 rfl dX12_flushes_49 ?_
    refine mg_arr C 9 (by decide) (by decide) rfl mL_bufferKeys rfl dX12_flushes_50 ?_
    refine mg_iload_n C (i := 2) rfl 2 rfl dX12_flushes_53 ?_
    obtain ⟨hc_54, h⟩ := h
    refine mg_ialoadR C (n := 12) 9 (by decide) (by decide) rfl rfl hc_54 dX12_flushes_54 ?_
    obtain ⟨hc_55, h⟩ := h
    refine mg_iastoreR C (n := 2424) 14 (by decide) (by decide) rfl rfl hc_55 dX12_flushes_55 ?_
    refine mg_nmF (fun f7 e_f7 => ?_)
    have h := h f7 e_f7
    refine mg_aload_n C (i := 0) rfl 0 rfl dX12_flushes_56 ?_
    refine mg_arr C 15 (by decide) (by decide) rfl mL_categories rfl dX12_flushes_57 ?_
    refine mg_aload_n C (i := 0) rfl 0 rfl dX12_flushes_60 ?_
    refine mg_getI C (k := 26) (by decide) rfl mL_documents rfl dX12_flushes_61 ?_
    refine mg_aload_n C (i := 0) rfl 0 rfl dX12_flushes_64 ?_
    refine mg_arr C 10 (by decide) (by decide) rfl mL_bufferCategories rfl dX12_flushes_65 ?_
    refine mg_iload_n C (i := 2) rfl 2 rfl dX12_flushes_68 ?_
    obtain ⟨hc_69, h⟩ := h
    refine mg_ialoadR C (n := 12) 10 (by decide) (by decide) rfl rfl hc_69 dX12_flushes_69 ?_
    obtain ⟨hc_70, h⟩ := h
    refine mg_iastoreR C (n := 2424) 15 (by decide) (by decide) rfl rfl hc_70 dX12_flushes_70 ?_
    refine mg_nmF (fun f8 e_f8 => ?_)
    have h := h f8 e_f8
    refine mg_aload_n C (i := 0) rfl 0 rfl dX12_flushes_71 ?_
    refine mg_arr C 16 (by decide) (by decide) rfl mL_numbers rfl dX12_flushes_72 ?_
    refine mg_aload_n C (i := 0) rfl 0 rfl dX12_flushes_75 ?_
    refine mg_getI C (k := 26) (by decide) rfl mL_documents rfl dX12_flushes_76 ?_
    refine mg_aload_n C (i := 0) rfl 0 rfl dX12_flushes_79 ?_
    refine mg_arr C 11 (by decide) (by decide) rfl mL_bufferNumbers rfl dX12_flushes_80 ?_
    refine mg_iload_n C (i := 2) rfl 2 rfl dX12_flushes_83 ?_
    obtain ⟨hc_84, h⟩ := h
    refine mg_ialoadR C (n := 12) 11 (by decide) (by decide) rfl rfl hc_84 dX12_flushes_84 ?_
    obtain ⟨hc_85, h⟩ := h
    refine mg_iastoreR C (n := 2424) 16 (by decide) (by decide) rfl rfl hc_85 dX12_flushes_85 ?_
    refine mg_nmF (fun f9 e_f9 => ?_)
    have h := h f9 e_f9
    refine mg_iconst C (x := nI 0) rfl dX12_flushes_86 ?_
    refine mg_istore_n C (i := 3) (lv' := [(3, .int ((nI 0))), (0, .ref (a 0)), (1, .int x1), (2, .int x2)]) rfl (Nat.le_of_ble_eq_true rfl) rfl dX12_flushes_87 ?_
    exact mg_sub [1, 2, 3, 0] rfl (sl_flushes_88 C hR36 x1 x2 (((nI 0))) v f9 g h)
set_option maxRecDepth 20000 in
theorem sl_flushes_36 (C : mC p s m args meth c cX12_flushes 4 (some .int) A D cI cJ cZ) {post : Int32 → mS → Prop}   (x1 : Int32) (x2 : Int32) (v : Nat → Int32) (f : Nat → Nat → Int32) (g : Nat → Nat → Int64) (h : r_flushes_36L (fun r v f g => post r (v, f, g))  x1 x2 v f g) : mG p l e (mRm 1 21) s m args below meth c A D cI cJ cZ a 4 (MQ below (va_Qi post (mB D cI cJ cZ a) A) args s 0 0 A) 36 [(0, .ref (a 0)), (1, .int x1), (2, .int x2)] [] v f g :=
  h (fun y => mG p l e (mRm 1 21) s m args below meth c A D cI cJ cZ a 4 (MQ below (va_Qi post (mB D cI cJ cZ a) A) args s 0 0 A) 36 [(0, .ref (a 0)), (1, .int (y.1)), (2, .int (y.2.1))] [] (y.2.2.1) (y.2.2.2.1) (y.2.2.2.2)) (fun y hy => sb_flushes_36 C  (fun b0 b1 v f g z => z) (y.1) (y.2.1) (y.2.2.1) (y.2.2.2.1) (y.2.2.2.2) hy)
set_option maxRecDepth 20000 in
theorem sb_flushes_13 (C : mC p s m args meth c cX12_flushes 4 (some .int) A D cI cJ cZ) {post : Int32 → mS → Prop} {R13 : Int32 → Int32 → (Nat → Int32) → (Nat → Nat → Int32) → (Nat → Nat → Int64) → Prop} (hR13 : ∀ (x1 : Int32) (x2 : Int32) (v : Nat → Int32) (f : Nat → Nat → Int32) (g : Nat → Nat → Int64), R13 x1 x2 v f g → mG p l e (mRm 1 21) s m args below meth c A D cI cJ cZ a 4 (MQ below (va_Qi post (mB D cI cJ cZ a) A) args s 0 0 A) 13 [(0, .ref (a 0)), (1, .int x1), (2, .int x2)] [] v f g) (x1 : Int32) (x2 : Int32) (v : Nat → Int32) (f : Nat → Nat → Int32) (g : Nat → Nat → Int64) (h : r_flushes_13 (fun r v f g => post r (v, f, g)) R13 x1 x2 v f g) : mG p l e (mRm 1 21) s m args below meth c A D cI cJ cZ a 4 (MQ below (va_Qi post (mB D cI cJ cZ a) A) args s 0 0 A) 13 [(0, .ref (a 0)), (1, .int x1), (2, .int x2)] [] v f g := by
  unfold r_flushes_13 at h
  refine mg_iload_n C (i := 2) rfl 2 rfl dX12_flushes_13 ?_
  refine mg_iload_n C (i := 1) rfl 1 rfl dX12_flushes_14 ?_
  refine mg_icmp_gt C 34 (by decide) dX12_flushes_15 (fun c_ => ?_) (fun c_ => ?_)
  · have h := h.1 c_
    refine mg_iconst C (x := nI 0) rfl dX12_flushes_34 ?_
    refine mg_istore_n C (i := 2) (lv' := [(2, .int ((nI 0))), (0, .ref (a 0)), (1, .int x1)]) rfl (Nat.le_of_ble_eq_true rfl) rfl dX12_flushes_35 ?_
    exact mg_sub [1, 2, 0] rfl (sl_flushes_36 C  x1 (((nI 0))) v f g h)
  · have h := h.2 c_
    refine mg_aload_n C (i := 0) rfl 0 rfl dX12_flushes_18 ?_
    refine mg_calliW C (s_writes1 l  v f g h) mCal_writes1 rfl ⟨by decide, by decide⟩ rfl (Nat.le_of_ble_eq_true rfl) dX12_flushes_19 (fun r_19 v_19 f_19 g_19 h => ?_)
    refine mg_if_ne C 28 (by decide) dX12_flushes_22 (fun c_ => ?_) (fun c_ => ?_)
    · have h := h.1 c_
      obtain ⟨x2_20, e_x2_20⟩ : ∃ z : Int32, z = x2 + nI 1 := ⟨_, rfl⟩
      have h := h x2_20 e_x2_20
      refine mg_iinc C (lv' := [(2, .int x2_20), (0, .ref (a 0)), (1, .int x1)]) 2 rfl (by rw [e_x2_20]; rfl) (Nat.le_of_ble_eq_true rfl) rfl dX12_flushes_28 ?_
      refine mg_goto C 13 (by decide) dX12_flushes_31 ?_
      exact mg_sub [1, 2, 0] rfl (hR13 x1 x2_20 v_19 f_19 g_19 h)
    · have h := h.2 c_
      refine mg_bipush C (x := (-2)) rfl dX12_flushes_25 ?_
      exact mg_iret C h dX12_flushes_27
set_option maxRecDepth 20000 in
theorem sl_flushes_13 (C : mC p s m args meth c cX12_flushes 4 (some .int) A D cI cJ cZ) {post : Int32 → mS → Prop}   (x1 : Int32) (x2 : Int32) (v : Nat → Int32) (f : Nat → Nat → Int32) (g : Nat → Nat → Int64) (h : r_flushes_13L (fun r v f g => post r (v, f, g))  x1 x2 v f g) : mG p l e (mRm 1 21) s m args below meth c A D cI cJ cZ a 4 (MQ below (va_Qi post (mB D cI cJ cZ a) A) args s 0 0 A) 13 [(0, .ref (a 0)), (1, .int x1), (2, .int x2)] [] v f g :=
  h (fun y => mG p l e (mRm 1 21) s m args below meth c A D cI cJ cZ a 4 (MQ below (va_Qi post (mB D cI cJ cZ a) A) args s 0 0 A) 13 [(0, .ref (a 0)), (1, .int (y.1)), (2, .int (y.2.1))] [] (y.2.2.1) (y.2.2.2.1) (y.2.2.2.2)) (fun y hy => sb_flushes_13 C  (fun b0 b1 v f g z => z) (y.1) (y.2.1) (y.2.2.1) (y.2.2.2.1) (y.2.2.2.2) hy)
end S_flushes
set_option maxHeartbeats 1000000 in
set_option maxRecDepth 20000 in
theorem s_flushes (l : Launch)  (v : Nat → Int32) (f : Nat → Nat → Int32) (g : Nat → Nat → Int64) {P : Int32 → (Nat → Int32) → (Nat → Nat → Int32) → (Nat → Nat → Int64) → Prop} (h : r_flushes P  v f g) : mMi l yX12_flushes cX12_flushes 4 (some .int) 1 21 false [] v f g (fun r w => P r w.1 w.2.1 w.2.2) := by
  intro D cI cJ cZ a sz
  refine mg_body (by decide +kernel) rfl (Nat.le_of_ble_eq_true rfl) ?_
  intro p e s m args below meth c hsz C
  clear hsz
  generalize va_A (mW cI cJ cZ a v f g) sz = A at C ⊢
  refine mg_lv (lv' := [(0, .ref (a 0))]) rfl ?_
  unfold r_flushes at h
  refine mg_aload_n C (i := 0) rfl 0 rfl dX12_flushes_0 ?_
  refine mg_getI C (k := 20) (by decide) rfl mL_buffered rfl dX12_flushes_1 ?_
  refine mg_nmI (fun x1_1 e_x1_1 => ?_)
  have h := h x1_1 e_x1_1
  refine mg_istore_n C (i := 1) (lv' := [(1, .int x1_1), (0, .ref (a 0))]) rfl (Nat.le_of_ble_eq_true rfl) rfl dX12_flushes_4 ?_
  refine mg_iload_n C (i := 1) rfl 0 rfl dX12_flushes_5 ?_
  refine mg_if_ne C 11 (by decide) dX12_flushes_6 (fun c_ => ?_) (fun c_ => ?_)
  · have h := h.1 c_
    refine mg_iconst C (x := nI 0) rfl dX12_flushes_11 ?_
    refine mg_istore_n C (i := 2) (lv' := [(2, .int ((nI 0))), (1, .int x1_1), (0, .ref (a 0))]) rfl (Nat.le_of_ble_eq_true rfl) rfl dX12_flushes_12 ?_
    exact mg_sub [2, 1, 0] rfl (sl_flushes_13 C  x1_1 (((nI 0))) v f g h)
  · have h := h.2 c_
    refine mg_iconst C (x := (-1)) rfl dX12_flushes_9 ?_
    exact mg_iret C h dX12_flushes_10
def r_flush_23 (Q : Int32 → (Nat → Int32) → (Nat → Nat → Int32) → (Nat → Nat → Int64) → Prop)  (t0 : Int32) (v : Nat → Int32) (f : Nat → Nat → Int32) (g : Nat → Nat → Int64) : Prop :=
r_goes (fun r_1 v_1 f_1 g_1 => 
((r_1 = 0 →
  Q ((nI 0)) v_1 f_1 g_1) ∧
 (¬ r_1 = 0 →
  r_flushes (fun r_2 v_2 f_2 g_2 => 
  Q r_2 v_2 f_2 g_2)  v_1 f_1 g_1))) t0 ((nI 1)) ((nI 1)) v f g
def r_flush_22 (Q : Int32 → (Nat → Int32) → (Nat → Nat → Int32) → (Nat → Nat → Int64) → Prop)   (v : Nat → Int32) (f : Nat → Nat → Int32) (g : Nat → Nat → Int64) : Prop :=
r_flush_23 Q  ((nI 0)) v f g
def r_flush (Q : Int32 → (Nat → Int32) → (Nat → Nat → Int32) → (Nat → Nat → Int64) → Prop)  (v : Nat → Int32) (f : Nat → Nat → Int32) (g : Nat → Nat → Int64) : Prop :=
((¬ ((v 98)) = 0 →
  r_flush_22 Q  v f g) ∧
 (((v 98)) = 0 →
  ((((nI 200)) ≤ ((v 29)) →
    r_flush_22 Q  v f g) ∧
   (¬ ((nI 200)) ≤ ((v 29)) →
    r_flush_23 Q  ((nI 1)) v f g))))
section S_flush
variable {p : Program} {l : Launch} {e : Env} {s : State} {m : MethodId} {args : Array Value} {below : List Frame} {meth : Method} {c : Code} {A : Nat → Prop} {D : va_G} {cI cJ cZ : ClassId} {a : Nat → Nat}
set_option maxRecDepth 20000 in
theorem sb_flush_23 (C : mC p s m args meth c cX12_flush 1 (some .int) A D cI cJ cZ) {post : Int32 → mS → Prop}   (t0 : Int32) (v : Nat → Int32) (f : Nat → Nat → Int32) (g : Nat → Nat → Int64) (h : r_flush_23 (fun r v f g => post r (v, f, g))  t0 v f g) : mG p l e (mRm 2 44) s m args below meth c A D cI cJ cZ a 1 (MQ below (va_Qi post (mB D cI cJ cZ a) A) args s 0 0 A) 23 [(0, .ref (a 0))] [.int t0, .ref (a 0)] v f g := by
  unfold r_flush_23 at h
  refine mg_iconst C (x := nI 1) rfl dX12_flush_23 ?_
  refine mg_iconst C (x := nI 1) rfl dX12_flush_24 ?_
  refine mg_calliW C (s_goes l t0 ((nI 1)) ((nI 1)) v f g h) mCal_goes rfl ⟨by decide, by decide⟩ rfl (Nat.le_of_ble_eq_true rfl) dX12_flush_25 (fun r_1 v_1 f_1 g_1 h => ?_)
  refine mg_if_eq C 38 (by decide) dX12_flush_28 (fun c_ => ?_) (fun c_ => ?_)
  · have h := h.1 c_
    refine mg_iconst C (x := nI 0) rfl dX12_flush_38 ?_
    exact mg_iret C h dX12_flush_39
  · have h := h.2 c_
    refine mg_aload_n C (i := 0) rfl 0 rfl dX12_flush_31 ?_
    refine mg_calliW C (s_flushes l  v_1 f_1 g_1 h) mCal_flushes rfl ⟨by decide, by decide⟩ rfl (Nat.le_of_ble_eq_true rfl) dX12_flush_32 (fun r_2 v_2 f_2 g_2 h => ?_)
    refine mg_goto C 39 (by decide) dX12_flush_35 ?_
    exact mg_iret C h dX12_flush_39
set_option maxRecDepth 20000 in
theorem sb_flush_22 (C : mC p s m args meth c cX12_flush 1 (some .int) A D cI cJ cZ) {post : Int32 → mS → Prop}    (v : Nat → Int32) (f : Nat → Nat → Int32) (g : Nat → Nat → Int64) (h : r_flush_22 (fun r v f g => post r (v, f, g))   v f g) : mG p l e (mRm 2 44) s m args below meth c A D cI cJ cZ a 1 (MQ below (va_Qi post (mB D cI cJ cZ a) A) args s 0 0 A) 22 [(0, .ref (a 0))] [.ref (a 0)] v f g := by
  unfold r_flush_22 at h
  refine mg_iconst C (x := nI 0) rfl dX12_flush_22 ?_
  exact mg_sub [0] rfl (sb_flush_23 C  ((nI 0)) v f g h)
end S_flush
set_option maxHeartbeats 1000000 in
set_option maxRecDepth 20000 in
theorem s_flush (l : Launch)  (v : Nat → Int32) (f : Nat → Nat → Int32) (g : Nat → Nat → Int64) {P : Int32 → (Nat → Int32) → (Nat → Nat → Int32) → (Nat → Nat → Int64) → Prop} (h : r_flush P  v f g) : mMi l yX12_flush cX12_flush 1 (some .int) 2 44 false [] v f g (fun r w => P r w.1 w.2.1 w.2.2) := by
  intro D cI cJ cZ a sz
  refine mg_body (by decide +kernel) rfl (Nat.le_of_ble_eq_true rfl) ?_
  intro p e s m args below meth c hsz C
  clear hsz
  generalize va_A (mW cI cJ cZ a v f g) sz = A at C ⊢
  refine mg_lv (lv' := [(0, .ref (a 0))]) rfl ?_
  unfold r_flush at h
  refine mg_aload_n C (i := 0) rfl 0 rfl dX12_flush_0 ?_
  refine mg_aload_n C (i := 0) rfl 0 rfl dX12_flush_1 ?_
  refine mg_getI C (k := 98) (by decide) rfl mL_down rfl dX12_flush_2 ?_
  refine mg_if_ne C 22 (by decide) dX12_flush_5 (fun c_ => ?_) (fun c_ => ?_)
  · have h := h.1 c_
    exact mg_sub [0] rfl (sb_flush_22 C  v f g h)
  · have h := h.2 c_
    refine mg_aload_n C (i := 0) rfl 0 rfl dX12_flush_8 ?_
    refine mg_getI C (k := 29) (by decide) rfl mL_made rfl dX12_flush_9 ?_
    refine mg_sipush C (x := nI 200) rfl dX12_flush_12 ?_
    refine mg_icmp_ge C 22 (by decide) dX12_flush_15 (fun c_ => ?_) (fun c_ => ?_)
    · have h := h.1 c_
      exact mg_sub [0] rfl (sb_flush_22 C  v f g h)
    · have h := h.2 c_
      refine mg_iconst C (x := nI 1) rfl dX12_flush_18 ?_
      refine mg_goto C 23 (by decide) dX12_flush_19 ?_
      exact mg_sub [0] rfl (sb_flush_23 C  ((nI 1)) v f g h)
def r_tier_14 (Q : Int32 → (Nat → Int32) → (Nat → Nat → Int32) → (Nat → Nat → Int64) → Prop) (R14 : Int32 → Int32 → (Nat → Int32) → (Nat → Nat → Int32) → (Nat → Nat → Int64) → Prop) (x2 : Int32) (x3 : Int32) (v : Nat → Int32) (f : Nat → Nat → Int32) (g : Nat → Nat → Int64) : Prop :=
((x3 < ((nI 3)) →
  Q x2 v f g) ∧
 (¬ x3 < ((nI 3)) →
  ∀ x2_2 : Int32, x2_2 = x2 + nI 1 → ∀ x3_3 : Int32, x3_3 = (x3 / ((nI 3))) → R14 x2_2 x3_3 v f g))
def r_tier_14L (Q : Int32 → (Nat → Int32) → (Nat → Nat → Int32) → (Nat → Nat → Int64) → Prop)  (x2 : Int32) (x3 : Int32) (v : Nat → Int32) (f : Nat → Nat → Int32) (g : Nat → Nat → Int64) : Prop :=
  lfp (X := Int32 × Int32 × (Nat → Int32) × (Nat → Nat → Int32) × (Nat → Nat → Int64)) (fun P y => r_tier_14 Q  (fun b0 b1 v f g => P (b0, b1, v, f, g)) y.1 y.2.1 y.2.2.1 y.2.2.2.1 y.2.2.2.2) (x2, x3, v, f, g)
def r_tier (Q : Int32 → (Nat → Int32) → (Nat → Nat → Int32) → (Nat → Nat → Int64) → Prop) (x1 : Int32) (v : Nat → Int32) (f : Nat → Nat → Int32) (g : Nat → Nat → Int64) : Prop :=
vp_in x1 202 ∧ (vp_in ((f 24 (x1).toNatClampNeg)) 202 ∧ (∀ x3_1 : Int32, x3_1 = (f 20 ((f 24 (x1).toNatClampNeg)).toNatClampNeg) → r_tier_14L Q  (((nI 0))) x3_1 v f g))
section S_tier
variable {p : Program} {l : Launch} {e : Env} {s : State} {m : MethodId} {args : Array Value} {below : List Frame} {meth : Method} {c : Code} {A : Nat → Prop} {D : va_G} {cI cJ cZ : ClassId} {a : Nat → Nat}
set_option maxRecDepth 20000 in
theorem sb_tier_14 (C : mC p s m args meth c cX12_tier 4 (some .int) A D cI cJ cZ) {post : Int32 → mS → Prop} {R14 : Int32 → Int32 → (Nat → Int32) → (Nat → Nat → Int32) → (Nat → Nat → Int64) → Prop} (hR14 : ∀ (x2 : Int32) (x3 : Int32) (v : Nat → Int32) (f : Nat → Nat → Int32) (g : Nat → Nat → Int64), R14 x2 x3 v f g → mG p l e (mRm 0 0) s m args below meth c A D cI cJ cZ a 4 (MQ below (va_Qi post (mB D cI cJ cZ a) A) args s 0 0 A) 14 [(2, .int x2), (3, .int x3)] [] v f g) (x2 : Int32) (x3 : Int32) (v : Nat → Int32) (f : Nat → Nat → Int32) (g : Nat → Nat → Int64) (h : r_tier_14 (fun r v f g => post r (v, f, g)) R14 x2 x3 v f g) : mG p l e (mRm 0 0) s m args below meth c A D cI cJ cZ a 4 (MQ below (va_Qi post (mB D cI cJ cZ a) A) args s 0 0 A) 14 [(2, .int x2), (3, .int x3)] [] v f g := by
  unfold r_tier_14 at h
  refine mg_iload_n C (i := 3) rfl 1 rfl dX12_tier_14 ?_
  refine mg_iconst C (x := nI 3) rfl dX12_tier_15 ?_
  refine mg_icmp_lt C 29 (by decide) dX12_tier_16 (fun c_ => ?_) (fun c_ => ?_)
  · have h := h.1 c_
    refine mg_iload_n C (i := 2) rfl 0 rfl dX12_tier_29 ?_
    exact mg_iret C h dX12_tier_30
  · have h := h.2 c_
    obtain ⟨x2_2, e_x2_2⟩ : ∃ z : Int32, z = x2 + nI 1 := ⟨_, rfl⟩
    have h := h x2_2 e_x2_2
    refine mg_iinc C (lv' := [(2, .int x2_2), (3, .int x3)]) 0 rfl (by rw [e_x2_2]; rfl) (Nat.le_of_ble_eq_true rfl) rfl dX12_tier_19 ?_
    refine mg_iload_n C (i := 3) rfl 1 rfl dX12_tier_22 ?_
    refine mg_iconst C (x := nI 3) rfl dX12_tier_23 ?_
    refine mg_idiv C (by decide) dX12_tier_24 ?_
    refine mg_nmI (fun x3_3 e_x3_3 => ?_)
    have h := h x3_3 e_x3_3
    refine mg_istore_n C (i := 3) (lv' := [(3, .int x3_3), (2, .int x2_2)]) rfl (Nat.le_of_ble_eq_true rfl) rfl dX12_tier_25 ?_
    refine mg_goto C 14 (by decide) dX12_tier_26 ?_
    exact mg_sub [1, 0] rfl (hR14 x2_2 x3_3 v f g h)
set_option maxRecDepth 20000 in
theorem sl_tier_14 (C : mC p s m args meth c cX12_tier 4 (some .int) A D cI cJ cZ) {post : Int32 → mS → Prop}   (x2 : Int32) (x3 : Int32) (v : Nat → Int32) (f : Nat → Nat → Int32) (g : Nat → Nat → Int64) (h : r_tier_14L (fun r v f g => post r (v, f, g))  x2 x3 v f g) : mG p l e (mRm 0 0) s m args below meth c A D cI cJ cZ a 4 (MQ below (va_Qi post (mB D cI cJ cZ a) A) args s 0 0 A) 14 [(2, .int x2), (3, .int x3)] [] v f g :=
  h (fun y => mG p l e (mRm 0 0) s m args below meth c A D cI cJ cZ a 4 (MQ below (va_Qi post (mB D cI cJ cZ a) A) args s 0 0 A) 14 [(2, .int (y.1)), (3, .int (y.2.1))] [] (y.2.2.1) (y.2.2.2.1) (y.2.2.2.2)) (fun y hy => sb_tier_14 C  (fun b0 b1 v f g z => z) (y.1) (y.2.1) (y.2.2.1) (y.2.2.2.1) (y.2.2.2.2) hy)
end S_tier
set_option maxHeartbeats 1000000 in
set_option maxRecDepth 20000 in
theorem s_tier (l : Launch) (x1 : Int32) (v : Nat → Int32) (f : Nat → Nat → Int32) (g : Nat → Nat → Int64) {P : Int32 → (Nat → Int32) → (Nat → Nat → Int32) → (Nat → Nat → Int64) → Prop} (h : r_tier P x1 v f g) : mMi l yX12_tier cX12_tier 4 (some .int) 0 0 false [.int x1] v f g (fun r w => P r w.1 w.2.1 w.2.2) := by
  intro D cI cJ cZ a sz
  refine mg_body (by decide +kernel) rfl (Nat.le_of_ble_eq_true rfl) ?_
  intro p e s m args below meth c hsz C
  clear hsz
  generalize va_A (mW cI cJ cZ a v f g) sz = A at C ⊢
  refine mg_lv (lv' := [(0, .ref (a 0)), (1, .int x1)]) rfl ?_
  unfold r_tier at h
  refine mg_iconst C (x := nI 0) rfl dX12_tier_0 ?_
  refine mg_istore_n C (i := 2) (lv' := [(2, .int ((nI 0))), (0, .ref (a 0)), (1, .int x1)]) rfl (Nat.le_of_ble_eq_true rfl) rfl dX12_tier_1 ?_
  refine mg_aload_n C (i := 0) rfl 1 rfl dX12_tier_2 ?_
  refine mg_arr C 20 (by decide) (by decide) rfl mL_sizes rfl dX12_tier_3 ?_
  refine mg_aload_n C (i := 0) rfl 1 rfl dX12_tier_6 ?_
  refine mg_arr C 24 (by decide) (by decide) rfl mL_index rfl dX12_tier_7 ?_
  refine mg_iload_n C (i := 1) rfl 2 rfl dX12_tier_10 ?_
  obtain ⟨hc_11, h⟩ := h
  refine mg_ialoadR C (n := 202) 24 (by decide) (by decide) rfl rfl hc_11 dX12_tier_11 ?_
  obtain ⟨hc_12, h⟩ := h
  refine mg_ialoadR C (n := 202) 20 (by decide) (by decide) rfl rfl hc_12 dX12_tier_12 ?_
  refine mg_nmI (fun x3_1 e_x3_1 => ?_)
  have h := h x3_1 e_x3_1
  refine mg_istore_n C (i := 3) (lv' := [(3, .int x3_1), (2, .int ((nI 0))), (0, .ref (a 0)), (1, .int x1)]) rfl (Nat.le_of_ble_eq_true rfl) rfl dX12_tier_13 ?_
  exact mg_sub [1, 0] rfl (sl_tier_14 C  (((nI 0))) x3_1 v f g h)
def r_dueAt_44 (Q : Int32 → (Nat → Int32) → (Nat → Nat → Int32) → (Nat → Nat → Int64) → Prop) (R2 : Int32 → (Nat → Int32) → (Nat → Nat → Int32) → (Nat → Nat → Int64) → Prop) (x1 : Int32) (v : Nat → Int32) (f : Nat → Nat → Int32) (g : Nat → Nat → Int64) : Prop :=
∀ x1_3 : Int32, x1_3 = x1 + nI 1 → R2 x1_3 v f g
def r_dueAt_2 (Q : Int32 → (Nat → Int32) → (Nat → Nat → Int32) → (Nat → Nat → Int64) → Prop) (R2 : Int32 → (Nat → Int32) → (Nat → Nat → Int32) → (Nat → Nat → Int64) → Prop) (x1 : Int32) (v : Nat → Int32) (f : Nat → Nat → Int32) (g : Nat → Nat → Int64) : Prop :=
((((v 34)) ≤ ((x1 + ((nI 2)))) →
  Q (((-1))) v f g) ∧
 (¬ ((v 34)) ≤ ((x1 + ((nI 2)))) →
  r_tier (fun r_1 v_1 f_1 g_1 => 
  r_tier (fun r_2 v_2 f_2 g_2 => 
  ((¬ r_1 = r_2 →
    r_dueAt_44 Q R2 x1 v_2 f_2 g_2) ∧
   (r_1 = r_2 →
    r_tier (fun r_4 v_4 f_4 g_4 => 
    r_tier (fun r_5 v_5 f_5 g_5 => 
    ((¬ r_4 = r_5 →
      r_dueAt_44 Q R2 x1 v_5 f_5 g_5) ∧
     (r_4 = r_5 →
      Q x1 v_5 f_5 g_5))) ((x1 + ((nI 2)))) v_4 f_4 g_4) x1 v_2 f_2 g_2))) ((x1 + ((nI 1)))) v_1 f_1 g_1) x1 v f g))
def r_dueAt_2L (Q : Int32 → (Nat → Int32) → (Nat → Nat → Int32) → (Nat → Nat → Int64) → Prop)  (x1 : Int32) (v : Nat → Int32) (f : Nat → Nat → Int32) (g : Nat → Nat → Int64) : Prop :=
  lfp (X := Int32 × (Nat → Int32) × (Nat → Nat → Int32) × (Nat → Nat → Int64)) (fun P y => r_dueAt_2 Q  (fun b0 v f g => P (b0, v, f, g)) y.1 y.2.1 y.2.2.1 y.2.2.2) (x1, v, f, g)
def r_dueAt (Q : Int32 → (Nat → Int32) → (Nat → Nat → Int32) → (Nat → Nat → Int64) → Prop)  (v : Nat → Int32) (f : Nat → Nat → Int32) (g : Nat → Nat → Int64) : Prop :=
r_dueAt_2L Q  (((nI 0))) v f g
section S_dueAt
variable {p : Program} {l : Launch} {e : Env} {s : State} {m : MethodId} {args : Array Value} {below : List Frame} {meth : Method} {c : Code} {A : Nat → Prop} {D : va_G} {cI cJ cZ : ClassId} {a : Nat → Nat}
set_option maxRecDepth 20000 in
theorem sb_dueAt_44 (C : mC p s m args meth c cX12_dueAt 2 (some .int) A D cI cJ cZ) {post : Int32 → mS → Prop} {R2 : Int32 → (Nat → Int32) → (Nat → Nat → Int32) → (Nat → Nat → Int64) → Prop} (hR2 : ∀ (x1 : Int32) (v : Nat → Int32) (f : Nat → Nat → Int32) (g : Nat → Nat → Int64), R2 x1 v f g → mG p l e (mRm 1 23) s m args below meth c A D cI cJ cZ a 2 (MQ below (va_Qi post (mB D cI cJ cZ a) A) args s 0 0 A) 2 [(0, .ref (a 0)), (1, .int x1)] [] v f g) (x1 : Int32) (v : Nat → Int32) (f : Nat → Nat → Int32) (g : Nat → Nat → Int64) (h : r_dueAt_44 (fun r v f g => post r (v, f, g)) R2 x1 v f g) : mG p l e (mRm 1 23) s m args below meth c A D cI cJ cZ a 2 (MQ below (va_Qi post (mB D cI cJ cZ a) A) args s 0 0 A) 44 [(0, .ref (a 0)), (1, .int x1)] [] v f g := by
  unfold r_dueAt_44 at h
  obtain ⟨x1_3, e_x1_3⟩ : ∃ z : Int32, z = x1 + nI 1 := ⟨_, rfl⟩
  have h := h x1_3 e_x1_3
  refine mg_iinc C (lv' := [(1, .int x1_3), (0, .ref (a 0))]) 1 rfl (by rw [e_x1_3]; rfl) (Nat.le_of_ble_eq_true rfl) rfl dX12_dueAt_44 ?_
  refine mg_goto C 2 (by decide) dX12_dueAt_47 ?_
  exact mg_sub [1, 0] rfl (hR2 x1_3 v f g h)
set_option maxRecDepth 20000 in
theorem sb_dueAt_2 (C : mC p s m args meth c cX12_dueAt 2 (some .int) A D cI cJ cZ) {post : Int32 → mS → Prop} {R2 : Int32 → (Nat → Int32) → (Nat → Nat → Int32) → (Nat → Nat → Int64) → Prop} (hR2 : ∀ (x1 : Int32) (v : Nat → Int32) (f : Nat → Nat → Int32) (g : Nat → Nat → Int64), R2 x1 v f g → mG p l e (mRm 1 23) s m args below meth c A D cI cJ cZ a 2 (MQ below (va_Qi post (mB D cI cJ cZ a) A) args s 0 0 A) 2 [(0, .ref (a 0)), (1, .int x1)] [] v f g) (x1 : Int32) (v : Nat → Int32) (f : Nat → Nat → Int32) (g : Nat → Nat → Int64) (h : r_dueAt_2 (fun r v f g => post r (v, f, g)) R2 x1 v f g) : mG p l e (mRm 1 23) s m args below meth c A D cI cJ cZ a 2 (MQ below (va_Qi post (mB D cI cJ cZ a) A) args s 0 0 A) 2 [(0, .ref (a 0)), (1, .int x1)] [] v f g := by
  unfold r_dueAt_2 at h
  refine mg_iload_n C (i := 1) rfl 1 rfl dX12_dueAt_2 ?_
  refine mg_iconst C (x := nI 2) rfl dX12_dueAt_3 ?_
  refine mg_iadd C dX12_dueAt_4 ?_
  refine mg_aload_n C (i := 0) rfl 0 rfl dX12_dueAt_5 ?_
  refine mg_getI C (k := 34) (by decide) rfl mL_indexed rfl dX12_dueAt_6 ?_
  refine mg_icmp_ge C 50 (by decide) dX12_dueAt_9 (fun c_ => ?_) (fun c_ => ?_)
  · have h := h.1 c_
    refine mg_iconst C (x := (-1)) rfl dX12_dueAt_50 ?_
    exact mg_iret C h dX12_dueAt_51
  · have h := h.2 c_
    refine mg_aload_n C (i := 0) rfl 0 rfl dX12_dueAt_12 ?_
    refine mg_iload_n C (i := 1) rfl 1 rfl dX12_dueAt_13 ?_
    refine mg_calliW C (s_tier l x1 v f g h) mCal_tier rfl ⟨by decide, by decide⟩ rfl (Nat.le_of_ble_eq_true rfl) dX12_dueAt_14 (fun r_1 v_1 f_1 g_1 h => ?_)
    refine mg_aload_n C (i := 0) rfl 0 rfl dX12_dueAt_17 ?_
    refine mg_iload_n C (i := 1) rfl 1 rfl dX12_dueAt_18 ?_
    refine mg_iconst C (x := nI 1) rfl dX12_dueAt_19 ?_
    refine mg_iadd C dX12_dueAt_20 ?_
    refine mg_calliW C (s_tier l ((x1 + ((nI 1)))) v_1 f_1 g_1 h) mCal_tier rfl ⟨by decide, by decide⟩ rfl (Nat.le_of_ble_eq_true rfl) dX12_dueAt_21 (fun r_2 v_2 f_2 g_2 h => ?_)
    refine mg_icmp_ne C 44 (by decide) dX12_dueAt_24 (fun c_ => ?_) (fun c_ => ?_)
    · have h := h.1 c_
      exact mg_sub [0, 1] rfl (sb_dueAt_44 C hR2 x1 v_2 f_2 g_2 h)
    · have h := h.2 c_
      refine mg_aload_n C (i := 0) rfl 0 rfl dX12_dueAt_27 ?_
      refine mg_iload_n C (i := 1) rfl 1 rfl dX12_dueAt_28 ?_
      refine mg_calliW C (s_tier l x1 v_2 f_2 g_2 h) mCal_tier rfl ⟨by decide, by decide⟩ rfl (Nat.le_of_ble_eq_true rfl) dX12_dueAt_29 (fun r_4 v_4 f_4 g_4 h => ?_)
      refine mg_aload_n C (i := 0) rfl 0 rfl dX12_dueAt_32 ?_
      refine mg_iload_n C (i := 1) rfl 1 rfl dX12_dueAt_33 ?_
      refine mg_iconst C (x := nI 2) rfl dX12_dueAt_34 ?_
      refine mg_iadd C dX12_dueAt_35 ?_
      refine mg_calliW C (s_tier l ((x1 + ((nI 2)))) v_4 f_4 g_4 h) mCal_tier rfl ⟨by decide, by decide⟩ rfl (Nat.le_of_ble_eq_true rfl) dX12_dueAt_36 (fun r_5 v_5 f_5 g_5 h => ?_)
      refine mg_icmp_ne C 44 (by decide) dX12_dueAt_39 (fun c_ => ?_) (fun c_ => ?_)
      · have h := h.1 c_
        exact mg_sub [0, 1] rfl (sb_dueAt_44 C hR2 x1 v_5 f_5 g_5 h)
      · have h := h.2 c_
        refine mg_iload_n C (i := 1) rfl 1 rfl dX12_dueAt_42 ?_
        exact mg_iret C h dX12_dueAt_43
set_option maxRecDepth 20000 in
theorem sl_dueAt_2 (C : mC p s m args meth c cX12_dueAt 2 (some .int) A D cI cJ cZ) {post : Int32 → mS → Prop}   (x1 : Int32) (v : Nat → Int32) (f : Nat → Nat → Int32) (g : Nat → Nat → Int64) (h : r_dueAt_2L (fun r v f g => post r (v, f, g))  x1 v f g) : mG p l e (mRm 1 23) s m args below meth c A D cI cJ cZ a 2 (MQ below (va_Qi post (mB D cI cJ cZ a) A) args s 0 0 A) 2 [(0, .ref (a 0)), (1, .int x1)] [] v f g :=
  h (fun y => mG p l e (mRm 1 23) s m args below meth c A D cI cJ cZ a 2 (MQ below (va_Qi post (mB D cI cJ cZ a) A) args s 0 0 A) 2 [(0, .ref (a 0)), (1, .int (y.1))] [] (y.2.1) (y.2.2.1) (y.2.2.2)) (fun y hy => sb_dueAt_2 C  (fun b0 v f g z => z) (y.1) (y.2.1) (y.2.2.1) (y.2.2.2) hy)
end S_dueAt
set_option maxHeartbeats 1000000 in
set_option maxRecDepth 20000 in
theorem s_dueAt (l : Launch)  (v : Nat → Int32) (f : Nat → Nat → Int32) (g : Nat → Nat → Int64) {P : Int32 → (Nat → Int32) → (Nat → Nat → Int32) → (Nat → Nat → Int64) → Prop} (h : r_dueAt P  v f g) : mMi l yX12_dueAt cX12_dueAt 2 (some .int) 1 23 false [] v f g (fun r w => P r w.1 w.2.1 w.2.2) := by
  intro D cI cJ cZ a sz
  refine mg_body (by decide +kernel) rfl (Nat.le_of_ble_eq_true rfl) ?_
  intro p e s m args below meth c hsz C
  clear hsz
  generalize va_A (mW cI cJ cZ a v f g) sz = A at C ⊢
  refine mg_lv (lv' := [(0, .ref (a 0))]) rfl ?_
  unfold r_dueAt at h
  refine mg_iconst C (x := nI 0) rfl dX12_dueAt_0 ?_
  refine mg_istore_n C (i := 1) (lv' := [(1, .int ((nI 0))), (0, .ref (a 0))]) rfl (Nat.le_of_ble_eq_true rfl) rfl dX12_dueAt_1 ?_
  exact mg_sub [1, 0] rfl (sl_dueAt_2 C  (((nI 0))) v f g h)
def r_due_13 (Q : Int32 → (Nat → Int32) → (Nat → Nat → Int32) → (Nat → Nat → Int64) → Prop)  (t0 : Int32) (v : Nat → Int32) (f : Nat → Nat → Int32) (g : Nat → Nat → Int64) : Prop :=
r_goes (fun r_1 v_1 f_1 g_1 => 
((r_1 = 0 →
  Q ((nI 0)) v_1 f_1 g_1) ∧
 (¬ r_1 = 0 →
  r_dueAt (fun r_2 v_2 f_2 g_2 => 
  Q r_2 v_2 f_2 g_2)  v_1 f_1 g_1))) t0 ((nI 1)) ((nI 1)) v f g
def r_due (Q : Int32 → (Nat → Int32) → (Nat → Nat → Int32) → (Nat → Nat → Int64) → Prop)  (v : Nat → Int32) (f : Nat → Nat → Int32) (g : Nat → Nat → Int64) : Prop :=
((¬ ((v 98)) = 0 →
  r_due_13 Q  ((nI 0)) v f g) ∧
 (((v 98)) = 0 →
  r_due_13 Q  ((nI 1)) v f g))
section S_due
variable {p : Program} {l : Launch} {e : Env} {s : State} {m : MethodId} {args : Array Value} {below : List Frame} {meth : Method} {c : Code} {A : Nat → Prop} {D : va_G} {cI cJ cZ : ClassId} {a : Nat → Nat}
set_option maxRecDepth 20000 in
theorem sb_due_13 (C : mC p s m args meth c cX12_due 1 (some .int) A D cI cJ cZ) {post : Int32 → mS → Prop}   (t0 : Int32) (v : Nat → Int32) (f : Nat → Nat → Int32) (g : Nat → Nat → Int64) (h : r_due_13 (fun r v f g => post r (v, f, g))  t0 v f g) : mG p l e (mRm 2 44) s m args below meth c A D cI cJ cZ a 1 (MQ below (va_Qi post (mB D cI cJ cZ a) A) args s 0 0 A) 13 [(0, .ref (a 0))] [.int t0, .ref (a 0)] v f g := by
  unfold r_due_13 at h
  refine mg_iconst C (x := nI 1) rfl dX12_due_13 ?_
  refine mg_iconst C (x := nI 1) rfl dX12_due_14 ?_
  refine mg_calliW C (s_goes l t0 ((nI 1)) ((nI 1)) v f g h) mCal_goes rfl ⟨by decide, by decide⟩ rfl (Nat.le_of_ble_eq_true rfl) dX12_due_15 (fun r_1 v_1 f_1 g_1 h => ?_)
  refine mg_if_eq C 28 (by decide) dX12_due_18 (fun c_ => ?_) (fun c_ => ?_)
  · have h := h.1 c_
    refine mg_iconst C (x := nI 0) rfl dX12_due_28 ?_
    exact mg_iret C h dX12_due_29
  · have h := h.2 c_
    refine mg_aload_n C (i := 0) rfl 0 rfl dX12_due_21 ?_
    refine mg_calliW C (s_dueAt l  v_1 f_1 g_1 h) mCal_dueAt rfl ⟨by decide, by decide⟩ rfl (Nat.le_of_ble_eq_true rfl) dX12_due_22 (fun r_2 v_2 f_2 g_2 h => ?_)
    refine mg_goto C 29 (by decide) dX12_due_25 ?_
    exact mg_iret C h dX12_due_29
end S_due
set_option maxHeartbeats 1000000 in
set_option maxRecDepth 20000 in
theorem s_due (l : Launch)  (v : Nat → Int32) (f : Nat → Nat → Int32) (g : Nat → Nat → Int64) {P : Int32 → (Nat → Int32) → (Nat → Nat → Int32) → (Nat → Nat → Int64) → Prop} (h : r_due P  v f g) : mMi l yX12_due cX12_due 1 (some .int) 2 44 false [] v f g (fun r w => P r w.1 w.2.1 w.2.2) := by
  intro D cI cJ cZ a sz
  refine mg_body (by decide +kernel) rfl (Nat.le_of_ble_eq_true rfl) ?_
  intro p e s m args below meth c hsz C
  clear hsz
  generalize va_A (mW cI cJ cZ a v f g) sz = A at C ⊢
  refine mg_lv (lv' := [(0, .ref (a 0))]) rfl ?_
  unfold r_due at h
  refine mg_aload_n C (i := 0) rfl 0 rfl dX12_due_0 ?_
  refine mg_aload_n C (i := 0) rfl 0 rfl dX12_due_1 ?_
  refine mg_getI C (k := 98) (by decide) rfl mL_down rfl dX12_due_2 ?_
  refine mg_if_ne C 12 (by decide) dX12_due_5 (fun c_ => ?_) (fun c_ => ?_)
  · have h := h.1 c_
    refine mg_iconst C (x := nI 0) rfl dX12_due_12 ?_
    exact mg_sub [0] rfl (sb_due_13 C  ((nI 0)) v f g h)
  · have h := h.2 c_
    refine mg_iconst C (x := nI 1) rfl dX12_due_8 ?_
    refine mg_goto C 13 (by decide) dX12_due_9 ?_
    exact mg_sub [0] rfl (sb_due_13 C  ((nI 1)) v f g h)
def r_merge_158 (Q : Int32 → (Nat → Int32) → (Nat → Nat → Int32) → (Nat → Nat → Int64) → Prop) (R78 : Int32 → Int32 → (Nat → Int32) → (Nat → Nat → Int32) → (Nat → Nat → Int64) → Prop) (R99 : Int32 → Int32 → Int32 → (Nat → Int32) → (Nat → Nat → Int32) → (Nat → Nat → Int64) → Prop) (x1 : Int32) (x2 : Int32) (x3 : Int32) (v : Nat → Int32) (f : Nat → Nat → Int32) (g : Nat → Nat → Int64) : Prop :=
∀ x3_9 : Int32, x3_9 = x3 + nI 1 → R99 x1 x2 x3_9 v f g
def r_merge_99 (Q : Int32 → (Nat → Int32) → (Nat → Nat → Int32) → (Nat → Nat → Int64) → Prop) (R78 : Int32 → Int32 → (Nat → Int32) → (Nat → Nat → Int32) → (Nat → Nat → Int64) → Prop) (R99 : Int32 → Int32 → Int32 → (Nat → Int32) → (Nat → Nat → Int32) → (Nat → Nat → Int64) → Prop) (x1 : Int32) (x2 : Int32) (x3 : Int32) (v : Nat → Int32) (f : Nat → Nat → Int32) (g : Nat → Nat → Int64) : Prop :=
vp_in x2 3 ∧ (vp_in ((f 33 (x2).toNatClampNeg)) 202 ∧ (((((f 20 ((f 33 (x2).toNatClampNeg)).toNatClampNeg)) ≤ x3 →
  ∀ x2_7 : Int32, x2_7 = x2 + nI 1 → R78 x1 x2_7 v f g) ∧
 (¬ ((f 20 ((f 33 (x2).toNatClampNeg)).toNatClampNeg)) ≤ x3 →
  vp_in x2 3 ∧ (∀ x4_8 : Int32, x4_8 = (((((nI 100)) * ((f 33 (x2).toNatClampNeg)))) + x3) → vp_in x4_8 20200 ∧ (((((f 21 (x4_8).toNatClampNeg)) = 0 →
    r_merge_158 Q R78 R99 x1 x2 x3 v f g) ∧
   (¬ ((f 21 (x4_8).toNatClampNeg)) = 0 →
    vp_in ((v 52)) 100 ∧ (∀ f10 : Nat → Nat → Int32, f10 = mU f 34 ((v 52)).toNatClampNeg x4_8 → ∀ v11 : Nat → Int32, v11 = upd v 52 ((((v 52)) + ((nI 1)))) → r_merge_158 Q R78 R99 x1 x2 x3 v11 f10 g)))))))))
def r_merge_99L (Q : Int32 → (Nat → Int32) → (Nat → Nat → Int32) → (Nat → Nat → Int64) → Prop) (R78 : Int32 → Int32 → (Nat → Int32) → (Nat → Nat → Int32) → (Nat → Nat → Int64) → Prop) (x1 : Int32) (x2 : Int32) (x3 : Int32) (v : Nat → Int32) (f : Nat → Nat → Int32) (g : Nat → Nat → Int64) : Prop :=
  lfp (X := Int32 × Int32 × Int32 × (Nat → Int32) × (Nat → Nat → Int32) × (Nat → Nat → Int64)) (fun P y => r_merge_99 Q R78 (fun b0 b1 b2 v f g => P (b0, b1, b2, v, f, g)) y.1 y.2.1 y.2.2.1 y.2.2.2.1 y.2.2.2.2.1 y.2.2.2.2.2) (x1, x2, x3, v, f, g)
def r_merge_78 (Q : Int32 → (Nat → Int32) → (Nat → Nat → Int32) → (Nat → Nat → Int64) → Prop) (R78 : Int32 → Int32 → (Nat → Int32) → (Nat → Nat → Int32) → (Nat → Nat → Int64) → Prop) (x1 : Int32) (x2 : Int32) (v : Nat → Int32) (f : Nat → Nat → Int32) (g : Nat → Nat → Int64) : Prop :=
((((nI 3)) ≤ x2 →
  Q ((v 52)) v f g) ∧
 (¬ ((nI 3)) ≤ x2 →
  vp_in ((x1 + x2)) 202 ∧ (vp_in x2 3 ∧ (∀ f6 : Nat → Nat → Int32, f6 = mU f 33 (x2).toNatClampNeg ((f 24 ((x1 + x2)).toNatClampNeg)) → r_merge_99L Q R78 x1 x2 (((nI 0))) v f6 g))))
def r_merge_78L (Q : Int32 → (Nat → Int32) → (Nat → Nat → Int32) → (Nat → Nat → Int64) → Prop)  (x1 : Int32) (x2 : Int32) (v : Nat → Int32) (f : Nat → Nat → Int32) (g : Nat → Nat → Int64) : Prop :=
  lfp (X := Int32 × Int32 × (Nat → Int32) × (Nat → Nat → Int32) × (Nat → Nat → Int64)) (fun P y => r_merge_78 Q  (fun b0 b1 v f g => P (b0, b1, v, f, g)) y.1 y.2.1 y.2.2.1 y.2.2.2.1 y.2.2.2.2) (x1, x2, v, f, g)
def r_merge_51 (Q : Int32 → (Nat → Int32) → (Nat → Nat → Int32) → (Nat → Nat → Int64) → Prop)  (x1 : Int32) (t0 : Int32) (v : Nat → Int32) (f : Nat → Nat → Int32) (g : Nat → Nat → Int64) : Prop :=
r_goes (fun r_2 v_2 f_2 g_2 => 
((¬ r_2 = 0 →
  ∀ v3 : Nat → Int32, v3 = upd v_2 49 ((bI true)) → ∀ v4 : Nat → Int32, v4 = upd v3 52 ((nI 0)) → ∀ v5 : Nat → Int32, v5 = upd v4 53 ((nI 0)) → r_merge_78L Q  x1 (((nI 0))) v5 f_2 g_2) ∧
 (r_2 = 0 →
  Q ((nI 0)) v_2 f_2 g_2))) t0 ((nI 1)) ((nI 1)) v f g
def r_merge_50 (Q : Int32 → (Nat → Int32) → (Nat → Nat → Int32) → (Nat → Nat → Int64) → Prop)  (x1 : Int32) (v : Nat → Int32) (f : Nat → Nat → Int32) (g : Nat → Nat → Int64) : Prop :=
r_merge_51 Q  x1 ((nI 0)) v f g
def r_merge_15 (Q : Int32 → (Nat → Int32) → (Nat → Nat → Int32) → (Nat → Nat → Int64) → Prop)  (t0 : Int32) (v : Nat → Int32) (f : Nat → Nat → Int32) (g : Nat → Nat → Int64) : Prop :=
((¬ ((v 98)) = 0 →
  r_merge_50 Q  t0 v f g) ∧
 (((v 98)) = 0 →
  ((t0 = (((-1))) →
    r_merge_50 Q  t0 v f g) ∧
   (¬ t0 = (((-1))) →
    ((¬ ((v 49)) = 0 →
      r_merge_50 Q  t0 v f g) ∧
     (((v 49)) = 0 →
      ((((nI 200)) ≤ ((v 29)) →
        r_merge_50 Q  t0 v f g) ∧
       (¬ ((nI 200)) ≤ ((v 29)) →
        r_merge_51 Q  t0 ((nI 1)) v f g))))))))
def r_merge (Q : Int32 → (Nat → Int32) → (Nat → Nat → Int32) → (Nat → Nat → Int64) → Prop)  (v : Nat → Int32) (f : Nat → Nat → Int32) (g : Nat → Nat → Int64) : Prop :=
((((v 98)) = 0 →
  r_dueAt (fun r_1 v_1 f_1 g_1 => 
  r_merge_15 Q  r_1 v_1 f_1 g_1)  v f g) ∧
 (¬ ((v 98)) = 0 →
  r_merge_15 Q  (((-1))) v f g))
section S_merge
variable {p : Program} {l : Launch} {e : Env} {s : State} {m : MethodId} {args : Array Value} {below : List Frame} {meth : Method} {c : Code} {A : Nat → Prop} {D : va_G} {cI cJ cZ : ClassId} {a : Nat → Nat}
set_option maxRecDepth 20000 in
theorem sb_merge_158 (C : mC p s m args meth c cX12_merge 5 (some .int) A D cI cJ cZ) {post : Int32 → mS → Prop} {R78 : Int32 → Int32 → (Nat → Int32) → (Nat → Nat → Int32) → (Nat → Nat → Int64) → Prop} {R99 : Int32 → Int32 → Int32 → (Nat → Int32) → (Nat → Nat → Int32) → (Nat → Nat → Int64) → Prop} (hR78 : ∀ (x1 : Int32) (x2 : Int32) (v : Nat → Int32) (f : Nat → Nat → Int32) (g : Nat → Nat → Int64), R78 x1 x2 v f g → mG p l e (mRm 2 44) s m args below meth c A D cI cJ cZ a 5 (MQ below (va_Qi post (mB D cI cJ cZ a) A) args s 0 0 A) 78 [(0, .ref (a 0)), (1, .int x1), (2, .int x2)] [] v f g) (hR99 : ∀ (x1 : Int32) (x2 : Int32) (x3 : Int32) (v : Nat → Int32) (f : Nat → Nat → Int32) (g : Nat → Nat → Int64), R99 x1 x2 x3 v f g → mG p l e (mRm 2 44) s m args below meth c A D cI cJ cZ a 5 (MQ below (va_Qi post (mB D cI cJ cZ a) A) args s 0 0 A) 99 [(0, .ref (a 0)), (1, .int x1), (2, .int x2), (3, .int x3)] [] v f g) (x1 : Int32) (x2 : Int32) (x3 : Int32) (v : Nat → Int32) (f : Nat → Nat → Int32) (g : Nat → Nat → Int64) (h : r_merge_158 (fun r v f g => post r (v, f, g)) R78 R99 x1 x2 x3 v f g) : mG p l e (mRm 2 44) s m args below meth c A D cI cJ cZ a 5 (MQ below (va_Qi post (mB D cI cJ cZ a) A) args s 0 0 A) 158 [(0, .ref (a 0)), (1, .int x1), (2, .int x2), (3, .int x3)] [] v f g := by
  unfold r_merge_158 at h
  obtain ⟨x3_9, e_x3_9⟩ : ∃ z : Int32, z = x3 + nI 1 := ⟨_, rfl⟩
  have h := h x3_9 e_x3_9
  refine mg_iinc C (lv' := [(3, .int x3_9), (0, .ref (a 0)), (1, .int x1), (2, .int x2)]) 3 rfl (by rw [e_x3_9]; rfl) (Nat.le_of_ble_eq_true rfl) rfl dX12_merge_158 ?_
  refine mg_goto C 99 (by decide) dX12_merge_161 ?_
  exact mg_sub [1, 2, 3, 0] rfl (hR99 x1 x2 x3_9 v f g h)
set_option maxRecDepth 20000 in
theorem sb_merge_99 (C : mC p s m args meth c cX12_merge 5 (some .int) A D cI cJ cZ) {post : Int32 → mS → Prop} {R78 : Int32 → Int32 → (Nat → Int32) → (Nat → Nat → Int32) → (Nat → Nat → Int64) → Prop} {R99 : Int32 → Int32 → Int32 → (Nat → Int32) → (Nat → Nat → Int32) → (Nat → Nat → Int64) → Prop} (hR78 : ∀ (x1 : Int32) (x2 : Int32) (v : Nat → Int32) (f : Nat → Nat → Int32) (g : Nat → Nat → Int64), R78 x1 x2 v f g → mG p l e (mRm 2 44) s m args below meth c A D cI cJ cZ a 5 (MQ below (va_Qi post (mB D cI cJ cZ a) A) args s 0 0 A) 78 [(0, .ref (a 0)), (1, .int x1), (2, .int x2)] [] v f g) (hR99 : ∀ (x1 : Int32) (x2 : Int32) (x3 : Int32) (v : Nat → Int32) (f : Nat → Nat → Int32) (g : Nat → Nat → Int64), R99 x1 x2 x3 v f g → mG p l e (mRm 2 44) s m args below meth c A D cI cJ cZ a 5 (MQ below (va_Qi post (mB D cI cJ cZ a) A) args s 0 0 A) 99 [(0, .ref (a 0)), (1, .int x1), (2, .int x2), (3, .int x3)] [] v f g) (x1 : Int32) (x2 : Int32) (x3 : Int32) (v : Nat → Int32) (f : Nat → Nat → Int32) (g : Nat → Nat → Int64) (h : r_merge_99 (fun r v f g => post r (v, f, g)) R78 R99 x1 x2 x3 v f g) : mG p l e (mRm 2 44) s m args below meth c A D cI cJ cZ a 5 (MQ below (va_Qi post (mB D cI cJ cZ a) A) args s 0 0 A) 99 [(0, .ref (a 0)), (1, .int x1), (2, .int x2), (3, .int x3)] [] v f g := by
  unfold r_merge_99 at h
  refine mg_iload_n C (i := 3) rfl 3 rfl dX12_merge_99 ?_
  refine mg_aload_n C (i := 0) rfl 0 rfl dX12_merge_100 ?_
  refine mg_arr C 20 (by decide) (by decide) rfl mL_sizes rfl dX12_merge_101 ?_
  refine mg_aload_n C (i := 0) rfl 0 rfl dX12_merge_104 ?_
  refine mg_arr C 33 (by decide) (by decide) rfl mL_sources rfl dX12_merge_105 ?_
  refine mg_iload_n C (i := 2) rfl 2 rfl dX12_merge_108 ?_
  obtain ⟨hc_109, h⟩ := h
  refine mg_ialoadR C (n := 3) 33 (by decide) (by decide) rfl rfl hc_109 dX12_merge_109 ?_
  obtain ⟨hc_110, h⟩ := h
  refine mg_ialoadR C (n := 202) 20 (by decide) (by decide) rfl rfl hc_110 dX12_merge_110 ?_
  refine mg_icmp_ge C 164 (by decide) dX12_merge_111 (fun c_ => ?_) (fun c_ => ?_)
  · have h := h.1 c_
    obtain ⟨x2_7, e_x2_7⟩ : ∃ z : Int32, z = x2 + nI 1 := ⟨_, rfl⟩
    have h := h x2_7 e_x2_7
    refine mg_iinc C (lv' := [(2, .int x2_7), (0, .ref (a 0)), (1, .int x1), (3, .int x3)]) 2 rfl (by rw [e_x2_7]; rfl) (Nat.le_of_ble_eq_true rfl) rfl dX12_merge_164 ?_
    refine mg_goto C 78 (by decide) dX12_merge_167 ?_
    exact mg_sub [1, 2, 0] rfl (hR78 x1 x2_7 v f g h)
  · have h := h.2 c_
    refine mg_bipush C (x := nI 100) rfl dX12_merge_114 ?_
    refine mg_aload_n C (i := 0) rfl 0 rfl dX12_merge_116 ?_
    refine mg_arr C 33 (by decide) (by decide) rfl mL_sources rfl dX12_merge_117 ?_
    refine mg_iload_n C (i := 2) rfl 2 rfl dX12_merge_120 ?_
    obtain ⟨hc_121, h⟩ := h
    refine mg_ialoadR C (n := 3) 33 (by decide) (by decide) rfl rfl hc_121 dX12_merge_121 ?_
    refine mg_imul C dX12_merge_122 ?_
    refine mg_iload_n C (i := 3) rfl 3 rfl dX12_merge_123 ?_
    refine mg_iadd C dX12_merge_124 ?_
    refine mg_nmI (fun x4_8 e_x4_8 => ?_)
    have h := h x4_8 e_x4_8
    refine mg_istore C (lv' := [(4, .int x4_8), (0, .ref (a 0)), (1, .int x1), (2, .int x2), (3, .int x3)]) (Nat.le_of_ble_eq_true rfl) rfl dX12_merge_125 ?_
    refine mg_aload_n C (i := 0) rfl 1 rfl dX12_merge_127 ?_
    refine mg_arr C 21 (by decide) (by decide) rfl mL_live rfl dX12_merge_128 ?_
    refine mg_iload C 0 rfl dX12_merge_131 ?_
    obtain ⟨hc_133, h⟩ := h
    refine mg_baloadR C (n := 20200) 21 (by decide) (by decide) rfl rfl hc_133 dX12_merge_133 ?_
    refine mg_if_eq C 158 (by decide) dX12_merge_134 (fun c_ => ?_) (fun c_ => ?_)
    · have h := h.1 c_
      exact mg_sub [1, 2, 3, 4] rfl (sb_merge_158 C hR78 hR99 x1 x2 x3 v f g h)
    · have h := h.2 c_
      refine mg_aload_n C (i := 0) rfl 1 rfl dX12_merge_137 ?_
      refine mg_arr C 34 (by decide) (by decide) rfl mL_copies rfl dX12_merge_138 ?_
      refine mg_aload_n C (i := 0) rfl 1 rfl dX12_merge_141 ?_
      refine mg_getI C (k := 52) (by decide) rfl mL_toCopy rfl dX12_merge_142 ?_
      refine mg_iload C 0 rfl dX12_merge_145 ?_
      obtain ⟨hc_147, h⟩ := h
      refine mg_iastoreR C (n := 100) 34 (by decide) (by decide) rfl rfl hc_147 dX12_merge_147 ?_
      refine mg_nmF (fun f10 e_f10 => ?_)
      have h := h f10 e_f10
      refine mg_aload_n C (i := 0) rfl 1 rfl dX12_merge_148 ?_
      refine mg_dup C rfl dX12_merge_149 ?_
      refine mg_getI C (k := 52) (by decide) rfl mL_toCopy rfl dX12_merge_150 ?_
      refine mg_iconst C (x := nI 1) rfl dX12_merge_153 ?_
      refine mg_iadd C dX12_merge_154 ?_
      refine mg_put C (k := 52) (by decide) rfl mL_toCopy rfl (by decide +kernel) mT_toCopy rfl rfl dX12_merge_155 ?_
      refine mg_nmV (fun v11 e_v11 => ?_)
      have h := h v11 e_v11
      exact mg_sub [1, 2, 3, 4] rfl (sb_merge_158 C hR78 hR99 x1 x2 x3 v11 f10 g h)
set_option maxRecDepth 20000 in
theorem sl_merge_99 (C : mC p s m args meth c cX12_merge 5 (some .int) A D cI cJ cZ) {post : Int32 → mS → Prop} {R78 : Int32 → Int32 → (Nat → Int32) → (Nat → Nat → Int32) → (Nat → Nat → Int64) → Prop} (hR78 : ∀ (x1 : Int32) (x2 : Int32) (v : Nat → Int32) (f : Nat → Nat → Int32) (g : Nat → Nat → Int64), R78 x1 x2 v f g → mG p l e (mRm 2 44) s m args below meth c A D cI cJ cZ a 5 (MQ below (va_Qi post (mB D cI cJ cZ a) A) args s 0 0 A) 78 [(0, .ref (a 0)), (1, .int x1), (2, .int x2)] [] v f g) (x1 : Int32) (x2 : Int32) (x3 : Int32) (v : Nat → Int32) (f : Nat → Nat → Int32) (g : Nat → Nat → Int64) (h : r_merge_99L (fun r v f g => post r (v, f, g)) R78 x1 x2 x3 v f g) : mG p l e (mRm 2 44) s m args below meth c A D cI cJ cZ a 5 (MQ below (va_Qi post (mB D cI cJ cZ a) A) args s 0 0 A) 99 [(0, .ref (a 0)), (1, .int x1), (2, .int x2), (3, .int x3)] [] v f g :=
  h (fun y => mG p l e (mRm 2 44) s m args below meth c A D cI cJ cZ a 5 (MQ below (va_Qi post (mB D cI cJ cZ a) A) args s 0 0 A) 99 [(0, .ref (a 0)), (1, .int (y.1)), (2, .int (y.2.1)), (3, .int (y.2.2.1))] [] (y.2.2.2.1) (y.2.2.2.2.1) (y.2.2.2.2.2)) (fun y hy => sb_merge_99 C hR78 (fun b0 b1 b2 v f g z => z) (y.1) (y.2.1) (y.2.2.1) (y.2.2.2.1) (y.2.2.2.2.1) (y.2.2.2.2.2) hy)
set_option maxRecDepth 20000 in
theorem sb_merge_78 (C : mC p s m args meth c cX12_merge 5 (some .int) A D cI cJ cZ) {post : Int32 → mS → Prop} {R78 : Int32 → Int32 → (Nat → Int32) → (Nat → Nat → Int32) → (Nat → Nat → Int64) → Prop} (hR78 : ∀ (x1 : Int32) (x2 : Int32) (v : Nat → Int32) (f : Nat → Nat → Int32) (g : Nat → Nat → Int64), R78 x1 x2 v f g → mG p l e (mRm 2 44) s m args below meth c A D cI cJ cZ a 5 (MQ below (va_Qi post (mB D cI cJ cZ a) A) args s 0 0 A) 78 [(0, .ref (a 0)), (1, .int x1), (2, .int x2)] [] v f g) (x1 : Int32) (x2 : Int32) (v : Nat → Int32) (f : Nat → Nat → Int32) (g : Nat → Nat → Int64) (h : r_merge_78 (fun r v f g => post r (v, f, g)) R78 x1 x2 v f g) : mG p l e (mRm 2 44) s m args below meth c A D cI cJ cZ a 5 (MQ below (va_Qi post (mB D cI cJ cZ a) A) args s 0 0 A) 78 [(0, .ref (a 0)), (1, .int x1), (2, .int x2)] [] v f g := by
  unfold r_merge_78 at h
  refine mg_iload_n C (i := 2) rfl 2 rfl dX12_merge_78 ?_
  refine mg_iconst C (x := nI 3) rfl dX12_merge_79 ?_
  refine mg_icmp_ge C 170 (by decide) dX12_merge_80 (fun c_ => ?_) (fun c_ => ?_)
  · have h := h.1 c_
    refine mg_aload_n C (i := 0) rfl 0 rfl dX12_merge_170 ?_
    refine mg_getI C (k := 52) (by decide) rfl mL_toCopy rfl dX12_merge_171 ?_
    exact mg_iret C h dX12_merge_174
  · have h := h.2 c_
    refine mg_aload_n C (i := 0) rfl 0 rfl dX12_merge_83 ?_
    refine mg_arr C 33 (by decide) (by decide) rfl mL_sources rfl dX12_merge_84 ?_
    refine mg_iload_n C (i := 2) rfl 2 rfl dX12_merge_87 ?_
    refine mg_aload_n C (i := 0) rfl 0 rfl dX12_merge_88 ?_
    refine mg_arr C 24 (by decide) (by decide) rfl mL_index rfl dX12_merge_89 ?_
    refine mg_iload_n C (i := 1) rfl 1 rfl dX12_merge_92 ?_
    refine mg_iload_n C (i := 2) rfl 2 rfl dX12_merge_93 ?_
    refine mg_iadd C dX12_merge_94 ?_
    obtain ⟨hc_95, h⟩ := h
    refine mg_ialoadR C (n := 202) 24 (by decide) (by decide) rfl rfl hc_95 dX12_merge_95 ?_
    obtain ⟨hc_96, h⟩ := h
    refine mg_iastoreR C (n := 3) 33 (by decide) (by decide) rfl rfl hc_96 dX12_merge_96 ?_
    refine mg_nmF (fun f6 e_f6 => ?_)
    have h := h f6 e_f6
    refine mg_iconst C (x := nI 0) rfl dX12_merge_97 ?_
    refine mg_istore_n C (i := 3) (lv' := [(3, .int ((nI 0))), (0, .ref (a 0)), (1, .int x1), (2, .int x2)]) rfl (Nat.le_of_ble_eq_true rfl) rfl dX12_merge_98 ?_
    exact mg_sub [1, 2, 3, 0] rfl (sl_merge_99 C hR78 x1 x2 (((nI 0))) v f6 g h)
set_option maxRecDepth 20000 in
theorem sl_merge_78 (C : mC p s m args meth c cX12_merge 5 (some .int) A D cI cJ cZ) {post : Int32 → mS → Prop}   (x1 : Int32) (x2 : Int32) (v : Nat → Int32) (f : Nat → Nat → Int32) (g : Nat → Nat → Int64) (h : r_merge_78L (fun r v f g => post r (v, f, g))  x1 x2 v f g) : mG p l e (mRm 2 44) s m args below meth c A D cI cJ cZ a 5 (MQ below (va_Qi post (mB D cI cJ cZ a) A) args s 0 0 A) 78 [(0, .ref (a 0)), (1, .int x1), (2, .int x2)] [] v f g :=
  h (fun y => mG p l e (mRm 2 44) s m args below meth c A D cI cJ cZ a 5 (MQ below (va_Qi post (mB D cI cJ cZ a) A) args s 0 0 A) 78 [(0, .ref (a 0)), (1, .int (y.1)), (2, .int (y.2.1))] [] (y.2.2.1) (y.2.2.2.1) (y.2.2.2.2)) (fun y hy => sb_merge_78 C  (fun b0 b1 v f g z => z) (y.1) (y.2.1) (y.2.2.1) (y.2.2.2.1) (y.2.2.2.2) hy)
set_option maxRecDepth 20000 in
theorem sb_merge_51 (C : mC p s m args meth c cX12_merge 5 (some .int) A D cI cJ cZ) {post : Int32 → mS → Prop}   (x1 : Int32) (t0 : Int32) (v : Nat → Int32) (f : Nat → Nat → Int32) (g : Nat → Nat → Int64) (h : r_merge_51 (fun r v f g => post r (v, f, g))  x1 t0 v f g) : mG p l e (mRm 2 44) s m args below meth c A D cI cJ cZ a 5 (MQ below (va_Qi post (mB D cI cJ cZ a) A) args s 0 0 A) 51 [(0, .ref (a 0)), (1, .int x1)] [.int t0, .ref (a 0)] v f g := by
  unfold r_merge_51 at h
  refine mg_iconst C (x := nI 1) rfl dX12_merge_51 ?_
  refine mg_iconst C (x := nI 1) rfl dX12_merge_52 ?_
  refine mg_calliW C (s_goes l t0 ((nI 1)) ((nI 1)) v f g h) mCal_goes rfl ⟨by decide, by decide⟩ rfl (Nat.le_of_ble_eq_true rfl) dX12_merge_53 (fun r_2 v_2 f_2 g_2 h => ?_)
  refine mg_if_ne C 61 (by decide) dX12_merge_56 (fun c_ => ?_) (fun c_ => ?_)
  · have h := h.1 c_
    refine mg_aload_n C (i := 0) rfl 0 rfl dX12_merge_61 ?_
    refine mg_iconst C (x := nI 1) rfl dX12_merge_62 ?_
    refine mg_cast (bI true) rfl ?_
    refine mg_put C (k := 49) (by decide) rfl mL_merging rfl (by decide +kernel) mT_merging (bI_nar _) (bI_fit _) dX12_merge_63 ?_
    refine mg_nmV (fun v3 e_v3 => ?_)
    have h := h v3 e_v3
    refine mg_aload_n C (i := 0) rfl 0 rfl dX12_merge_66 ?_
    refine mg_iconst C (x := nI 0) rfl dX12_merge_67 ?_
    refine mg_put C (k := 52) (by decide) rfl mL_toCopy rfl (by decide +kernel) mT_toCopy rfl rfl dX12_merge_68 ?_
    refine mg_nmV (fun v4 e_v4 => ?_)
    have h := h v4 e_v4
    refine mg_aload_n C (i := 0) rfl 0 rfl dX12_merge_71 ?_
    refine mg_iconst C (x := nI 0) rfl dX12_merge_72 ?_
    refine mg_put C (k := 53) (by decide) rfl mL_copied rfl (by decide +kernel) mT_copied rfl rfl dX12_merge_73 ?_
    refine mg_nmV (fun v5 e_v5 => ?_)
    have h := h v5 e_v5
    refine mg_iconst C (x := nI 0) rfl dX12_merge_76 ?_
    refine mg_istore_n C (i := 2) (lv' := [(2, .int ((nI 0))), (0, .ref (a 0)), (1, .int x1)]) rfl (Nat.le_of_ble_eq_true rfl) rfl dX12_merge_77 ?_
    exact mg_sub [1, 2, 0] rfl (sl_merge_78 C  x1 (((nI 0))) v5 f_2 g_2 h)
  · have h := h.2 c_
    refine mg_iconst C (x := nI 0) rfl dX12_merge_59 ?_
    exact mg_iret C h dX12_merge_60
set_option maxRecDepth 20000 in
theorem sb_merge_50 (C : mC p s m args meth c cX12_merge 5 (some .int) A D cI cJ cZ) {post : Int32 → mS → Prop}   (x1 : Int32) (v : Nat → Int32) (f : Nat → Nat → Int32) (g : Nat → Nat → Int64) (h : r_merge_50 (fun r v f g => post r (v, f, g))  x1 v f g) : mG p l e (mRm 2 44) s m args below meth c A D cI cJ cZ a 5 (MQ below (va_Qi post (mB D cI cJ cZ a) A) args s 0 0 A) 50 [(0, .ref (a 0)), (1, .int x1)] [.ref (a 0)] v f g := by
  unfold r_merge_50 at h
  refine mg_iconst C (x := nI 0) rfl dX12_merge_50 ?_
  exact mg_sub [0, 1] rfl (sb_merge_51 C  x1 ((nI 0)) v f g h)
set_option maxRecDepth 20000 in
theorem sb_merge_15 (C : mC p s m args meth c cX12_merge 5 (some .int) A D cI cJ cZ) {post : Int32 → mS → Prop}   (t0 : Int32) (v : Nat → Int32) (f : Nat → Nat → Int32) (g : Nat → Nat → Int64) (h : r_merge_15 (fun r v f g => post r (v, f, g))  t0 v f g) : mG p l e (mRm 2 44) s m args below meth c A D cI cJ cZ a 5 (MQ below (va_Qi post (mB D cI cJ cZ a) A) args s 0 0 A) 15 [(0, .ref (a 0))] [.int t0] v f g := by
  unfold r_merge_15 at h
  refine mg_istore_n C (i := 1) (lv' := [(1, .int t0), (0, .ref (a 0))]) rfl (Nat.le_of_ble_eq_true rfl) rfl dX12_merge_15 ?_
  refine mg_aload_n C (i := 0) rfl 1 rfl dX12_merge_16 ?_
  refine mg_aload_n C (i := 0) rfl 1 rfl dX12_merge_17 ?_
  refine mg_getI C (k := 98) (by decide) rfl mL_down rfl dX12_merge_18 ?_
  refine mg_if_ne C 50 (by decide) dX12_merge_21 (fun c_ => ?_) (fun c_ => ?_)
  · have h := h.1 c_
    exact mg_sub [1, 0] rfl (sb_merge_50 C  t0 v f g h)
  · have h := h.2 c_
    refine mg_iload_n C (i := 1) rfl 0 rfl dX12_merge_24 ?_
    refine mg_iconst C (x := (-1)) rfl dX12_merge_25 ?_
    refine mg_icmp_eq C 50 (by decide) dX12_merge_26 (fun c_ => ?_) (fun c_ => ?_)
    · have h := h.1 c_
      exact mg_sub [1, 0] rfl (sb_merge_50 C  t0 v f g h)
    · have h := h.2 c_
      refine mg_aload_n C (i := 0) rfl 1 rfl dX12_merge_29 ?_
      refine mg_getI C (k := 49) (by decide) rfl mL_merging rfl dX12_merge_30 ?_
      refine mg_if_ne C 50 (by decide) dX12_merge_33 (fun c_ => ?_) (fun c_ => ?_)
      · have h := h.1 c_
        exact mg_sub [1, 0] rfl (sb_merge_50 C  t0 v f g h)
      · have h := h.2 c_
        refine mg_aload_n C (i := 0) rfl 1 rfl dX12_merge_36 ?_
        refine mg_getI C (k := 29) (by decide) rfl mL_made rfl dX12_merge_37 ?_
        refine mg_sipush C (x := nI 200) rfl dX12_merge_40 ?_
        refine mg_icmp_ge C 50 (by decide) dX12_merge_43 (fun c_ => ?_) (fun c_ => ?_)
        · have h := h.1 c_
          exact mg_sub [1, 0] rfl (sb_merge_50 C  t0 v f g h)
        · have h := h.2 c_
          refine mg_iconst C (x := nI 1) rfl dX12_merge_46 ?_
          refine mg_goto C 51 (by decide) dX12_merge_47 ?_
          exact mg_sub [1, 0] rfl (sb_merge_51 C  t0 ((nI 1)) v f g h)
end S_merge
set_option maxHeartbeats 1000000 in
set_option maxRecDepth 20000 in
theorem s_merge (l : Launch)  (v : Nat → Int32) (f : Nat → Nat → Int32) (g : Nat → Nat → Int64) {P : Int32 → (Nat → Int32) → (Nat → Nat → Int32) → (Nat → Nat → Int64) → Prop} (h : r_merge P  v f g) : mMi l yX12_merge cX12_merge 5 (some .int) 2 44 false [] v f g (fun r w => P r w.1 w.2.1 w.2.2) := by
  intro D cI cJ cZ a sz
  refine mg_body (by decide +kernel) rfl (Nat.le_of_ble_eq_true rfl) ?_
  intro p e s m args below meth c hsz C
  clear hsz
  generalize va_A (mW cI cJ cZ a v f g) sz = A at C ⊢
  refine mg_lv (lv' := [(0, .ref (a 0))]) rfl ?_
  unfold r_merge at h
  refine mg_aload_n C (i := 0) rfl 0 rfl dX12_merge_0 ?_
  refine mg_getI C (k := 98) (by decide) rfl mL_down rfl dX12_merge_1 ?_
  refine mg_if_eq C 11 (by decide) dX12_merge_4 (fun c_ => ?_) (fun c_ => ?_)
  · have h := h.1 c_
    refine mg_aload_n C (i := 0) rfl 0 rfl dX12_merge_11 ?_
    refine mg_calliW C (s_dueAt l  v f g h) mCal_dueAt rfl ⟨by decide, by decide⟩ rfl (Nat.le_of_ble_eq_true rfl) dX12_merge_12 (fun r_1 v_1 f_1 g_1 h => ?_)
    exact mg_sub [0] rfl (sb_merge_15 C  r_1 v_1 f_1 g_1 h)
  · have h := h.2 c_
    refine mg_iconst C (x := (-1)) rfl dX12_merge_7 ?_
    refine mg_goto C 15 (by decide) dX12_merge_8 ?_
    exact mg_sub [0] rfl (sb_merge_15 C  (((-1))) v f g h)
def r_ends1_185 (Q : (Nat → Int32) → (Nat → Nat → Int32) → (Nat → Nat → Int64) → Prop)   (v : Nat → Int32) (f : Nat → Nat → Int32) (g : Nat → Nat → Int64) : Prop :=
∀ v3 : Nat → Int32, v3 = upd v 49 ((bI false)) → Q v3 f g
def r_ends1_107 (Q : (Nat → Int32) → (Nat → Nat → Int32) → (Nat → Nat → Int64) → Prop) (R107 : Int32 → Int32 → Int32 → (Nat → Int32) → (Nat → Nat → Int32) → (Nat → Nat → Int64) → Prop) (x1 : Int32) (x2 : Int32) (x3 : Int32) (v : Nat → Int32) (f : Nat → Nat → Int32) (g : Nat → Nat → Int64) : Prop :=
((((v 34)) ≤ x3 →
  ∀ v2 : Nat → Int32, v2 = upd v 34 ((((v 34)) - x2)) → ((((v2 53)) ≤ 0 →
    r_ends1_185 Q  v2 f g) ∧
   (¬ ((v2 53)) ≤ 0 →
    vp_in x1 202 ∧ (∀ f4 : Nat → Nat → Int32, f4 = mU f 24 (x1).toNatClampNeg ((v2 29)) → vp_in ((v2 29)) 202 ∧ (∀ f5 : Nat → Nat → Int32, f5 = mU f4 20 ((v2 29)).toNatClampNeg ((v2 53)) → ∀ v6 : Nat → Int32, v6 = upd v2 29 ((((v2 29)) + ((nI 1)))) → r_ends1_185 Q  v6 f5 g))))) ∧
 (¬ ((v 34)) ≤ x3 →
  vp_in x3 202 ∧ (vp_in ((x3 - x2)) 202 ∧ (∀ f7 : Nat → Nat → Int32, f7 = mU f 24 ((x3 - x2)).toNatClampNeg ((f 24 (x3).toNatClampNeg)) → ∀ x3_8 : Int32, x3_8 = x3 + nI 1 → R107 x1 x2 x3_8 v f7 g))))
def r_ends1_107L (Q : (Nat → Int32) → (Nat → Nat → Int32) → (Nat → Nat → Int64) → Prop)  (x1 : Int32) (x2 : Int32) (x3 : Int32) (v : Nat → Int32) (f : Nat → Nat → Int32) (g : Nat → Nat → Int64) : Prop :=
  lfp (X := Int32 × Int32 × Int32 × (Nat → Int32) × (Nat → Nat → Int32) × (Nat → Nat → Int64)) (fun P y => r_ends1_107 Q  (fun b0 b1 b2 v f g => P (b0, b1, b2, v, f, g)) y.1 y.2.1 y.2.2.1 y.2.2.2.1 y.2.2.2.2.1 y.2.2.2.2.2) (x1, x2, x3, v, f, g)
def r_ends1_102 (Q : (Nat → Int32) → (Nat → Nat → Int32) → (Nat → Nat → Int64) → Prop)  (x1 : Int32) (t0 : Int32) (v : Nat → Int32) (f : Nat → Nat → Int32) (g : Nat → Nat → Int64) : Prop :=
∀ x3_1 : Int32, x3_1 = (x1 + ((nI 3))) → r_ends1_107L Q  x1 t0 x3_1 v f g
def r_ends1_25 (Q : (Nat → Int32) → (Nat → Nat → Int32) → (Nat → Nat → Int64) → Prop) (R25 : Int32 → Int32 → (Nat → Int32) → (Nat → Nat → Int32) → (Nat → Nat → Int64) → Prop) (x1 : Int32) (x2 : Int32) (v : Nat → Int32) (f : Nat → Nat → Int32) (g : Nat → Nat → Int64) : Prop :=
((((v 53)) ≤ x2 →
  ((¬ ((v 53)) = 0 →
    r_ends1_102 Q  x1 ((nI 2)) v f g) ∧
   (((v 53)) = 0 →
    r_ends1_102 Q  x1 ((nI 3)) v f g))) ∧
 (¬ ((v 53)) ≤ x2 →
  ∀ x3_9 : Int32, x3_9 = (((((nI 100)) * ((v 29)))) + x2) → vp_in x2 100 ∧ (vp_in ((f 34 (x2).toNatClampNeg)) 20200 ∧ (vp_in x3_9 20200 ∧ (∀ f10 : Nat → Nat → Int32, f10 = mU f 19 (x3_9).toNatClampNeg ((f 19 ((f 34 (x2).toNatClampNeg)).toNatClampNeg)) → vp_in x2 100 ∧ (vp_in ((f10 34 (x2).toNatClampNeg)) 20200 ∧ (vp_in x3_9 20200 ∧ (isZ ((f10 21 ((f10 34 (x2).toNatClampNeg)).toNatClampNeg)) ∧ (∀ f11 : Nat → Nat → Int32, f11 = mU f10 21 (x3_9).toNatClampNeg ((f10 21 ((f10 34 (x2).toNatClampNeg)).toNatClampNeg)) → vp_in x3_9 20200 ∧ (∀ f12 : Nat → Nat → Int32, f12 = mU f11 22 (x3_9).toNatClampNeg ((bI true)) → ∀ x2_13 : Int32, x2_13 = x2 + nI 1 → R25 x1 x2_13 v f12 g))))))))))
def r_ends1_25L (Q : (Nat → Int32) → (Nat → Nat → Int32) → (Nat → Nat → Int64) → Prop)  (x1 : Int32) (x2 : Int32) (v : Nat → Int32) (f : Nat → Nat → Int32) (g : Nat → Nat → Int64) : Prop :=
  lfp (X := Int32 × Int32 × (Nat → Int32) × (Nat → Nat → Int32) × (Nat → Nat → Int64)) (fun P y => r_ends1_25 Q  (fun b0 b1 v f g => P (b0, b1, v, f, g)) y.1 y.2.1 y.2.2.1 y.2.2.2.1 y.2.2.2.2) (x1, x2, v, f, g)
def r_ends1_2 (Q : (Nat → Int32) → (Nat → Nat → Int32) → (Nat → Nat → Int64) → Prop) (R2 : Int32 → (Nat → Int32) → (Nat → Nat → Int32) → (Nat → Nat → Int64) → Prop) (x1 : Int32) (v : Nat → Int32) (f : Nat → Nat → Int32) (g : Nat → Nat → Int64) : Prop :=
vp_in x1 202 ∧ (vp_in ((nI 0)) 3 ∧ (((((f 24 (x1).toNatClampNeg)) = ((f 33 ((nI 0)).toNatClampNeg)) →
  r_ends1_25L Q  x1 (((nI 0))) v f g) ∧
 (¬ ((f 24 (x1).toNatClampNeg)) = ((f 33 ((nI 0)).toNatClampNeg)) →
  ∀ x1_14 : Int32, x1_14 = x1 + nI 1 → R2 x1_14 v f g))))
def r_ends1_2L (Q : (Nat → Int32) → (Nat → Nat → Int32) → (Nat → Nat → Int64) → Prop)  (x1 : Int32) (v : Nat → Int32) (f : Nat → Nat → Int32) (g : Nat → Nat → Int64) : Prop :=
  lfp (X := Int32 × (Nat → Int32) × (Nat → Nat → Int32) × (Nat → Nat → Int64)) (fun P y => r_ends1_2 Q  (fun b0 v f g => P (b0, v, f, g)) y.1 y.2.1 y.2.2.1 y.2.2.2) (x1, v, f, g)
def r_ends1 (Q : (Nat → Int32) → (Nat → Nat → Int32) → (Nat → Nat → Int64) → Prop)  (v : Nat → Int32) (f : Nat → Nat → Int32) (g : Nat → Nat → Int64) : Prop :=
r_ends1_2L Q  (((nI 0))) v f g
section S_ends1
variable {p : Program} {l : Launch} {e : Env} {s : State} {m : MethodId} {args : Array Value} {below : List Frame} {meth : Method} {c : Code} {A : Nat → Prop} {D : va_G} {cI cJ cZ : ClassId} {a : Nat → Nat}
set_option maxRecDepth 20000 in
theorem sb_ends1_185 (C : mC p s m args meth c cX12_ends1 4 none A D cI cJ cZ) {post : mS → Prop}    (v : Nat → Int32) (f : Nat → Nat → Int32) (g : Nat → Nat → Int64) (h : r_ends1_185 (fun v f g => post (v, f, g))   v f g) : mG p l e (mRm 0 0) s m args below meth c A D cI cJ cZ a 4 (MQ below (va_Qv post (mB D cI cJ cZ a) A) args s 0 0 A) 185 [(0, .ref (a 0))] [] v f g := by
  unfold r_ends1_185 at h
  refine mg_aload_n C (i := 0) rfl 0 rfl dX12_ends1_185 ?_
  refine mg_iconst C (x := nI 0) rfl dX12_ends1_186 ?_
  refine mg_cast (bI false) rfl ?_
  refine mg_put C (k := 49) (by decide) rfl mL_merging rfl (by decide +kernel) mT_merging (bI_nar _) (bI_fit _) dX12_ends1_187 ?_
  refine mg_nmV (fun v3 e_v3 => ?_)
  have h := h v3 e_v3
  exact mg_vret C h dX12_ends1_190
set_option maxRecDepth 20000 in
theorem sb_ends1_107 (C : mC p s m args meth c cX12_ends1 4 none A D cI cJ cZ) {post : mS → Prop} {R107 : Int32 → Int32 → Int32 → (Nat → Int32) → (Nat → Nat → Int32) → (Nat → Nat → Int64) → Prop} (hR107 : ∀ (x1 : Int32) (x2 : Int32) (x3 : Int32) (v : Nat → Int32) (f : Nat → Nat → Int32) (g : Nat → Nat → Int64), R107 x1 x2 x3 v f g → mG p l e (mRm 0 0) s m args below meth c A D cI cJ cZ a 4 (MQ below (va_Qv post (mB D cI cJ cZ a) A) args s 0 0 A) 107 [(0, .ref (a 0)), (1, .int x1), (2, .int x2), (3, .int x3)] [] v f g) (x1 : Int32) (x2 : Int32) (x3 : Int32) (v : Nat → Int32) (f : Nat → Nat → Int32) (g : Nat → Nat → Int64) (h : r_ends1_107 (fun v f g => post (v, f, g)) R107 x1 x2 x3 v f g) : mG p l e (mRm 0 0) s m args below meth c A D cI cJ cZ a 4 (MQ below (va_Qv post (mB D cI cJ cZ a) A) args s 0 0 A) 107 [(0, .ref (a 0)), (1, .int x1), (2, .int x2), (3, .int x3)] [] v f g := by
  unfold r_ends1_107 at h
  refine mg_iload_n C (i := 3) rfl 3 rfl dX12_ends1_107 ?_
  refine mg_aload_n C (i := 0) rfl 0 rfl dX12_ends1_108 ?_
  refine mg_getI C (k := 34) (by decide) rfl mL_indexed rfl dX12_ends1_109 ?_
  refine mg_icmp_ge C 135 (by decide) dX12_ends1_112 (fun c_ => ?_) (fun c_ => ?_)
  · have h := h.1 c_
    refine mg_aload_n C (i := 0) rfl 0 rfl dX12_ends1_135 ?_
    refine mg_dup C rfl dX12_ends1_136 ?_
    refine mg_getI C (k := 34) (by decide) rfl mL_indexed rfl dX12_ends1_137 ?_
    refine mg_iload_n C (i := 2) rfl 2 rfl dX12_ends1_140 ?_
    refine mg_isub C dX12_ends1_141 ?_
    refine mg_put C (k := 34) (by decide) rfl mL_indexed rfl (by decide +kernel) mT_indexed rfl rfl dX12_ends1_142 ?_
    refine mg_nmV (fun v2 e_v2 => ?_)
    have h := h v2 e_v2
    refine mg_aload_n C (i := 0) rfl 0 rfl dX12_ends1_145 ?_
    refine mg_getI C (k := 53) (by decide) rfl mL_copied rfl dX12_ends1_146 ?_
    refine mg_if_le C 185 (by decide) dX12_ends1_149 (fun c_ => ?_) (fun c_ => ?_)
    · have h := h.1 c_
      exact mg_sub [0] rfl (sb_ends1_185 C  v2 f g h)
    · have h := h.2 c_
      refine mg_aload_n C (i := 0) rfl 0 rfl dX12_ends1_152 ?_
      refine mg_arr C 24 (by decide) (by decide) rfl mL_index rfl dX12_ends1_153 ?_
      refine mg_iload_n C (i := 1) rfl 1 rfl dX12_ends1_156 ?_
      refine mg_aload_n C (i := 0) rfl 0 rfl dX12_ends1_157 ?_
      refine mg_getI C (k := 29) (by decide) rfl mL_made rfl dX12_ends1_158 ?_
      obtain ⟨hc_161, h⟩ := h
      refine mg_iastoreR C (n := 202) 24 (by decide) (by decide) rfl rfl hc_161 dX12_ends1_161 ?_
      refine mg_nmF (fun f4 e_f4 => ?_)
      have h := h f4 e_f4
      refine mg_aload_n C (i := 0) rfl 0 rfl dX12_ends1_162 ?_
      refine mg_arr C 20 (by decide) (by decide) rfl mL_sizes rfl dX12_ends1_163 ?_
      refine mg_aload_n C (i := 0) rfl 0 rfl dX12_ends1_166 ?_
      refine mg_getI C (k := 29) (by decide) rfl mL_made rfl dX12_ends1_167 ?_
      refine mg_aload_n C (i := 0) rfl 0 rfl dX12_ends1_170 ?_
      refine mg_getI C (k := 53) (by decide) rfl mL_copied rfl dX12_ends1_171 ?_
      obtain ⟨hc_174, h⟩ := h
      refine mg_iastoreR C (n := 202) 20 (by decide) (by decide) rfl rfl hc_174 dX12_ends1_174 ?_
      refine mg_nmF (fun f5 e_f5 => ?_)
      have h := h f5 e_f5
      refine mg_aload_n C (i := 0) rfl 0 rfl dX12_ends1_175 ?_
      refine mg_dup C rfl dX12_ends1_176 ?_
      refine mg_getI C (k := 29) (by decide) rfl mL_made rfl dX12_ends1_177 ?_
      refine mg_iconst C (x := nI 1) rfl dX12_ends1_180 ?_
      refine mg_iadd C dX12_ends1_181 ?_
      refine mg_put C (k := 29) (by decide) rfl mL_made rfl (by decide +kernel) mT_made rfl rfl dX12_ends1_182 ?_
      refine mg_nmV (fun v6 e_v6 => ?_)
      have h := h v6 e_v6
      exact mg_sub [0] rfl (sb_ends1_185 C  v6 f5 g h)
  · have h := h.2 c_
    refine mg_aload_n C (i := 0) rfl 0 rfl dX12_ends1_115 ?_
    refine mg_arr C 24 (by decide) (by decide) rfl mL_index rfl dX12_ends1_116 ?_
    refine mg_iload_n C (i := 3) rfl 3 rfl dX12_ends1_119 ?_
    refine mg_iload_n C (i := 2) rfl 2 rfl dX12_ends1_120 ?_
    refine mg_isub C dX12_ends1_121 ?_
    refine mg_aload_n C (i := 0) rfl 0 rfl dX12_ends1_122 ?_
    refine mg_arr C 24 (by decide) (by decide) rfl mL_index rfl dX12_ends1_123 ?_
    refine mg_iload_n C (i := 3) rfl 3 rfl dX12_ends1_126 ?_
    obtain ⟨hc_127, h⟩ := h
    refine mg_ialoadR C (n := 202) 24 (by decide) (by decide) rfl rfl hc_127 dX12_ends1_127 ?_
    obtain ⟨hc_128, h⟩ := h
    refine mg_iastoreR C (n := 202) 24 (by decide) (by decide) rfl rfl hc_128 dX12_ends1_128 ?_
    refine mg_nmF (fun f7 e_f7 => ?_)
    have h := h f7 e_f7
    obtain ⟨x3_8, e_x3_8⟩ : ∃ z : Int32, z = x3 + nI 1 := ⟨_, rfl⟩
    have h := h x3_8 e_x3_8
    refine mg_iinc C (lv' := [(3, .int x3_8), (0, .ref (a 0)), (1, .int x1), (2, .int x2)]) 3 rfl (by rw [e_x3_8]; rfl) (Nat.le_of_ble_eq_true rfl) rfl dX12_ends1_129 ?_
    refine mg_goto C 107 (by decide) dX12_ends1_132 ?_
    exact mg_sub [1, 2, 3, 0] rfl (hR107 x1 x2 x3_8 v f7 g h)
set_option maxRecDepth 20000 in
theorem sl_ends1_107 (C : mC p s m args meth c cX12_ends1 4 none A D cI cJ cZ) {post : mS → Prop}   (x1 : Int32) (x2 : Int32) (x3 : Int32) (v : Nat → Int32) (f : Nat → Nat → Int32) (g : Nat → Nat → Int64) (h : r_ends1_107L (fun v f g => post (v, f, g))  x1 x2 x3 v f g) : mG p l e (mRm 0 0) s m args below meth c A D cI cJ cZ a 4 (MQ below (va_Qv post (mB D cI cJ cZ a) A) args s 0 0 A) 107 [(0, .ref (a 0)), (1, .int x1), (2, .int x2), (3, .int x3)] [] v f g :=
  h (fun y => mG p l e (mRm 0 0) s m args below meth c A D cI cJ cZ a 4 (MQ below (va_Qv post (mB D cI cJ cZ a) A) args s 0 0 A) 107 [(0, .ref (a 0)), (1, .int (y.1)), (2, .int (y.2.1)), (3, .int (y.2.2.1))] [] (y.2.2.2.1) (y.2.2.2.2.1) (y.2.2.2.2.2)) (fun y hy => sb_ends1_107 C  (fun b0 b1 b2 v f g z => z) (y.1) (y.2.1) (y.2.2.1) (y.2.2.2.1) (y.2.2.2.2.1) (y.2.2.2.2.2) hy)
set_option maxRecDepth 20000 in
theorem sb_ends1_102 (C : mC p s m args meth c cX12_ends1 4 none A D cI cJ cZ) {post : mS → Prop}   (x1 : Int32) (t0 : Int32) (v : Nat → Int32) (f : Nat → Nat → Int32) (g : Nat → Nat → Int64) (h : r_ends1_102 (fun v f g => post (v, f, g))  x1 t0 v f g) : mG p l e (mRm 0 0) s m args below meth c A D cI cJ cZ a 4 (MQ below (va_Qv post (mB D cI cJ cZ a) A) args s 0 0 A) 102 [(0, .ref (a 0)), (1, .int x1)] [.int t0] v f g := by
  unfold r_ends1_102 at h
  refine mg_istore_n C (i := 2) (lv' := [(2, .int t0), (0, .ref (a 0)), (1, .int x1)]) rfl (Nat.le_of_ble_eq_true rfl) rfl dX12_ends1_102 ?_
  refine mg_iload_n C (i := 1) rfl 2 rfl dX12_ends1_103 ?_
  refine mg_iconst C (x := nI 3) rfl dX12_ends1_104 ?_
  refine mg_iadd C dX12_ends1_105 ?_
  refine mg_nmI (fun x3_1 e_x3_1 => ?_)
  have h := h x3_1 e_x3_1
  refine mg_istore_n C (i := 3) (lv' := [(3, .int x3_1), (2, .int t0), (0, .ref (a 0)), (1, .int x1)]) rfl (Nat.le_of_ble_eq_true rfl) rfl dX12_ends1_106 ?_
  exact mg_sub [2, 3, 1, 0] rfl (sl_ends1_107 C  x1 t0 x3_1 v f g h)
set_option maxRecDepth 20000 in
theorem sb_ends1_25 (C : mC p s m args meth c cX12_ends1 4 none A D cI cJ cZ) {post : mS → Prop} {R25 : Int32 → Int32 → (Nat → Int32) → (Nat → Nat → Int32) → (Nat → Nat → Int64) → Prop} (hR25 : ∀ (x1 : Int32) (x2 : Int32) (v : Nat → Int32) (f : Nat → Nat → Int32) (g : Nat → Nat → Int64), R25 x1 x2 v f g → mG p l e (mRm 0 0) s m args below meth c A D cI cJ cZ a 4 (MQ below (va_Qv post (mB D cI cJ cZ a) A) args s 0 0 A) 25 [(0, .ref (a 0)), (1, .int x1), (2, .int x2)] [] v f g) (x1 : Int32) (x2 : Int32) (v : Nat → Int32) (f : Nat → Nat → Int32) (g : Nat → Nat → Int64) (h : r_ends1_25 (fun v f g => post (v, f, g)) R25 x1 x2 v f g) : mG p l e (mRm 0 0) s m args below meth c A D cI cJ cZ a 4 (MQ below (va_Qv post (mB D cI cJ cZ a) A) args s 0 0 A) 25 [(0, .ref (a 0)), (1, .int x1), (2, .int x2)] [] v f g := by
  unfold r_ends1_25 at h
  refine mg_iload_n C (i := 2) rfl 2 rfl dX12_ends1_25 ?_
  refine mg_aload_n C (i := 0) rfl 0 rfl dX12_ends1_26 ?_
  refine mg_getI C (k := 53) (by decide) rfl mL_copied rfl dX12_ends1_27 ?_
  refine mg_icmp_ge C 90 (by decide) dX12_ends1_30 (fun c_ => ?_) (fun c_ => ?_)
  · have h := h.1 c_
    refine mg_aload_n C (i := 0) rfl 0 rfl dX12_ends1_90 ?_
    refine mg_getI C (k := 53) (by decide) rfl mL_copied rfl dX12_ends1_91 ?_
    refine mg_if_ne C 101 (by decide) dX12_ends1_94 (fun c_ => ?_) (fun c_ => ?_)
    · have h := h.1 c_
      refine mg_iconst C (x := nI 2) rfl dX12_ends1_101 ?_
      exact mg_sub [0, 1] rfl (sb_ends1_102 C  x1 ((nI 2)) v f g h)
    · have h := h.2 c_
      refine mg_iconst C (x := nI 3) rfl dX12_ends1_97 ?_
      refine mg_goto C 102 (by decide) dX12_ends1_98 ?_
      exact mg_sub [0, 1] rfl (sb_ends1_102 C  x1 ((nI 3)) v f g h)
  · have h := h.2 c_
    refine mg_bipush C (x := nI 100) rfl dX12_ends1_33 ?_
    refine mg_aload_n C (i := 0) rfl 0 rfl dX12_ends1_35 ?_
    refine mg_getI C (k := 29) (by decide) rfl mL_made rfl dX12_ends1_36 ?_
    refine mg_imul C dX12_ends1_39 ?_
    refine mg_iload_n C (i := 2) rfl 2 rfl dX12_ends1_40 ?_
    refine mg_iadd C dX12_ends1_41 ?_
    refine mg_nmI (fun x3_9 e_x3_9 => ?_)
    have h := h x3_9 e_x3_9
    refine mg_istore_n C (i := 3) (lv' := [(3, .int x3_9), (0, .ref (a 0)), (1, .int x1), (2, .int x2)]) rfl (Nat.le_of_ble_eq_true rfl) rfl dX12_ends1_42 ?_
    refine mg_aload_n C (i := 0) rfl 1 rfl dX12_ends1_43 ?_
    refine mg_arr C 19 (by decide) (by decide) rfl mL_held rfl dX12_ends1_44 ?_
    refine mg_iload_n C (i := 3) rfl 0 rfl dX12_ends1_47 ?_
    refine mg_aload_n C (i := 0) rfl 1 rfl dX12_ends1_48 ?_
    refine mg_arr C 19 (by decide) (by decide) rfl mL_held rfl dX12_ends1_49 ?_
    refine mg_aload_n C (i := 0) rfl 1 rfl dX12_ends1_52 ?_
    refine mg_arr C 34 (by decide) (by decide) rfl mL_copies rfl dX12_ends1_53 ?_
    refine mg_iload_n C (i := 2) rfl 3 rfl dX12_ends1_56 ?_
    obtain ⟨hc_57, h⟩ := h
    refine mg_ialoadR C (n := 100) 34 (by decide) (by decide) rfl rfl hc_57 dX12_ends1_57 ?_
    obtain ⟨hc_58, h⟩ := h
    refine mg_ialoadR C (n := 20200) 19 (by decide) (by decide) rfl rfl hc_58 dX12_ends1_58 ?_
    obtain ⟨hc_59, h⟩ := h
    refine mg_iastoreR C (n := 20200) 19 (by decide) (by decide) rfl rfl hc_59 dX12_ends1_59 ?_
    refine mg_nmF (fun f10 e_f10 => ?_)
    have h := h f10 e_f10
    refine mg_aload_n C (i := 0) rfl 1 rfl dX12_ends1_60 ?_
    refine mg_arr C 21 (by decide) (by decide) rfl mL_live rfl dX12_ends1_61 ?_
    refine mg_iload_n C (i := 3) rfl 0 rfl dX12_ends1_64 ?_
    refine mg_aload_n C (i := 0) rfl 1 rfl dX12_ends1_65 ?_
    refine mg_arr C 21 (by decide) (by decide) rfl mL_live rfl dX12_ends1_66 ?_
    refine mg_aload_n C (i := 0) rfl 1 rfl dX12_ends1_69 ?_
    refine mg_arr C 34 (by decide) (by decide) rfl mL_copies rfl dX12_ends1_70 ?_
    refine mg_iload_n C (i := 2) rfl 3 rfl dX12_ends1_73 ?_
    obtain ⟨hc_74, h⟩ := h
    refine mg_ialoadR C (n := 100) 34 (by decide) (by decide) rfl rfl hc_74 dX12_ends1_74 ?_
    obtain ⟨hc_75, h⟩ := h
    refine mg_baloadR C (n := 20200) 21 (by decide) (by decide) rfl rfl hc_75 dX12_ends1_75 ?_
    obtain ⟨hc_76, h⟩ := h
    obtain ⟨hz_76, h⟩ := h
    refine mg_bastoreR C (n := 20200) 21 (by decide) (by decide) rfl rfl hc_76 (isZ_vp hz_76) dX12_ends1_76 ?_
    refine mg_nmF (fun f11 e_f11 => ?_)
    have h := h f11 e_f11
    refine mg_aload_n C (i := 0) rfl 1 rfl dX12_ends1_77 ?_
    refine mg_arr C 22 (by decide) (by decide) rfl mL_wrote rfl dX12_ends1_78 ?_
    refine mg_iload_n C (i := 3) rfl 0 rfl dX12_ends1_81 ?_
    refine mg_iconst C (x := nI 1) rfl dX12_ends1_82 ?_
    obtain ⟨hc_83, h⟩ := h
    refine mg_cast (bI true) rfl ?_
    refine mg_bastoreR C (n := 20200) 22 (by decide) (by decide) rfl rfl hc_83 (bI_vp _) dX12_ends1_83 ?_
    refine mg_nmF (fun f12 e_f12 => ?_)
    have h := h f12 e_f12
    obtain ⟨x2_13, e_x2_13⟩ : ∃ z : Int32, z = x2 + nI 1 := ⟨_, rfl⟩
    have h := h x2_13 e_x2_13
    refine mg_iinc C (lv' := [(2, .int x2_13), (3, .int x3_9), (0, .ref (a 0)), (1, .int x1)]) 3 rfl (by rw [e_x2_13]; rfl) (Nat.le_of_ble_eq_true rfl) rfl dX12_ends1_84 ?_
    refine mg_goto C 25 (by decide) dX12_ends1_87 ?_
    exact mg_sub [2, 3, 0] rfl (hR25 x1 x2_13 v f12 g h)
set_option maxRecDepth 20000 in
theorem sl_ends1_25 (C : mC p s m args meth c cX12_ends1 4 none A D cI cJ cZ) {post : mS → Prop}   (x1 : Int32) (x2 : Int32) (v : Nat → Int32) (f : Nat → Nat → Int32) (g : Nat → Nat → Int64) (h : r_ends1_25L (fun v f g => post (v, f, g))  x1 x2 v f g) : mG p l e (mRm 0 0) s m args below meth c A D cI cJ cZ a 4 (MQ below (va_Qv post (mB D cI cJ cZ a) A) args s 0 0 A) 25 [(0, .ref (a 0)), (1, .int x1), (2, .int x2)] [] v f g :=
  h (fun y => mG p l e (mRm 0 0) s m args below meth c A D cI cJ cZ a 4 (MQ below (va_Qv post (mB D cI cJ cZ a) A) args s 0 0 A) 25 [(0, .ref (a 0)), (1, .int (y.1)), (2, .int (y.2.1))] [] (y.2.2.1) (y.2.2.2.1) (y.2.2.2.2)) (fun y hy => sb_ends1_25 C  (fun b0 b1 v f g z => z) (y.1) (y.2.1) (y.2.2.1) (y.2.2.2.1) (y.2.2.2.2) hy)
set_option maxRecDepth 20000 in
theorem sb_ends1_2 (C : mC p s m args meth c cX12_ends1 4 none A D cI cJ cZ) {post : mS → Prop} {R2 : Int32 → (Nat → Int32) → (Nat → Nat → Int32) → (Nat → Nat → Int64) → Prop} (hR2 : ∀ (x1 : Int32) (v : Nat → Int32) (f : Nat → Nat → Int32) (g : Nat → Nat → Int64), R2 x1 v f g → mG p l e (mRm 0 0) s m args below meth c A D cI cJ cZ a 4 (MQ below (va_Qv post (mB D cI cJ cZ a) A) args s 0 0 A) 2 [(0, .ref (a 0)), (1, .int x1)] [] v f g) (x1 : Int32) (v : Nat → Int32) (f : Nat → Nat → Int32) (g : Nat → Nat → Int64) (h : r_ends1_2 (fun v f g => post (v, f, g)) R2 x1 v f g) : mG p l e (mRm 0 0) s m args below meth c A D cI cJ cZ a 4 (MQ below (va_Qv post (mB D cI cJ cZ a) A) args s 0 0 A) 2 [(0, .ref (a 0)), (1, .int x1)] [] v f g := by
  unfold r_ends1_2 at h
  refine mg_aload_n C (i := 0) rfl 0 rfl dX12_ends1_2 ?_
  refine mg_arr C 24 (by decide) (by decide) rfl mL_index rfl dX12_ends1_3 ?_
  refine mg_iload_n C (i := 1) rfl 1 rfl dX12_ends1_6 ?_
  obtain ⟨hc_7, h⟩ := h
  refine mg_ialoadR C (n := 202) 24 (by decide) (by decide) rfl rfl hc_7 dX12_ends1_7 ?_
  refine mg_aload_n C (i := 0) rfl 0 rfl dX12_ends1_8 ?_
  refine mg_arr C 33 (by decide) (by decide) rfl mL_sources rfl dX12_ends1_9 ?_
  refine mg_iconst C (x := nI 0) rfl dX12_ends1_12 ?_
  obtain ⟨hc_13, h⟩ := h
  refine mg_ialoadR C (n := 3) 33 (by decide) (by decide) rfl rfl hc_13 dX12_ends1_13 ?_
  refine mg_icmp_eq C 23 (by decide) dX12_ends1_14 (fun c_ => ?_) (fun c_ => ?_)
  · have h := h.1 c_
    refine mg_iconst C (x := nI 0) rfl dX12_ends1_23 ?_
    refine mg_istore_n C (i := 2) (lv' := [(2, .int ((nI 0))), (0, .ref (a 0)), (1, .int x1)]) rfl (Nat.le_of_ble_eq_true rfl) rfl dX12_ends1_24 ?_
    exact mg_sub [1, 2, 0] rfl (sl_ends1_25 C  x1 (((nI 0))) v f g h)
  · have h := h.2 c_
    obtain ⟨x1_14, e_x1_14⟩ : ∃ z : Int32, z = x1 + nI 1 := ⟨_, rfl⟩
    have h := h x1_14 e_x1_14
    refine mg_iinc C (lv' := [(1, .int x1_14), (0, .ref (a 0))]) 1 rfl (by rw [e_x1_14]; rfl) (Nat.le_of_ble_eq_true rfl) rfl dX12_ends1_17 ?_
    refine mg_goto C 2 (by decide) dX12_ends1_20 ?_
    exact mg_sub [1, 0] rfl (hR2 x1_14 v f g h)
set_option maxRecDepth 20000 in
theorem sl_ends1_2 (C : mC p s m args meth c cX12_ends1 4 none A D cI cJ cZ) {post : mS → Prop}   (x1 : Int32) (v : Nat → Int32) (f : Nat → Nat → Int32) (g : Nat → Nat → Int64) (h : r_ends1_2L (fun v f g => post (v, f, g))  x1 v f g) : mG p l e (mRm 0 0) s m args below meth c A D cI cJ cZ a 4 (MQ below (va_Qv post (mB D cI cJ cZ a) A) args s 0 0 A) 2 [(0, .ref (a 0)), (1, .int x1)] [] v f g :=
  h (fun y => mG p l e (mRm 0 0) s m args below meth c A D cI cJ cZ a 4 (MQ below (va_Qv post (mB D cI cJ cZ a) A) args s 0 0 A) 2 [(0, .ref (a 0)), (1, .int (y.1))] [] (y.2.1) (y.2.2.1) (y.2.2.2)) (fun y hy => sb_ends1_2 C  (fun b0 v f g z => z) (y.1) (y.2.1) (y.2.2.1) (y.2.2.2) hy)
end S_ends1
set_option maxHeartbeats 1000000 in
set_option maxRecDepth 20000 in
theorem s_ends1 (l : Launch)  (v : Nat → Int32) (f : Nat → Nat → Int32) (g : Nat → Nat → Int64) {P : (Nat → Int32) → (Nat → Nat → Int32) → (Nat → Nat → Int64) → Prop} (h : r_ends1 P  v f g) : mMv l yX12_ends1 cX12_ends1 4 none 0 0 false [] v f g (fun w => P w.1 w.2.1 w.2.2) := by
  intro D cI cJ cZ a sz
  refine mg_body (by decide +kernel) rfl (Nat.le_of_ble_eq_true rfl) ?_
  intro p e s m args below meth c hsz C
  clear hsz
  generalize va_A (mW cI cJ cZ a v f g) sz = A at C ⊢
  refine mg_lv (lv' := [(0, .ref (a 0))]) rfl ?_
  unfold r_ends1 at h
  refine mg_iconst C (x := nI 0) rfl dX12_ends1_0 ?_
  refine mg_istore_n C (i := 1) (lv' := [(1, .int ((nI 0))), (0, .ref (a 0))]) rfl (Nat.le_of_ble_eq_true rfl) rfl dX12_ends1_1 ?_
  exact mg_sub [1, 0] rfl (sl_ends1_2 C  (((nI 0))) v f g h)
def r_step_20 (Q : Int32 → (Nat → Int32) → (Nat → Nat → Int32) → (Nat → Nat → Int64) → Prop)  (t0 : Int32) (v : Nat → Int32) (f : Nat → Nat → Int32) (g : Nat → Nat → Int64) : Prop :=
r_goes (fun r_1 v_1 f_1 g_1 => 
((¬ r_1 = 0 →
  r_writes1 (fun r_2 v_2 f_2 g_2 => 
  ((¬ r_2 = 0 →
    ((((v_2 52)) ≤ ((v_2 53)) →
      r_ends1 (fun v_3 f_3 g_3 => 
      Q (((-1))) v_3 f_3 g_3)  v_2 f_2 g_2) ∧
     (¬ ((v_2 52)) ≤ ((v_2 53)) →
      ∀ v4 : Nat → Int32, v4 = upd v_2 53 ((((v_2 53)) + ((nI 1)))) → Q ((((v4 52)) - ((v4 53)))) v4 f_2 g_2))) ∧
   (r_2 = 0 →
    Q (((-2))) v_2 f_2 g_2)))  v_1 f_1 g_1) ∧
 (r_1 = 0 →
  Q ((nI 0)) v_1 f_1 g_1))) t0 ((nI 1)) ((nI 1)) v f g
def r_step_19 (Q : Int32 → (Nat → Int32) → (Nat → Nat → Int32) → (Nat → Nat → Int64) → Prop)   (v : Nat → Int32) (f : Nat → Nat → Int32) (g : Nat → Nat → Int64) : Prop :=
r_step_20 Q  ((nI 0)) v f g
def r_step (Q : Int32 → (Nat → Int32) → (Nat → Nat → Int32) → (Nat → Nat → Int64) → Prop)  (v : Nat → Int32) (f : Nat → Nat → Int32) (g : Nat → Nat → Int64) : Prop :=
((¬ ((v 98)) = 0 →
  r_step_19 Q  v f g) ∧
 (((v 98)) = 0 →
  ((((v 49)) = 0 →
    r_step_19 Q  v f g) ∧
   (¬ ((v 49)) = 0 →
    r_step_20 Q  ((nI 1)) v f g))))
section S_step
variable {p : Program} {l : Launch} {e : Env} {s : State} {m : MethodId} {args : Array Value} {below : List Frame} {meth : Method} {c : Code} {A : Nat → Prop} {D : va_G} {cI cJ cZ : ClassId} {a : Nat → Nat}
set_option maxRecDepth 20000 in
theorem sb_step_20 (C : mC p s m args meth c cX12_step 1 (some .int) A D cI cJ cZ) {post : Int32 → mS → Prop}   (t0 : Int32) (v : Nat → Int32) (f : Nat → Nat → Int32) (g : Nat → Nat → Int64) (h : r_step_20 (fun r v f g => post r (v, f, g))  t0 v f g) : mG p l e (mRm 1 23) s m args below meth c A D cI cJ cZ a 1 (MQ below (va_Qi post (mB D cI cJ cZ a) A) args s 0 0 A) 20 [(0, .ref (a 0))] [.int t0, .ref (a 0)] v f g := by
  unfold r_step_20 at h
  refine mg_iconst C (x := nI 1) rfl dX12_step_20 ?_
  refine mg_iconst C (x := nI 1) rfl dX12_step_21 ?_
  refine mg_calliW C (s_goes l t0 ((nI 1)) ((nI 1)) v f g h) mCal_goes rfl ⟨by decide, by decide⟩ rfl (Nat.le_of_ble_eq_true rfl) dX12_step_22 (fun r_1 v_1 f_1 g_1 h => ?_)
  refine mg_if_ne C 30 (by decide) dX12_step_25 (fun c_ => ?_) (fun c_ => ?_)
  · have h := h.1 c_
    refine mg_aload_n C (i := 0) rfl 0 rfl dX12_step_30 ?_
    refine mg_calliW C (s_writes1 l  v_1 f_1 g_1 h) mCal_writes1 rfl ⟨by decide, by decide⟩ rfl (Nat.le_of_ble_eq_true rfl) dX12_step_31 (fun r_2 v_2 f_2 g_2 h => ?_)
    refine mg_if_ne C 40 (by decide) dX12_step_34 (fun c_ => ?_) (fun c_ => ?_)
    · have h := h.1 c_
      refine mg_aload_n C (i := 0) rfl 0 rfl dX12_step_40 ?_
      refine mg_getI C (k := 53) (by decide) rfl mL_copied rfl dX12_step_41 ?_
      refine mg_aload_n C (i := 0) rfl 0 rfl dX12_step_44 ?_
      refine mg_getI C (k := 52) (by decide) rfl mL_toCopy rfl dX12_step_45 ?_
      refine mg_icmp_ge C 71 (by decide) dX12_step_48 (fun c_ => ?_) (fun c_ => ?_)
      · have h := h.1 c_
        refine mg_aload_n C (i := 0) rfl 0 rfl dX12_step_71 ?_
        refine mg_callvW C (s_ends1 l  v_2 f_2 g_2 h) mCal_ends1 rfl ⟨by decide, by decide⟩ rfl (Nat.le_of_ble_eq_true rfl) dX12_step_72 (fun v_3 f_3 g_3 h => ?_)
        refine mg_iconst C (x := (-1)) rfl dX12_step_75 ?_
        exact mg_iret C h dX12_step_76
      · have h := h.2 c_
        refine mg_aload_n C (i := 0) rfl 0 rfl dX12_step_51 ?_
        refine mg_dup C rfl dX12_step_52 ?_
        refine mg_getI C (k := 53) (by decide) rfl mL_copied rfl dX12_step_53 ?_
        refine mg_iconst C (x := nI 1) rfl dX12_step_56 ?_
        refine mg_iadd C dX12_step_57 ?_
        refine mg_put C (k := 53) (by decide) rfl mL_copied rfl (by decide +kernel) mT_copied rfl rfl dX12_step_58 ?_
        refine mg_nmV (fun v4 e_v4 => ?_)
        have h := h v4 e_v4
        refine mg_aload_n C (i := 0) rfl 0 rfl dX12_step_61 ?_
        refine mg_getI C (k := 52) (by decide) rfl mL_toCopy rfl dX12_step_62 ?_
        refine mg_aload_n C (i := 0) rfl 0 rfl dX12_step_65 ?_
        refine mg_getI C (k := 53) (by decide) rfl mL_copied rfl dX12_step_66 ?_
        refine mg_isub C dX12_step_69 ?_
        exact mg_iret C h dX12_step_70
    · have h := h.2 c_
      refine mg_bipush C (x := (-2)) rfl dX12_step_37 ?_
      exact mg_iret C h dX12_step_39
  · have h := h.2 c_
    refine mg_iconst C (x := nI 0) rfl dX12_step_28 ?_
    exact mg_iret C h dX12_step_29
set_option maxRecDepth 20000 in
theorem sb_step_19 (C : mC p s m args meth c cX12_step 1 (some .int) A D cI cJ cZ) {post : Int32 → mS → Prop}    (v : Nat → Int32) (f : Nat → Nat → Int32) (g : Nat → Nat → Int64) (h : r_step_19 (fun r v f g => post r (v, f, g))   v f g) : mG p l e (mRm 1 23) s m args below meth c A D cI cJ cZ a 1 (MQ below (va_Qi post (mB D cI cJ cZ a) A) args s 0 0 A) 19 [(0, .ref (a 0))] [.ref (a 0)] v f g := by
  unfold r_step_19 at h
  refine mg_iconst C (x := nI 0) rfl dX12_step_19 ?_
  exact mg_sub [0] rfl (sb_step_20 C  ((nI 0)) v f g h)
end S_step
set_option maxHeartbeats 1000000 in
set_option maxRecDepth 20000 in
theorem s_step (l : Launch)  (v : Nat → Int32) (f : Nat → Nat → Int32) (g : Nat → Nat → Int64) {P : Int32 → (Nat → Int32) → (Nat → Nat → Int32) → (Nat → Nat → Int64) → Prop} (h : r_step P  v f g) : mMi l yX12_step cX12_step 1 (some .int) 1 23 false [] v f g (fun r w => P r w.1 w.2.1 w.2.2) := by
  intro D cI cJ cZ a sz
  refine mg_body (by decide +kernel) rfl (Nat.le_of_ble_eq_true rfl) ?_
  intro p e s m args below meth c hsz C
  clear hsz
  generalize va_A (mW cI cJ cZ a v f g) sz = A at C ⊢
  refine mg_lv (lv' := [(0, .ref (a 0))]) rfl ?_
  unfold r_step at h
  refine mg_aload_n C (i := 0) rfl 0 rfl dX12_step_0 ?_
  refine mg_aload_n C (i := 0) rfl 0 rfl dX12_step_1 ?_
  refine mg_getI C (k := 98) (by decide) rfl mL_down rfl dX12_step_2 ?_
  refine mg_if_ne C 19 (by decide) dX12_step_5 (fun c_ => ?_) (fun c_ => ?_)
  · have h := h.1 c_
    exact mg_sub [0] rfl (sb_step_19 C  v f g h)
  · have h := h.2 c_
    refine mg_aload_n C (i := 0) rfl 0 rfl dX12_step_8 ?_
    refine mg_getI C (k := 49) (by decide) rfl mL_merging rfl dX12_step_9 ?_
    refine mg_if_eq C 19 (by decide) dX12_step_12 (fun c_ => ?_) (fun c_ => ?_)
    · have h := h.1 c_
      exact mg_sub [0] rfl (sb_step_19 C  v f g h)
    · have h := h.2 c_
      refine mg_iconst C (x := nI 1) rfl dX12_step_15 ?_
      refine mg_goto C 20 (by decide) dX12_step_16 ?_
      exact mg_sub [0] rfl (sb_step_20 C  ((nI 1)) v f g h)
def r_giveUp_20 (Q : Int32 → (Nat → Int32) → (Nat → Nat → Int32) → (Nat → Nat → Int64) → Prop)  (t0 : Int32) (v : Nat → Int32) (f : Nat → Nat → Int32) (g : Nat → Nat → Int64) : Prop :=
r_goes (fun r_1 v_1 f_1 g_1 => 
((¬ r_1 = 0 →
  ∀ v2 : Nat → Int32, v2 = upd v_1 49 ((bI false)) → Q ((v2 53)) v2 f_1 g_1) ∧
 (r_1 = 0 →
  Q ((nI 0)) v_1 f_1 g_1))) t0 ((nI 1)) ((nI 1)) v f g
def r_giveUp_19 (Q : Int32 → (Nat → Int32) → (Nat → Nat → Int32) → (Nat → Nat → Int64) → Prop)   (v : Nat → Int32) (f : Nat → Nat → Int32) (g : Nat → Nat → Int64) : Prop :=
r_giveUp_20 Q  ((nI 0)) v f g
def r_giveUp (Q : Int32 → (Nat → Int32) → (Nat → Nat → Int32) → (Nat → Nat → Int64) → Prop)  (v : Nat → Int32) (f : Nat → Nat → Int32) (g : Nat → Nat → Int64) : Prop :=
((¬ ((v 98)) = 0 →
  r_giveUp_19 Q  v f g) ∧
 (((v 98)) = 0 →
  ((((v 49)) = 0 →
    r_giveUp_19 Q  v f g) ∧
   (¬ ((v 49)) = 0 →
    r_giveUp_20 Q  ((nI 1)) v f g))))
section S_giveUp
variable {p : Program} {l : Launch} {e : Env} {s : State} {m : MethodId} {args : Array Value} {below : List Frame} {meth : Method} {c : Code} {A : Nat → Prop} {D : va_G} {cI cJ cZ : ClassId} {a : Nat → Nat}
set_option maxRecDepth 20000 in
theorem sb_giveUp_20 (C : mC p s m args meth c cX12_giveUp 1 (some .int) A D cI cJ cZ) {post : Int32 → mS → Prop}   (t0 : Int32) (v : Nat → Int32) (f : Nat → Nat → Int32) (g : Nat → Nat → Int64) (h : r_giveUp_20 (fun r v f g => post r (v, f, g))  t0 v f g) : mG p l e (mRm 1 23) s m args below meth c A D cI cJ cZ a 1 (MQ below (va_Qi post (mB D cI cJ cZ a) A) args s 0 0 A) 20 [(0, .ref (a 0))] [.int t0, .ref (a 0)] v f g := by
  unfold r_giveUp_20 at h
  refine mg_iconst C (x := nI 1) rfl dX12_giveUp_20 ?_
  refine mg_iconst C (x := nI 1) rfl dX12_giveUp_21 ?_
  refine mg_calliW C (s_goes l t0 ((nI 1)) ((nI 1)) v f g h) mCal_goes rfl ⟨by decide, by decide⟩ rfl (Nat.le_of_ble_eq_true rfl) dX12_giveUp_22 (fun r_1 v_1 f_1 g_1 h => ?_)
  refine mg_if_ne C 30 (by decide) dX12_giveUp_25 (fun c_ => ?_) (fun c_ => ?_)
  · have h := h.1 c_
    refine mg_aload_n C (i := 0) rfl 0 rfl dX12_giveUp_30 ?_
    refine mg_iconst C (x := nI 0) rfl dX12_giveUp_31 ?_
    refine mg_cast (bI false) rfl ?_
    refine mg_put C (k := 49) (by decide) rfl mL_merging rfl (by decide +kernel) mT_merging (bI_nar _) (bI_fit _) dX12_giveUp_32 ?_
    refine mg_nmV (fun v2 e_v2 => ?_)
    have h := h v2 e_v2
    refine mg_aload_n C (i := 0) rfl 0 rfl dX12_giveUp_35 ?_
    refine mg_getI C (k := 53) (by decide) rfl mL_copied rfl dX12_giveUp_36 ?_
    exact mg_iret C h dX12_giveUp_39
  · have h := h.2 c_
    refine mg_iconst C (x := nI 0) rfl dX12_giveUp_28 ?_
    exact mg_iret C h dX12_giveUp_29
set_option maxRecDepth 20000 in
theorem sb_giveUp_19 (C : mC p s m args meth c cX12_giveUp 1 (some .int) A D cI cJ cZ) {post : Int32 → mS → Prop}    (v : Nat → Int32) (f : Nat → Nat → Int32) (g : Nat → Nat → Int64) (h : r_giveUp_19 (fun r v f g => post r (v, f, g))   v f g) : mG p l e (mRm 1 23) s m args below meth c A D cI cJ cZ a 1 (MQ below (va_Qi post (mB D cI cJ cZ a) A) args s 0 0 A) 19 [(0, .ref (a 0))] [.ref (a 0)] v f g := by
  unfold r_giveUp_19 at h
  refine mg_iconst C (x := nI 0) rfl dX12_giveUp_19 ?_
  exact mg_sub [0] rfl (sb_giveUp_20 C  ((nI 0)) v f g h)
end S_giveUp
set_option maxHeartbeats 1000000 in
set_option maxRecDepth 20000 in
theorem s_giveUp (l : Launch)  (v : Nat → Int32) (f : Nat → Nat → Int32) (g : Nat → Nat → Int64) {P : Int32 → (Nat → Int32) → (Nat → Nat → Int32) → (Nat → Nat → Int64) → Prop} (h : r_giveUp P  v f g) : mMi l yX12_giveUp cX12_giveUp 1 (some .int) 1 23 false [] v f g (fun r w => P r w.1 w.2.1 w.2.2) := by
  intro D cI cJ cZ a sz
  refine mg_body (by decide +kernel) rfl (Nat.le_of_ble_eq_true rfl) ?_
  intro p e s m args below meth c hsz C
  clear hsz
  generalize va_A (mW cI cJ cZ a v f g) sz = A at C ⊢
  refine mg_lv (lv' := [(0, .ref (a 0))]) rfl ?_
  unfold r_giveUp at h
  refine mg_aload_n C (i := 0) rfl 0 rfl dX12_giveUp_0 ?_
  refine mg_aload_n C (i := 0) rfl 0 rfl dX12_giveUp_1 ?_
  refine mg_getI C (k := 98) (by decide) rfl mL_down rfl dX12_giveUp_2 ?_
  refine mg_if_ne C 19 (by decide) dX12_giveUp_5 (fun c_ => ?_) (fun c_ => ?_)
  · have h := h.1 c_
    exact mg_sub [0] rfl (sb_giveUp_19 C  v f g h)
  · have h := h.2 c_
    refine mg_aload_n C (i := 0) rfl 0 rfl dX12_giveUp_8 ?_
    refine mg_getI C (k := 49) (by decide) rfl mL_merging rfl dX12_giveUp_9 ?_
    refine mg_if_eq C 19 (by decide) dX12_giveUp_12 (fun c_ => ?_) (fun c_ => ?_)
    · have h := h.1 c_
      exact mg_sub [0] rfl (sb_giveUp_19 C  v f g h)
    · have h := h.2 c_
      refine mg_iconst C (x := nI 1) rfl dX12_giveUp_15 ?_
      refine mg_goto C 20 (by decide) dX12_giveUp_16 ?_
      exact mg_sub [0] rfl (sb_giveUp_20 C  ((nI 1)) v f g h)
def r_differs_46 (Q : Int32 → (Nat → Int32) → (Nat → Nat → Int32) → (Nat → Nat → Int64) → Prop) (R7 : Int32 → Int32 → Int32 → (Nat → Int32) → (Nat → Nat → Int32) → (Nat → Nat → Int64) → Prop) (x1 : Int32) (x3 : Int32) (t0 : Int32) (v : Nat → Int32) (f : Nat → Nat → Int32) (g : Nat → Nat → Int64) : Prop :=
∀ x3_2 : Int32, x3_2 = x3 + nI 1 → R7 x1 t0 x3_2 v f g
def r_differs_7 (Q : Int32 → (Nat → Int32) → (Nat → Nat → Int32) → (Nat → Nat → Int64) → Prop) (R7 : Int32 → Int32 → Int32 → (Nat → Int32) → (Nat → Nat → Int32) → (Nat → Nat → Int64) → Prop) (x1 : Int32) (x2 : Int32) (x3 : Int32) (v : Nat → Int32) (f : Nat → Nat → Int32) (g : Nat → Nat → Int64) : Prop :=
vp_in x1 202 ∧ (((((((((nI 100)) * x1)) + ((f 20 (x1).toNatClampNeg)))) ≤ x3 →
  isZ x2 ∧ (Q x2 v f g)) ∧
 (¬ ((((((nI 100)) * x1)) + ((f 20 (x1).toNatClampNeg)))) ≤ x3 →
  ((¬ x2 = 0 →
    r_differs_46 Q R7 x1 x3 ((nI 1)) v f g) ∧
   (x2 = 0 →
    vp_in x3 20200 ∧ (vp_in x3 20200 ∧ (((((f 21 (x3).toNatClampNeg)) = ((f 22 (x3).toNatClampNeg)) →
      r_differs_46 Q R7 x1 x3 ((nI 0)) v f g) ∧
     (¬ ((f 21 (x3).toNatClampNeg)) = ((f 22 (x3).toNatClampNeg)) →
      r_differs_46 Q R7 x1 x3 ((nI 1)) v f g)))))))))
def r_differs_7L (Q : Int32 → (Nat → Int32) → (Nat → Nat → Int32) → (Nat → Nat → Int64) → Prop)  (x1 : Int32) (x2 : Int32) (x3 : Int32) (v : Nat → Int32) (f : Nat → Nat → Int32) (g : Nat → Nat → Int64) : Prop :=
  lfp (X := Int32 × Int32 × Int32 × (Nat → Int32) × (Nat → Nat → Int32) × (Nat → Nat → Int64)) (fun P y => r_differs_7 Q  (fun b0 b1 b2 v f g => P (b0, b1, b2, v, f, g)) y.1 y.2.1 y.2.2.1 y.2.2.2.1 y.2.2.2.2.1 y.2.2.2.2.2) (x1, x2, x3, v, f, g)
def r_differs (Q : Int32 → (Nat → Int32) → (Nat → Nat → Int32) → (Nat → Nat → Int64) → Prop) (x1 : Int32) (v : Nat → Int32) (f : Nat → Nat → Int32) (g : Nat → Nat → Int64) : Prop :=
∀ x3_1 : Int32, x3_1 = (((nI 100)) * x1) → r_differs_7L Q  x1 (((nI 0))) x3_1 v f g
section S_differs
variable {p : Program} {l : Launch} {e : Env} {s : State} {m : MethodId} {args : Array Value} {below : List Frame} {meth : Method} {c : Code} {A : Nat → Prop} {D : va_G} {cI cJ cZ : ClassId} {a : Nat → Nat}
set_option maxRecDepth 20000 in
theorem sb_differs_46 (C : mC p s m args meth c cX12_differs 4 (some .boolean) A D cI cJ cZ) {post : Int32 → mS → Prop} {R7 : Int32 → Int32 → Int32 → (Nat → Int32) → (Nat → Nat → Int32) → (Nat → Nat → Int64) → Prop} (hR7 : ∀ (x1 : Int32) (x2 : Int32) (x3 : Int32) (v : Nat → Int32) (f : Nat → Nat → Int32) (g : Nat → Nat → Int64), R7 x1 x2 x3 v f g → mG p l e (mRm 0 0) s m args below meth c A D cI cJ cZ a 4 (MQ below (va_Qi post (mB D cI cJ cZ a) A) args s 0 0 A) 7 [(0, .ref (a 0)), (1, .int x1), (2, .int x2), (3, .int x3)] [] v f g) (x1 : Int32) (x3 : Int32) (t0 : Int32) (v : Nat → Int32) (f : Nat → Nat → Int32) (g : Nat → Nat → Int64) (h : r_differs_46 (fun r v f g => post r (v, f, g)) R7 x1 x3 t0 v f g) : mG p l e (mRm 0 0) s m args below meth c A D cI cJ cZ a 4 (MQ below (va_Qi post (mB D cI cJ cZ a) A) args s 0 0 A) 46 [(0, .ref (a 0)), (1, .int x1), (3, .int x3)] [.int t0] v f g := by
  unfold r_differs_46 at h
  refine mg_istore_n C (i := 2) (lv' := [(2, .int t0), (0, .ref (a 0)), (1, .int x1), (3, .int x3)]) rfl (Nat.le_of_ble_eq_true rfl) rfl dX12_differs_46 ?_
  obtain ⟨x3_2, e_x3_2⟩ : ∃ z : Int32, z = x3 + nI 1 := ⟨_, rfl⟩
  have h := h x3_2 e_x3_2
  refine mg_iinc C (lv' := [(3, .int x3_2), (2, .int t0), (0, .ref (a 0)), (1, .int x1)]) 3 rfl (by rw [e_x3_2]; rfl) (Nat.le_of_ble_eq_true rfl) rfl dX12_differs_47 ?_
  refine mg_goto C 7 (by decide) dX12_differs_50 ?_
  exact mg_sub [2, 3, 1, 0] rfl (hR7 x1 t0 x3_2 v f g h)
set_option maxRecDepth 20000 in
theorem sb_differs_7 (C : mC p s m args meth c cX12_differs 4 (some .boolean) A D cI cJ cZ) {post : Int32 → mS → Prop} {R7 : Int32 → Int32 → Int32 → (Nat → Int32) → (Nat → Nat → Int32) → (Nat → Nat → Int64) → Prop} (hR7 : ∀ (x1 : Int32) (x2 : Int32) (x3 : Int32) (v : Nat → Int32) (f : Nat → Nat → Int32) (g : Nat → Nat → Int64), R7 x1 x2 x3 v f g → mG p l e (mRm 0 0) s m args below meth c A D cI cJ cZ a 4 (MQ below (va_Qi post (mB D cI cJ cZ a) A) args s 0 0 A) 7 [(0, .ref (a 0)), (1, .int x1), (2, .int x2), (3, .int x3)] [] v f g) (x1 : Int32) (x2 : Int32) (x3 : Int32) (v : Nat → Int32) (f : Nat → Nat → Int32) (g : Nat → Nat → Int64) (h : r_differs_7 (fun r v f g => post r (v, f, g)) R7 x1 x2 x3 v f g) : mG p l e (mRm 0 0) s m args below meth c A D cI cJ cZ a 4 (MQ below (va_Qi post (mB D cI cJ cZ a) A) args s 0 0 A) 7 [(0, .ref (a 0)), (1, .int x1), (2, .int x2), (3, .int x3)] [] v f g := by
  unfold r_differs_7 at h
  refine mg_iload_n C (i := 3) rfl 3 rfl dX12_differs_7 ?_
  refine mg_bipush C (x := nI 100) rfl dX12_differs_8 ?_
  refine mg_iload_n C (i := 1) rfl 1 rfl dX12_differs_10 ?_
  refine mg_imul C dX12_differs_11 ?_
  refine mg_aload_n C (i := 0) rfl 0 rfl dX12_differs_12 ?_
  refine mg_arr C 20 (by decide) (by decide) rfl mL_sizes rfl dX12_differs_13 ?_
  refine mg_iload_n C (i := 1) rfl 1 rfl dX12_differs_16 ?_
  obtain ⟨hc_17, h⟩ := h
  refine mg_ialoadR C (n := 202) 20 (by decide) (by decide) rfl rfl hc_17 dX12_differs_17 ?_
  refine mg_iadd C dX12_differs_18 ?_
  refine mg_icmp_ge C 53 (by decide) dX12_differs_19 (fun c_ => ?_) (fun c_ => ?_)
  · have h := h.1 c_
    refine mg_iload_n C (i := 2) rfl 2 rfl dX12_differs_53 ?_
    obtain ⟨hc_54, h⟩ := h
    exact mg_zret C (isZ_nar hc_54) h dX12_differs_54
  · have h := h.2 c_
    refine mg_iload_n C (i := 2) rfl 2 rfl dX12_differs_22 ?_
    refine mg_if_ne C 41 (by decide) dX12_differs_23 (fun c_ => ?_) (fun c_ => ?_)
    · have h := h.1 c_
      refine mg_iconst C (x := nI 1) rfl dX12_differs_41 ?_
      refine mg_goto C 46 (by decide) dX12_differs_42 ?_
      exact mg_sub [0, 1, 3] rfl (sb_differs_46 C hR7 x1 x3 ((nI 1)) v f g h)
    · have h := h.2 c_
      refine mg_aload_n C (i := 0) rfl 0 rfl dX12_differs_26 ?_
      refine mg_arr C 21 (by decide) (by decide) rfl mL_live rfl dX12_differs_27 ?_
      refine mg_iload_n C (i := 3) rfl 3 rfl dX12_differs_30 ?_
      obtain ⟨hc_31, h⟩ := h
      refine mg_baloadR C (n := 20200) 21 (by decide) (by decide) rfl rfl hc_31 dX12_differs_31 ?_
      refine mg_aload_n C (i := 0) rfl 0 rfl dX12_differs_32 ?_
      refine mg_arr C 22 (by decide) (by decide) rfl mL_wrote rfl dX12_differs_33 ?_
      refine mg_iload_n C (i := 3) rfl 3 rfl dX12_differs_36 ?_
      obtain ⟨hc_37, h⟩ := h
      refine mg_baloadR C (n := 20200) 22 (by decide) (by decide) rfl rfl hc_37 dX12_differs_37 ?_
      refine mg_icmp_eq C 45 (by decide) dX12_differs_38 (fun c_ => ?_) (fun c_ => ?_)
      · have h := h.1 c_
        refine mg_iconst C (x := nI 0) rfl dX12_differs_45 ?_
        exact mg_sub [0, 1, 3] rfl (sb_differs_46 C hR7 x1 x3 ((nI 0)) v f g h)
      · have h := h.2 c_
        refine mg_iconst C (x := nI 1) rfl dX12_differs_41 ?_
        refine mg_goto C 46 (by decide) dX12_differs_42 ?_
        exact mg_sub [0, 1, 3] rfl (sb_differs_46 C hR7 x1 x3 ((nI 1)) v f g h)
set_option maxRecDepth 20000 in
theorem sl_differs_7 (C : mC p s m args meth c cX12_differs 4 (some .boolean) A D cI cJ cZ) {post : Int32 → mS → Prop}   (x1 : Int32) (x2 : Int32) (x3 : Int32) (v : Nat → Int32) (f : Nat → Nat → Int32) (g : Nat → Nat → Int64) (h : r_differs_7L (fun r v f g => post r (v, f, g))  x1 x2 x3 v f g) : mG p l e (mRm 0 0) s m args below meth c A D cI cJ cZ a 4 (MQ below (va_Qi post (mB D cI cJ cZ a) A) args s 0 0 A) 7 [(0, .ref (a 0)), (1, .int x1), (2, .int x2), (3, .int x3)] [] v f g :=
  h (fun y => mG p l e (mRm 0 0) s m args below meth c A D cI cJ cZ a 4 (MQ below (va_Qi post (mB D cI cJ cZ a) A) args s 0 0 A) 7 [(0, .ref (a 0)), (1, .int (y.1)), (2, .int (y.2.1)), (3, .int (y.2.2.1))] [] (y.2.2.2.1) (y.2.2.2.2.1) (y.2.2.2.2.2)) (fun y hy => sb_differs_7 C  (fun b0 b1 b2 v f g z => z) (y.1) (y.2.1) (y.2.2.1) (y.2.2.2.1) (y.2.2.2.2.1) (y.2.2.2.2.2) hy)
end S_differs
set_option maxHeartbeats 1000000 in
set_option maxRecDepth 20000 in
theorem s_differs (l : Launch) (x1 : Int32) (v : Nat → Int32) (f : Nat → Nat → Int32) (g : Nat → Nat → Int64) {P : Int32 → (Nat → Int32) → (Nat → Nat → Int32) → (Nat → Nat → Int64) → Prop} (h : r_differs P x1 v f g) : mMi l yX12_differs cX12_differs 4 (some .boolean) 0 0 false [.int x1] v f g (fun r w => P r w.1 w.2.1 w.2.2) := by
  intro D cI cJ cZ a sz
  refine mg_body (by decide +kernel) rfl (Nat.le_of_ble_eq_true rfl) ?_
  intro p e s m args below meth c hsz C
  clear hsz
  generalize va_A (mW cI cJ cZ a v f g) sz = A at C ⊢
  refine mg_lv (lv' := [(0, .ref (a 0)), (1, .int x1)]) rfl ?_
  unfold r_differs at h
  refine mg_iconst C (x := nI 0) rfl dX12_differs_0 ?_
  refine mg_istore_n C (i := 2) (lv' := [(2, .int ((nI 0))), (0, .ref (a 0)), (1, .int x1)]) rfl (Nat.le_of_ble_eq_true rfl) rfl dX12_differs_1 ?_
  refine mg_bipush C (x := nI 100) rfl dX12_differs_2 ?_
  refine mg_iload_n C (i := 1) rfl 2 rfl dX12_differs_4 ?_
  refine mg_imul C dX12_differs_5 ?_
  refine mg_nmI (fun x3_1 e_x3_1 => ?_)
  have h := h x3_1 e_x3_1
  refine mg_istore_n C (i := 3) (lv' := [(3, .int x3_1), (2, .int ((nI 0))), (0, .ref (a 0)), (1, .int x1)]) rfl (Nat.le_of_ble_eq_true rfl) rfl dX12_differs_6 ?_
  exact mg_sub [2, 3, 1, 0] rfl (sl_differs_7 C  x1 (((nI 0))) x3_1 v f g h)
def r_prepare_226 (Q : Int32 → (Nat → Int32) → (Nat → Nat → Int32) → (Nat → Nat → Int64) → Prop) (R226 : Int32 → (Nat → Int32) → (Nat → Nat → Int32) → (Nat → Nat → Int64) → Prop) (x1 : Int32) (v : Nat → Int32) (f : Nat → Nat → Int32) (g : Nat → Nat → Int64) : Prop :=
((((nI 20200)) ≤ x1 →
  ∀ v5 : Nat → Int32, v5 = upd v 40 ((bI true)) → Q ((v5 42)) v5 f g) ∧
 (¬ ((nI 20200)) ≤ x1 →
  vp_in x1 20200 ∧ (vp_in x1 20200 ∧ (isZ ((f 21 (x1).toNatClampNeg)) ∧ (∀ f6 : Nat → Nat → Int32, f6 = mU f 28 (x1).toNatClampNeg ((f 21 (x1).toNatClampNeg)) → ∀ x1_7 : Int32, x1_7 = x1 + nI 1 → R226 x1_7 v f6 g)))))
def r_prepare_226L (Q : Int32 → (Nat → Int32) → (Nat → Nat → Int32) → (Nat → Nat → Int64) → Prop)  (x1 : Int32) (v : Nat → Int32) (f : Nat → Nat → Int32) (g : Nat → Nat → Int64) : Prop :=
  lfp (X := Int32 × (Nat → Int32) × (Nat → Nat → Int32) × (Nat → Nat → Int64)) (fun P y => r_prepare_226 Q  (fun b0 v f g => P (b0, v, f, g)) y.1 y.2.1 y.2.2.1 y.2.2.2) (x1, v, f, g)
def r_prepare_198 (Q : Int32 → (Nat → Int32) → (Nat → Nat → Int32) → (Nat → Nat → Int64) → Prop) (R198 : Int32 → (Nat → Int32) → (Nat → Nat → Int32) → (Nat → Nat → Int64) → Prop) (x1 : Int32) (v : Nat → Int32) (f : Nat → Nat → Int32) (g : Nat → Nat → Int64) : Prop :=
((((v 34)) ≤ x1 →
  r_prepare_226L Q  (((nI 0))) v f g) ∧
 (¬ ((v 34)) ≤ x1 →
  vp_in x1 202 ∧ (vp_in x1 202 ∧ (∀ f8 : Nat → Nat → Int32, f8 = mU f 27 (x1).toNatClampNeg ((f 24 (x1).toNatClampNeg)) → ∀ x1_9 : Int32, x1_9 = x1 + nI 1 → R198 x1_9 v f8 g))))
def r_prepare_198L (Q : Int32 → (Nat → Int32) → (Nat → Nat → Int32) → (Nat → Nat → Int64) → Prop)  (x1 : Int32) (v : Nat → Int32) (f : Nat → Nat → Int32) (g : Nat → Nat → Int64) : Prop :=
  lfp (X := Int32 × (Nat → Int32) × (Nat → Nat → Int32) × (Nat → Nat → Int64)) (fun P y => r_prepare_198 Q  (fun b0 v f g => P (b0, v, f, g)) y.1 y.2.1 y.2.2.1 y.2.2.2) (x1, v, f, g)
def r_prepare_172 (Q : Int32 → (Nat → Int32) → (Nat → Nat → Int32) → (Nat → Nat → Int64) → Prop) (R88 : Int32 → (Nat → Int32) → (Nat → Nat → Int32) → (Nat → Nat → Int64) → Prop) (x1 : Int32) (v : Nat → Int32) (f : Nat → Nat → Int32) (g : Nat → Nat → Int64) : Prop :=
∀ x1_11 : Int32, x1_11 = x1 + nI 1 → R88 x1_11 v f g
def r_prepare_129 (Q : Int32 → (Nat → Int32) → (Nat → Nat → Int32) → (Nat → Nat → Int64) → Prop) (R88 : Int32 → (Nat → Int32) → (Nat → Nat → Int32) → (Nat → Nat → Int64) → Prop) (R129 : Int32 → Int32 → (Nat → Int32) → (Nat → Nat → Int32) → (Nat → Nat → Int64) → Prop) (x1 : Int32) (x2 : Int32) (v : Nat → Int32) (f : Nat → Nat → Int32) (g : Nat → Nat → Int64) : Prop :=
vp_in x1 202 ∧ (vp_in x1 202 ∧ (vp_in ((f 24 (x1).toNatClampNeg)) 202 ∧ (((((((((nI 100)) * ((f 24 (x1).toNatClampNeg)))) + ((f 20 ((f 24 (x1).toNatClampNeg)).toNatClampNeg)))) ≤ x2 →
  r_prepare_172 Q R88 x1 v f g) ∧
 (¬ ((((((nI 100)) * ((f 24 (x1).toNatClampNeg)))) + ((f 20 ((f 24 (x1).toNatClampNeg)).toNatClampNeg)))) ≤ x2 →
  vp_in x2 20200 ∧ (vp_in x2 20200 ∧ (isZ ((f 21 (x2).toNatClampNeg)) ∧ (∀ f14 : Nat → Nat → Int32, f14 = mU f 22 (x2).toNatClampNeg ((f 21 (x2).toNatClampNeg)) → ∀ x2_15 : Int32, x2_15 = x2 + nI 1 → R129 x1 x2_15 v f14 g))))))))
def r_prepare_129L (Q : Int32 → (Nat → Int32) → (Nat → Nat → Int32) → (Nat → Nat → Int64) → Prop) (R88 : Int32 → (Nat → Int32) → (Nat → Nat → Int32) → (Nat → Nat → Int64) → Prop) (x1 : Int32) (x2 : Int32) (v : Nat → Int32) (f : Nat → Nat → Int32) (g : Nat → Nat → Int64) : Prop :=
  lfp (X := Int32 × Int32 × (Nat → Int32) × (Nat → Nat → Int32) × (Nat → Nat → Int64)) (fun P y => r_prepare_129 Q R88 (fun b0 b1 v f g => P (b0, b1, v, f, g)) y.1 y.2.1 y.2.2.1 y.2.2.2.1 y.2.2.2.2) (x1, x2, v, f, g)
def r_prepare_88 (Q : Int32 → (Nat → Int32) → (Nat → Nat → Int32) → (Nat → Nat → Int64) → Prop) (R88 : Int32 → (Nat → Int32) → (Nat → Nat → Int32) → (Nat → Nat → Int64) → Prop) (x1 : Int32) (v : Nat → Int32) (f : Nat → Nat → Int32) (g : Nat → Nat → Int64) : Prop :=
((((v 34)) ≤ x1 →
  r_writes1 (fun r_3 v_3 f_3 g_3 => 
  ((¬ r_3 = 0 →
    ∀ v4 : Nat → Int32, v4 = upd v_3 42 ((v_3 34)) → r_prepare_198L Q  (((nI 0))) v4 f_3 g_3) ∧
   (r_3 = 0 →
    Q (((-2))) v_3 f_3 g_3)))  v f g) ∧
 (¬ ((v 34)) ≤ x1 →
  vp_in x1 202 ∧ (r_differs (fun r_10 v_10 f_10 g_10 => 
  ((r_10 = 0 →
    r_prepare_172 Q R88 x1 v_10 f_10 g_10) ∧
   (¬ r_10 = 0 →
    r_writes1 (fun r_12 v_12 f_12 g_12 => 
    ((¬ r_12 = 0 →
      vp_in x1 202 ∧ (∀ x2_13 : Int32, x2_13 = (((nI 100)) * ((f_12 24 (x1).toNatClampNeg))) → r_prepare_129L Q R88 x1 x2_13 v_12 f_12 g_12)) ∧
     (r_12 = 0 →
      Q (((-2))) v_12 f_12 g_12)))  v_10 f_10 g_10))) ((f 24 (x1).toNatClampNeg)) v f g)))
def r_prepare_88L (Q : Int32 → (Nat → Int32) → (Nat → Nat → Int32) → (Nat → Nat → Int64) → Prop)  (x1 : Int32) (v : Nat → Int32) (f : Nat → Nat → Int32) (g : Nat → Nat → Int64) : Prop :=
  lfp (X := Int32 × (Nat → Int32) × (Nat → Nat → Int32) × (Nat → Nat → Int64)) (fun P y => r_prepare_88 Q  (fun b0 v f g => P (b0, v, f, g)) y.1 y.2.1 y.2.2.1 y.2.2.2) (x1, v, f, g)
def r_prepare_61 (Q : Int32 → (Nat → Int32) → (Nat → Nat → Int32) → (Nat → Nat → Int64) → Prop) (R61 : Int32 → (Nat → Int32) → (Nat → Nat → Int32) → (Nat → Nat → Int64) → Prop) (x1 : Int32) (v : Nat → Int32) (f : Nat → Nat → Int32) (g : Nat → Nat → Int64) : Prop :=
((((nI 20200)) ≤ x1 →
  r_prepare_88L Q  (((nI 0))) v f g) ∧
 (¬ ((nI 20200)) ≤ x1 →
  vp_in x1 20200 ∧ (vp_in x1 20200 ∧ (isZ ((f 22 (x1).toNatClampNeg)) ∧ (∀ f16 : Nat → Nat → Int32, f16 = mU f 23 (x1).toNatClampNeg ((f 22 (x1).toNatClampNeg)) → ∀ x1_17 : Int32, x1_17 = x1 + nI 1 → R61 x1_17 v f16 g)))))
def r_prepare_61L (Q : Int32 → (Nat → Int32) → (Nat → Nat → Int32) → (Nat → Nat → Int64) → Prop)  (x1 : Int32) (v : Nat → Int32) (f : Nat → Nat → Int32) (g : Nat → Nat → Int64) : Prop :=
  lfp (X := Int32 × (Nat → Int32) × (Nat → Nat → Int32) × (Nat → Nat → Int64)) (fun P y => r_prepare_61 Q  (fun b0 v f g => P (b0, v, f, g)) y.1 y.2.1 y.2.2.1 y.2.2.2) (x1, v, f, g)
def r_prepare_37 (Q : Int32 → (Nat → Int32) → (Nat → Nat → Int32) → (Nat → Nat → Int64) → Prop)  (t0 : Int32) (v : Nat → Int32) (f : Nat → Nat → Int32) (g : Nat → Nat → Int64) : Prop :=
r_goes (fun r_1 v_1 f_1 g_1 => 
((¬ r_1 = 0 →
  r_flushes (fun r_2 v_2 f_2 g_2 => 
  ((¬ r_2 = (((-2))) →
    r_prepare_61L Q  (((nI 0))) v_2 f_2 g_2) ∧
   (r_2 = (((-2))) →
    Q (((-2))) v_2 f_2 g_2)))  v_1 f_1 g_1) ∧
 (r_1 = 0 →
  Q ((nI 0)) v_1 f_1 g_1))) t0 ((nI 1)) ((nI 1)) v f g
def r_prepare_36 (Q : Int32 → (Nat → Int32) → (Nat → Nat → Int32) → (Nat → Nat → Int64) → Prop)   (v : Nat → Int32) (f : Nat → Nat → Int32) (g : Nat → Nat → Int64) : Prop :=
r_prepare_37 Q  ((nI 0)) v f g
def r_prepare (Q : Int32 → (Nat → Int32) → (Nat → Nat → Int32) → (Nat → Nat → Int64) → Prop)  (v : Nat → Int32) (f : Nat → Nat → Int32) (g : Nat → Nat → Int64) : Prop :=
((¬ ((v 98)) = 0 →
  r_prepare_36 Q  v f g) ∧
 (((v 98)) = 0 →
  ((¬ ((v 40)) = 0 →
    r_prepare_36 Q  v f g) ∧
   (((v 40)) = 0 →
    ((((v 29)) < ((nI 200)) →
      r_prepare_37 Q  ((nI 1)) v f g) ∧
     (¬ ((v 29)) < ((nI 200)) →
      ((¬ ((v 20)) = 0 →
        r_prepare_36 Q  v f g) ∧
       (((v 20)) = 0 →
        r_prepare_37 Q  ((nI 1)) v f g))))))))
section S_prepare
variable {p : Program} {l : Launch} {e : Env} {s : State} {m : MethodId} {args : Array Value} {below : List Frame} {meth : Method} {c : Code} {A : Nat → Prop} {D : va_G} {cI cJ cZ : ClassId} {a : Nat → Nat}
set_option maxRecDepth 20000 in
theorem sb_prepare_226 (C : mC p s m args meth c cX12_prepare 3 (some .int) A D cI cJ cZ) {post : Int32 → mS → Prop} {R226 : Int32 → (Nat → Int32) → (Nat → Nat → Int32) → (Nat → Nat → Int64) → Prop} (hR226 : ∀ (x1 : Int32) (v : Nat → Int32) (f : Nat → Nat → Int32) (g : Nat → Nat → Int64), R226 x1 v f g → mG p l e (mRm 2 44) s m args below meth c A D cI cJ cZ a 3 (MQ below (va_Qi post (mB D cI cJ cZ a) A) args s 0 0 A) 226 [(0, .ref (a 0)), (1, .int x1)] [] v f g) (x1 : Int32) (v : Nat → Int32) (f : Nat → Nat → Int32) (g : Nat → Nat → Int64) (h : r_prepare_226 (fun r v f g => post r (v, f, g)) R226 x1 v f g) : mG p l e (mRm 2 44) s m args below meth c A D cI cJ cZ a 3 (MQ below (va_Qi post (mB D cI cJ cZ a) A) args s 0 0 A) 226 [(0, .ref (a 0)), (1, .int x1)] [] v f g := by
  unfold r_prepare_226 at h
  refine mg_iload_n C (i := 1) rfl 1 rfl dX12_prepare_226 ?_
  refine mg_sipush C (x := nI 20200) rfl dX12_prepare_227 ?_
  refine mg_icmp_ge C 251 (by decide) dX12_prepare_230 (fun c_ => ?_) (fun c_ => ?_)
  · have h := h.1 c_
    refine mg_aload_n C (i := 0) rfl 0 rfl dX12_prepare_251 ?_
    refine mg_iconst C (x := nI 1) rfl dX12_prepare_252 ?_
    refine mg_cast (bI true) rfl ?_
    refine mg_put C (k := 40) (by decide) rfl mL_isPrepared rfl (by decide +kernel) mT_isPrepared (bI_nar _) (bI_fit _) dX12_prepare_253 ?_
    refine mg_nmV (fun v5 e_v5 => ?_)
    have h := h v5 e_v5
    refine mg_aload_n C (i := 0) rfl 0 rfl dX12_prepare_256 ?_
    refine mg_getI C (k := 42) (by decide) rfl mL_preparedMany rfl dX12_prepare_257 ?_
    exact mg_iret C h dX12_prepare_260
  · have h := h.2 c_
    refine mg_aload_n C (i := 0) rfl 0 rfl dX12_prepare_233 ?_
    refine mg_arr C 28 (by decide) (by decide) rfl mL_preparedLive rfl dX12_prepare_234 ?_
    refine mg_iload_n C (i := 1) rfl 1 rfl dX12_prepare_237 ?_
    refine mg_aload_n C (i := 0) rfl 0 rfl dX12_prepare_238 ?_
    refine mg_arr C 21 (by decide) (by decide) rfl mL_live rfl dX12_prepare_239 ?_
    refine mg_iload_n C (i := 1) rfl 1 rfl dX12_prepare_242 ?_
    obtain ⟨hc_243, h⟩ := h
    refine mg_baloadR C (n := 20200) 21 (by decide) (by decide) rfl rfl hc_243 dX12_prepare_243 ?_
    obtain ⟨hc_244, h⟩ := h
    obtain ⟨hz_244, h⟩ := h
    refine mg_bastoreR C (n := 20200) 28 (by decide) (by decide) rfl rfl hc_244 (isZ_vp hz_244) dX12_prepare_244 ?_
    refine mg_nmF (fun f6 e_f6 => ?_)
    have h := h f6 e_f6
    obtain ⟨x1_7, e_x1_7⟩ : ∃ z : Int32, z = x1 + nI 1 := ⟨_, rfl⟩
    have h := h x1_7 e_x1_7
    refine mg_iinc C (lv' := [(1, .int x1_7), (0, .ref (a 0))]) 1 rfl (by rw [e_x1_7]; rfl) (Nat.le_of_ble_eq_true rfl) rfl dX12_prepare_245 ?_
    refine mg_goto C 226 (by decide) dX12_prepare_248 ?_
    exact mg_sub [1, 0] rfl (hR226 x1_7 v f6 g h)
set_option maxRecDepth 20000 in
theorem sl_prepare_226 (C : mC p s m args meth c cX12_prepare 3 (some .int) A D cI cJ cZ) {post : Int32 → mS → Prop}   (x1 : Int32) (v : Nat → Int32) (f : Nat → Nat → Int32) (g : Nat → Nat → Int64) (h : r_prepare_226L (fun r v f g => post r (v, f, g))  x1 v f g) : mG p l e (mRm 2 44) s m args below meth c A D cI cJ cZ a 3 (MQ below (va_Qi post (mB D cI cJ cZ a) A) args s 0 0 A) 226 [(0, .ref (a 0)), (1, .int x1)] [] v f g :=
  h (fun y => mG p l e (mRm 2 44) s m args below meth c A D cI cJ cZ a 3 (MQ below (va_Qi post (mB D cI cJ cZ a) A) args s 0 0 A) 226 [(0, .ref (a 0)), (1, .int (y.1))] [] (y.2.1) (y.2.2.1) (y.2.2.2)) (fun y hy => sb_prepare_226 C  (fun b0 v f g z => z) (y.1) (y.2.1) (y.2.2.1) (y.2.2.2) hy)
set_option maxRecDepth 20000 in
theorem sb_prepare_198 (C : mC p s m args meth c cX12_prepare 3 (some .int) A D cI cJ cZ) {post : Int32 → mS → Prop} {R198 : Int32 → (Nat → Int32) → (Nat → Nat → Int32) → (Nat → Nat → Int64) → Prop} (hR198 : ∀ (x1 : Int32) (v : Nat → Int32) (f : Nat → Nat → Int32) (g : Nat → Nat → Int64), R198 x1 v f g → mG p l e (mRm 2 44) s m args below meth c A D cI cJ cZ a 3 (MQ below (va_Qi post (mB D cI cJ cZ a) A) args s 0 0 A) 198 [(0, .ref (a 0)), (1, .int x1)] [] v f g) (x1 : Int32) (v : Nat → Int32) (f : Nat → Nat → Int32) (g : Nat → Nat → Int64) (h : r_prepare_198 (fun r v f g => post r (v, f, g)) R198 x1 v f g) : mG p l e (mRm 2 44) s m args below meth c A D cI cJ cZ a 3 (MQ below (va_Qi post (mB D cI cJ cZ a) A) args s 0 0 A) 198 [(0, .ref (a 0)), (1, .int x1)] [] v f g := by
  unfold r_prepare_198 at h
  refine mg_iload_n C (i := 1) rfl 1 rfl dX12_prepare_198 ?_
  refine mg_aload_n C (i := 0) rfl 0 rfl dX12_prepare_199 ?_
  refine mg_getI C (k := 34) (by decide) rfl mL_indexed rfl dX12_prepare_200 ?_
  refine mg_icmp_ge C 224 (by decide) dX12_prepare_203 (fun c_ => ?_) (fun c_ => ?_)
  · have h := h.1 c_
    refine mg_iconst C (x := nI 0) rfl dX12_prepare_224 ?_
    refine mg_istore_n C (i := 1) (lv' := [(1, .int ((nI 0))), (0, .ref (a 0))]) rfl (Nat.le_of_ble_eq_true rfl) rfl dX12_prepare_225 ?_
    exact mg_sub [1, 0] rfl (sl_prepare_226 C  (((nI 0))) v f g h)
  · have h := h.2 c_
    refine mg_aload_n C (i := 0) rfl 0 rfl dX12_prepare_206 ?_
    refine mg_arr C 27 (by decide) (by decide) rfl mL_prepared rfl dX12_prepare_207 ?_
    refine mg_iload_n C (i := 1) rfl 1 rfl dX12_prepare_210 ?_
    refine mg_aload_n C (i := 0) rfl 0 rfl dX12_prepare_211 ?_
    refine mg_arr C 24 (by decide) (by decide) rfl mL_index rfl dX12_prepare_212 ?_
    refine mg_iload_n C (i := 1) rfl 1 rfl dX12_prepare_215 ?_
    obtain ⟨hc_216, h⟩ := h
    refine mg_ialoadR C (n := 202) 24 (by decide) (by decide) rfl rfl hc_216 dX12_prepare_216 ?_
    obtain ⟨hc_217, h⟩ := h
    refine mg_iastoreR C (n := 202) 27 (by decide) (by decide) rfl rfl hc_217 dX12_prepare_217 ?_
    refine mg_nmF (fun f8 e_f8 => ?_)
    have h := h f8 e_f8
    obtain ⟨x1_9, e_x1_9⟩ : ∃ z : Int32, z = x1 + nI 1 := ⟨_, rfl⟩
    have h := h x1_9 e_x1_9
    refine mg_iinc C (lv' := [(1, .int x1_9), (0, .ref (a 0))]) 1 rfl (by rw [e_x1_9]; rfl) (Nat.le_of_ble_eq_true rfl) rfl dX12_prepare_218 ?_
    refine mg_goto C 198 (by decide) dX12_prepare_221 ?_
    exact mg_sub [1, 0] rfl (hR198 x1_9 v f8 g h)
set_option maxRecDepth 20000 in
theorem sl_prepare_198 (C : mC p s m args meth c cX12_prepare 3 (some .int) A D cI cJ cZ) {post : Int32 → mS → Prop}   (x1 : Int32) (v : Nat → Int32) (f : Nat → Nat → Int32) (g : Nat → Nat → Int64) (h : r_prepare_198L (fun r v f g => post r (v, f, g))  x1 v f g) : mG p l e (mRm 2 44) s m args below meth c A D cI cJ cZ a 3 (MQ below (va_Qi post (mB D cI cJ cZ a) A) args s 0 0 A) 198 [(0, .ref (a 0)), (1, .int x1)] [] v f g :=
  h (fun y => mG p l e (mRm 2 44) s m args below meth c A D cI cJ cZ a 3 (MQ below (va_Qi post (mB D cI cJ cZ a) A) args s 0 0 A) 198 [(0, .ref (a 0)), (1, .int (y.1))] [] (y.2.1) (y.2.2.1) (y.2.2.2)) (fun y hy => sb_prepare_198 C  (fun b0 v f g z => z) (y.1) (y.2.1) (y.2.2.1) (y.2.2.2) hy)
set_option maxRecDepth 20000 in
theorem sb_prepare_172 (C : mC p s m args meth c cX12_prepare 3 (some .int) A D cI cJ cZ) {post : Int32 → mS → Prop} {R88 : Int32 → (Nat → Int32) → (Nat → Nat → Int32) → (Nat → Nat → Int64) → Prop} (hR88 : ∀ (x1 : Int32) (v : Nat → Int32) (f : Nat → Nat → Int32) (g : Nat → Nat → Int64), R88 x1 v f g → mG p l e (mRm 2 44) s m args below meth c A D cI cJ cZ a 3 (MQ below (va_Qi post (mB D cI cJ cZ a) A) args s 0 0 A) 88 [(0, .ref (a 0)), (1, .int x1)] [] v f g) (x1 : Int32) (v : Nat → Int32) (f : Nat → Nat → Int32) (g : Nat → Nat → Int64) (h : r_prepare_172 (fun r v f g => post r (v, f, g)) R88 x1 v f g) : mG p l e (mRm 2 44) s m args below meth c A D cI cJ cZ a 3 (MQ below (va_Qi post (mB D cI cJ cZ a) A) args s 0 0 A) 172 [(0, .ref (a 0)), (1, .int x1)] [] v f g := by
  unfold r_prepare_172 at h
  obtain ⟨x1_11, e_x1_11⟩ : ∃ z : Int32, z = x1 + nI 1 := ⟨_, rfl⟩
  have h := h x1_11 e_x1_11
  refine mg_iinc C (lv' := [(1, .int x1_11), (0, .ref (a 0))]) 1 rfl (by rw [e_x1_11]; rfl) (Nat.le_of_ble_eq_true rfl) rfl dX12_prepare_172 ?_
  refine mg_goto C 88 (by decide) dX12_prepare_175 ?_
  exact mg_sub [1, 0] rfl (hR88 x1_11 v f g h)
set_option maxRecDepth 20000 in
theorem sb_prepare_129 (C : mC p s m args meth c cX12_prepare 3 (some .int) A D cI cJ cZ) {post : Int32 → mS → Prop} {R88 : Int32 → (Nat → Int32) → (Nat → Nat → Int32) → (Nat → Nat → Int64) → Prop} {R129 : Int32 → Int32 → (Nat → Int32) → (Nat → Nat → Int32) → (Nat → Nat → Int64) → Prop} (hR88 : ∀ (x1 : Int32) (v : Nat → Int32) (f : Nat → Nat → Int32) (g : Nat → Nat → Int64), R88 x1 v f g → mG p l e (mRm 2 44) s m args below meth c A D cI cJ cZ a 3 (MQ below (va_Qi post (mB D cI cJ cZ a) A) args s 0 0 A) 88 [(0, .ref (a 0)), (1, .int x1)] [] v f g) (hR129 : ∀ (x1 : Int32) (x2 : Int32) (v : Nat → Int32) (f : Nat → Nat → Int32) (g : Nat → Nat → Int64), R129 x1 x2 v f g → mG p l e (mRm 2 44) s m args below meth c A D cI cJ cZ a 3 (MQ below (va_Qi post (mB D cI cJ cZ a) A) args s 0 0 A) 129 [(0, .ref (a 0)), (1, .int x1), (2, .int x2)] [] v f g) (x1 : Int32) (x2 : Int32) (v : Nat → Int32) (f : Nat → Nat → Int32) (g : Nat → Nat → Int64) (h : r_prepare_129 (fun r v f g => post r (v, f, g)) R88 R129 x1 x2 v f g) : mG p l e (mRm 2 44) s m args below meth c A D cI cJ cZ a 3 (MQ below (va_Qi post (mB D cI cJ cZ a) A) args s 0 0 A) 129 [(0, .ref (a 0)), (1, .int x1), (2, .int x2)] [] v f g := by
  unfold r_prepare_129 at h
  refine mg_iload_n C (i := 2) rfl 2 rfl dX12_prepare_129 ?_
  refine mg_bipush C (x := nI 100) rfl dX12_prepare_130 ?_
  refine mg_aload_n C (i := 0) rfl 0 rfl dX12_prepare_132 ?_
  refine mg_arr C 24 (by decide) (by decide) rfl mL_index rfl dX12_prepare_133 ?_
  refine mg_iload_n C (i := 1) rfl 1 rfl dX12_prepare_136 ?_
  obtain ⟨hc_137, h⟩ := h
  refine mg_ialoadR C (n := 202) 24 (by decide) (by decide) rfl rfl hc_137 dX12_prepare_137 ?_
  refine mg_imul C dX12_prepare_138 ?_
  refine mg_aload_n C (i := 0) rfl 0 rfl dX12_prepare_139 ?_
  refine mg_arr C 20 (by decide) (by decide) rfl mL_sizes rfl dX12_prepare_140 ?_
  refine mg_aload_n C (i := 0) rfl 0 rfl dX12_prepare_143 ?_
  refine mg_arr C 24 (by decide) (by decide) rfl mL_index rfl dX12_prepare_144 ?_
  refine mg_iload_n C (i := 1) rfl 1 rfl dX12_prepare_147 ?_
  obtain ⟨hc_148, h⟩ := h
  refine mg_ialoadR C (n := 202) 24 (by decide) (by decide) rfl rfl hc_148 dX12_prepare_148 ?_
  obtain ⟨hc_149, h⟩ := h
  refine mg_ialoadR C (n := 202) 20 (by decide) (by decide) rfl rfl hc_149 dX12_prepare_149 ?_
  refine mg_iadd C dX12_prepare_150 ?_
  refine mg_icmp_ge C 172 (by decide) dX12_prepare_151 (fun c_ => ?_) (fun c_ => ?_)
  · have h := h.1 c_
    exact mg_sub [0, 1] rfl (sb_prepare_172 C hR88 x1 v f g h)
  · have h := h.2 c_
    refine mg_aload_n C (i := 0) rfl 0 rfl dX12_prepare_154 ?_
    refine mg_arr C 22 (by decide) (by decide) rfl mL_wrote rfl dX12_prepare_155 ?_
    refine mg_iload_n C (i := 2) rfl 2 rfl dX12_prepare_158 ?_
    refine mg_aload_n C (i := 0) rfl 0 rfl dX12_prepare_159 ?_
    refine mg_arr C 21 (by decide) (by decide) rfl mL_live rfl dX12_prepare_160 ?_
    refine mg_iload_n C (i := 2) rfl 2 rfl dX12_prepare_163 ?_
    obtain ⟨hc_164, h⟩ := h
    refine mg_baloadR C (n := 20200) 21 (by decide) (by decide) rfl rfl hc_164 dX12_prepare_164 ?_
    obtain ⟨hc_165, h⟩ := h
    obtain ⟨hz_165, h⟩ := h
    refine mg_bastoreR C (n := 20200) 22 (by decide) (by decide) rfl rfl hc_165 (isZ_vp hz_165) dX12_prepare_165 ?_
    refine mg_nmF (fun f14 e_f14 => ?_)
    have h := h f14 e_f14
    obtain ⟨x2_15, e_x2_15⟩ : ∃ z : Int32, z = x2 + nI 1 := ⟨_, rfl⟩
    have h := h x2_15 e_x2_15
    refine mg_iinc C (lv' := [(2, .int x2_15), (0, .ref (a 0)), (1, .int x1)]) 2 rfl (by rw [e_x2_15]; rfl) (Nat.le_of_ble_eq_true rfl) rfl dX12_prepare_166 ?_
    refine mg_goto C 129 (by decide) dX12_prepare_169 ?_
    exact mg_sub [1, 2, 0] rfl (hR129 x1 x2_15 v f14 g h)
set_option maxRecDepth 20000 in
theorem sl_prepare_129 (C : mC p s m args meth c cX12_prepare 3 (some .int) A D cI cJ cZ) {post : Int32 → mS → Prop} {R88 : Int32 → (Nat → Int32) → (Nat → Nat → Int32) → (Nat → Nat → Int64) → Prop} (hR88 : ∀ (x1 : Int32) (v : Nat → Int32) (f : Nat → Nat → Int32) (g : Nat → Nat → Int64), R88 x1 v f g → mG p l e (mRm 2 44) s m args below meth c A D cI cJ cZ a 3 (MQ below (va_Qi post (mB D cI cJ cZ a) A) args s 0 0 A) 88 [(0, .ref (a 0)), (1, .int x1)] [] v f g) (x1 : Int32) (x2 : Int32) (v : Nat → Int32) (f : Nat → Nat → Int32) (g : Nat → Nat → Int64) (h : r_prepare_129L (fun r v f g => post r (v, f, g)) R88 x1 x2 v f g) : mG p l e (mRm 2 44) s m args below meth c A D cI cJ cZ a 3 (MQ below (va_Qi post (mB D cI cJ cZ a) A) args s 0 0 A) 129 [(0, .ref (a 0)), (1, .int x1), (2, .int x2)] [] v f g :=
  h (fun y => mG p l e (mRm 2 44) s m args below meth c A D cI cJ cZ a 3 (MQ below (va_Qi post (mB D cI cJ cZ a) A) args s 0 0 A) 129 [(0, .ref (a 0)), (1, .int (y.1)), (2, .int (y.2.1))] [] (y.2.2.1) (y.2.2.2.1) (y.2.2.2.2)) (fun y hy => sb_prepare_129 C hR88 (fun b0 b1 v f g z => z) (y.1) (y.2.1) (y.2.2.1) (y.2.2.2.1) (y.2.2.2.2) hy)
set_option maxRecDepth 20000 in
theorem sb_prepare_88 (C : mC p s m args meth c cX12_prepare 3 (some .int) A D cI cJ cZ) {post : Int32 → mS → Prop} {R88 : Int32 → (Nat → Int32) → (Nat → Nat → Int32) → (Nat → Nat → Int64) → Prop} (hR88 : ∀ (x1 : Int32) (v : Nat → Int32) (f : Nat → Nat → Int32) (g : Nat → Nat → Int64), R88 x1 v f g → mG p l e (mRm 2 44) s m args below meth c A D cI cJ cZ a 3 (MQ below (va_Qi post (mB D cI cJ cZ a) A) args s 0 0 A) 88 [(0, .ref (a 0)), (1, .int x1)] [] v f g) (x1 : Int32) (v : Nat → Int32) (f : Nat → Nat → Int32) (g : Nat → Nat → Int64) (h : r_prepare_88 (fun r v f g => post r (v, f, g)) R88 x1 v f g) : mG p l e (mRm 2 44) s m args below meth c A D cI cJ cZ a 3 (MQ below (va_Qi post (mB D cI cJ cZ a) A) args s 0 0 A) 88 [(0, .ref (a 0)), (1, .int x1)] [] v f g := by
  unfold r_prepare_88 at h
  refine mg_iload_n C (i := 1) rfl 1 rfl dX12_prepare_88 ?_
  refine mg_aload_n C (i := 0) rfl 0 rfl dX12_prepare_89 ?_
  refine mg_getI C (k := 34) (by decide) rfl mL_indexed rfl dX12_prepare_90 ?_
  refine mg_icmp_ge C 178 (by decide) dX12_prepare_93 (fun c_ => ?_) (fun c_ => ?_)
  · have h := h.1 c_
    refine mg_aload_n C (i := 0) rfl 0 rfl dX12_prepare_178 ?_
    refine mg_calliW C (s_writes1 l  v f g h) mCal_writes1 rfl ⟨by decide, by decide⟩ rfl (Nat.le_of_ble_eq_true rfl) dX12_prepare_179 (fun r_3 v_3 f_3 g_3 h => ?_)
    refine mg_if_ne C 188 (by decide) dX12_prepare_182 (fun c_ => ?_) (fun c_ => ?_)
    · have h := h.1 c_
      refine mg_aload_n C (i := 0) rfl 0 rfl dX12_prepare_188 ?_
      refine mg_aload_n C (i := 0) rfl 0 rfl dX12_prepare_189 ?_
      refine mg_getI C (k := 34) (by decide) rfl mL_indexed rfl dX12_prepare_190 ?_
      refine mg_put C (k := 42) (by decide) rfl mL_preparedMany rfl (by decide +kernel) mT_preparedMany rfl rfl dX12_prepare_193 ?_
      refine mg_nmV (fun v4 e_v4 => ?_)
      have h := h v4 e_v4
      refine mg_iconst C (x := nI 0) rfl dX12_prepare_196 ?_
      refine mg_istore_n C (i := 1) (lv' := [(1, .int ((nI 0))), (0, .ref (a 0))]) rfl (Nat.le_of_ble_eq_true rfl) rfl dX12_prepare_197 ?_
      exact mg_sub [1, 0] rfl (sl_prepare_198 C  (((nI 0))) v4 f_3 g_3 h)
    · have h := h.2 c_
      refine mg_bipush C (x := (-2)) rfl dX12_prepare_185 ?_
      exact mg_iret C h dX12_prepare_187
  · have h := h.2 c_
    refine mg_aload_n C (i := 0) rfl 0 rfl dX12_prepare_96 ?_
    refine mg_aload_n C (i := 0) rfl 0 rfl dX12_prepare_97 ?_
    refine mg_arr C 24 (by decide) (by decide) rfl mL_index rfl dX12_prepare_98 ?_
    refine mg_iload_n C (i := 1) rfl 1 rfl dX12_prepare_101 ?_
    obtain ⟨hc_102, h⟩ := h
    refine mg_ialoadR C (n := 202) 24 (by decide) (by decide) rfl rfl hc_102 dX12_prepare_102 ?_
    refine mg_calliW C (s_differs l ((f 24 (x1).toNatClampNeg)) v f g h) mCal_differs rfl ⟨by decide, by decide⟩ rfl (Nat.le_of_ble_eq_true rfl) dX12_prepare_103 (fun r_10 v_10 f_10 g_10 h => ?_)
    refine mg_if_eq C 172 (by decide) dX12_prepare_106 (fun c_ => ?_) (fun c_ => ?_)
    · have h := h.1 c_
      exact mg_sub [0, 1] rfl (sb_prepare_172 C hR88 x1 v_10 f_10 g_10 h)
    · have h := h.2 c_
      refine mg_aload_n C (i := 0) rfl 0 rfl dX12_prepare_109 ?_
      refine mg_calliW C (s_writes1 l  v_10 f_10 g_10 h) mCal_writes1 rfl ⟨by decide, by decide⟩ rfl (Nat.le_of_ble_eq_true rfl) dX12_prepare_110 (fun r_12 v_12 f_12 g_12 h => ?_)
      refine mg_if_ne C 119 (by decide) dX12_prepare_113 (fun c_ => ?_) (fun c_ => ?_)
      · have h := h.1 c_
        refine mg_bipush C (x := nI 100) rfl dX12_prepare_119 ?_
        refine mg_aload_n C (i := 0) rfl 0 rfl dX12_prepare_121 ?_
        refine mg_arr C 24 (by decide) (by decide) rfl mL_index rfl dX12_prepare_122 ?_
        refine mg_iload_n C (i := 1) rfl 1 rfl dX12_prepare_125 ?_
        obtain ⟨hc_126, h⟩ := h
        refine mg_ialoadR C (n := 202) 24 (by decide) (by decide) rfl rfl hc_126 dX12_prepare_126 ?_
        refine mg_imul C dX12_prepare_127 ?_
        refine mg_nmI (fun x2_13 e_x2_13 => ?_)
        have h := h x2_13 e_x2_13
        refine mg_istore_n C (i := 2) (lv' := [(2, .int x2_13), (0, .ref (a 0)), (1, .int x1)]) rfl (Nat.le_of_ble_eq_true rfl) rfl dX12_prepare_128 ?_
        exact mg_sub [1, 2, 0] rfl (sl_prepare_129 C hR88 x1 x2_13 v_12 f_12 g_12 h)
      · have h := h.2 c_
        refine mg_bipush C (x := (-2)) rfl dX12_prepare_116 ?_
        exact mg_iret C h dX12_prepare_118
set_option maxRecDepth 20000 in
theorem sl_prepare_88 (C : mC p s m args meth c cX12_prepare 3 (some .int) A D cI cJ cZ) {post : Int32 → mS → Prop}   (x1 : Int32) (v : Nat → Int32) (f : Nat → Nat → Int32) (g : Nat → Nat → Int64) (h : r_prepare_88L (fun r v f g => post r (v, f, g))  x1 v f g) : mG p l e (mRm 2 44) s m args below meth c A D cI cJ cZ a 3 (MQ below (va_Qi post (mB D cI cJ cZ a) A) args s 0 0 A) 88 [(0, .ref (a 0)), (1, .int x1)] [] v f g :=
  h (fun y => mG p l e (mRm 2 44) s m args below meth c A D cI cJ cZ a 3 (MQ below (va_Qi post (mB D cI cJ cZ a) A) args s 0 0 A) 88 [(0, .ref (a 0)), (1, .int (y.1))] [] (y.2.1) (y.2.2.1) (y.2.2.2)) (fun y hy => sb_prepare_88 C  (fun b0 v f g z => z) (y.1) (y.2.1) (y.2.2.1) (y.2.2.2) hy)
set_option maxRecDepth 20000 in
theorem sb_prepare_61 (C : mC p s m args meth c cX12_prepare 3 (some .int) A D cI cJ cZ) {post : Int32 → mS → Prop} {R61 : Int32 → (Nat → Int32) → (Nat → Nat → Int32) → (Nat → Nat → Int64) → Prop} (hR61 : ∀ (x1 : Int32) (v : Nat → Int32) (f : Nat → Nat → Int32) (g : Nat → Nat → Int64), R61 x1 v f g → mG p l e (mRm 2 44) s m args below meth c A D cI cJ cZ a 3 (MQ below (va_Qi post (mB D cI cJ cZ a) A) args s 0 0 A) 61 [(0, .ref (a 0)), (1, .int x1)] [] v f g) (x1 : Int32) (v : Nat → Int32) (f : Nat → Nat → Int32) (g : Nat → Nat → Int64) (h : r_prepare_61 (fun r v f g => post r (v, f, g)) R61 x1 v f g) : mG p l e (mRm 2 44) s m args below meth c A D cI cJ cZ a 3 (MQ below (va_Qi post (mB D cI cJ cZ a) A) args s 0 0 A) 61 [(0, .ref (a 0)), (1, .int x1)] [] v f g := by
  unfold r_prepare_61 at h
  refine mg_iload_n C (i := 1) rfl 1 rfl dX12_prepare_61 ?_
  refine mg_sipush C (x := nI 20200) rfl dX12_prepare_62 ?_
  refine mg_icmp_ge C 86 (by decide) dX12_prepare_65 (fun c_ => ?_) (fun c_ => ?_)
  · have h := h.1 c_
    refine mg_iconst C (x := nI 0) rfl dX12_prepare_86 ?_
    refine mg_istore_n C (i := 1) (lv' := [(1, .int ((nI 0))), (0, .ref (a 0))]) rfl (Nat.le_of_ble_eq_true rfl) rfl dX12_prepare_87 ?_
    exact mg_sub [1, 0] rfl (sl_prepare_88 C  (((nI 0))) v f g h)
  · have h := h.2 c_
    refine mg_aload_n C (i := 0) rfl 0 rfl dX12_prepare_68 ?_
    refine mg_arr C 23 (by decide) (by decide) rfl mL_wroteAhead rfl dX12_prepare_69 ?_
    refine mg_iload_n C (i := 1) rfl 1 rfl dX12_prepare_72 ?_
    refine mg_aload_n C (i := 0) rfl 0 rfl dX12_prepare_73 ?_
    refine mg_arr C 22 (by decide) (by decide) rfl mL_wrote rfl dX12_prepare_74 ?_
    refine mg_iload_n C (i := 1) rfl 1 rfl dX12_prepare_77 ?_
    obtain ⟨hc_78, h⟩ := h
    refine mg_baloadR C (n := 20200) 22 (by decide) (by decide) rfl rfl hc_78 dX12_prepare_78 ?_
    obtain ⟨hc_79, h⟩ := h
    obtain ⟨hz_79, h⟩ := h
    refine mg_bastoreR C (n := 20200) 23 (by decide) (by decide) rfl rfl hc_79 (isZ_vp hz_79) dX12_prepare_79 ?_
    refine mg_nmF (fun f16 e_f16 => ?_)
    have h := h f16 e_f16
    obtain ⟨x1_17, e_x1_17⟩ : ∃ z : Int32, z = x1 + nI 1 := ⟨_, rfl⟩
    have h := h x1_17 e_x1_17
    refine mg_iinc C (lv' := [(1, .int x1_17), (0, .ref (a 0))]) 1 rfl (by rw [e_x1_17]; rfl) (Nat.le_of_ble_eq_true rfl) rfl dX12_prepare_80 ?_
    refine mg_goto C 61 (by decide) dX12_prepare_83 ?_
    exact mg_sub [1, 0] rfl (hR61 x1_17 v f16 g h)
set_option maxRecDepth 20000 in
theorem sl_prepare_61 (C : mC p s m args meth c cX12_prepare 3 (some .int) A D cI cJ cZ) {post : Int32 → mS → Prop}   (x1 : Int32) (v : Nat → Int32) (f : Nat → Nat → Int32) (g : Nat → Nat → Int64) (h : r_prepare_61L (fun r v f g => post r (v, f, g))  x1 v f g) : mG p l e (mRm 2 44) s m args below meth c A D cI cJ cZ a 3 (MQ below (va_Qi post (mB D cI cJ cZ a) A) args s 0 0 A) 61 [(0, .ref (a 0)), (1, .int x1)] [] v f g :=
  h (fun y => mG p l e (mRm 2 44) s m args below meth c A D cI cJ cZ a 3 (MQ below (va_Qi post (mB D cI cJ cZ a) A) args s 0 0 A) 61 [(0, .ref (a 0)), (1, .int (y.1))] [] (y.2.1) (y.2.2.1) (y.2.2.2)) (fun y hy => sb_prepare_61 C  (fun b0 v f g z => z) (y.1) (y.2.1) (y.2.2.1) (y.2.2.2) hy)
set_option maxRecDepth 20000 in
theorem sb_prepare_37 (C : mC p s m args meth c cX12_prepare 3 (some .int) A D cI cJ cZ) {post : Int32 → mS → Prop}   (t0 : Int32) (v : Nat → Int32) (f : Nat → Nat → Int32) (g : Nat → Nat → Int64) (h : r_prepare_37 (fun r v f g => post r (v, f, g))  t0 v f g) : mG p l e (mRm 2 44) s m args below meth c A D cI cJ cZ a 3 (MQ below (va_Qi post (mB D cI cJ cZ a) A) args s 0 0 A) 37 [(0, .ref (a 0))] [.int t0, .ref (a 0)] v f g := by
  unfold r_prepare_37 at h
  refine mg_iconst C (x := nI 1) rfl dX12_prepare_37 ?_
  refine mg_iconst C (x := nI 1) rfl dX12_prepare_38 ?_
  refine mg_calliW C (s_goes l t0 ((nI 1)) ((nI 1)) v f g h) mCal_goes rfl ⟨by decide, by decide⟩ rfl (Nat.le_of_ble_eq_true rfl) dX12_prepare_39 (fun r_1 v_1 f_1 g_1 h => ?_)
  refine mg_if_ne C 47 (by decide) dX12_prepare_42 (fun c_ => ?_) (fun c_ => ?_)
  · have h := h.1 c_
    refine mg_aload_n C (i := 0) rfl 0 rfl dX12_prepare_47 ?_
    refine mg_calliW C (s_flushes l  v_1 f_1 g_1 h) mCal_flushes rfl ⟨by decide, by decide⟩ rfl (Nat.le_of_ble_eq_true rfl) dX12_prepare_48 (fun r_2 v_2 f_2 g_2 h => ?_)
    refine mg_bipush C (x := (-2)) rfl dX12_prepare_51 ?_
    refine mg_icmp_ne C 59 (by decide) dX12_prepare_53 (fun c_ => ?_) (fun c_ => ?_)
    · have h := h.1 c_
      refine mg_iconst C (x := nI 0) rfl dX12_prepare_59 ?_
      refine mg_istore_n C (i := 1) (lv' := [(1, .int ((nI 0))), (0, .ref (a 0))]) rfl (Nat.le_of_ble_eq_true rfl) rfl dX12_prepare_60 ?_
      exact mg_sub [1, 0] rfl (sl_prepare_61 C  (((nI 0))) v_2 f_2 g_2 h)
    · have h := h.2 c_
      refine mg_bipush C (x := (-2)) rfl dX12_prepare_56 ?_
      exact mg_iret C h dX12_prepare_58
  · have h := h.2 c_
    refine mg_iconst C (x := nI 0) rfl dX12_prepare_45 ?_
    exact mg_iret C h dX12_prepare_46
set_option maxRecDepth 20000 in
theorem sb_prepare_36 (C : mC p s m args meth c cX12_prepare 3 (some .int) A D cI cJ cZ) {post : Int32 → mS → Prop}    (v : Nat → Int32) (f : Nat → Nat → Int32) (g : Nat → Nat → Int64) (h : r_prepare_36 (fun r v f g => post r (v, f, g))   v f g) : mG p l e (mRm 2 44) s m args below meth c A D cI cJ cZ a 3 (MQ below (va_Qi post (mB D cI cJ cZ a) A) args s 0 0 A) 36 [(0, .ref (a 0))] [.ref (a 0)] v f g := by
  unfold r_prepare_36 at h
  refine mg_iconst C (x := nI 0) rfl dX12_prepare_36 ?_
  exact mg_sub [0] rfl (sb_prepare_37 C  ((nI 0)) v f g h)
end S_prepare
set_option maxHeartbeats 1000000 in
set_option maxRecDepth 20000 in
theorem s_prepare (l : Launch)  (v : Nat → Int32) (f : Nat → Nat → Int32) (g : Nat → Nat → Int64) {P : Int32 → (Nat → Int32) → (Nat → Nat → Int32) → (Nat → Nat → Int64) → Prop} (h : r_prepare P  v f g) : mMi l yX12_prepare cX12_prepare 3 (some .int) 2 44 false [] v f g (fun r w => P r w.1 w.2.1 w.2.2) := by
  intro D cI cJ cZ a sz
  refine mg_body (by decide +kernel) rfl (Nat.le_of_ble_eq_true rfl) ?_
  intro p e s m args below meth c hsz C
  clear hsz
  generalize va_A (mW cI cJ cZ a v f g) sz = A at C ⊢
  refine mg_lv (lv' := [(0, .ref (a 0))]) rfl ?_
  unfold r_prepare at h
  refine mg_aload_n C (i := 0) rfl 0 rfl dX12_prepare_0 ?_
  refine mg_aload_n C (i := 0) rfl 0 rfl dX12_prepare_1 ?_
  refine mg_getI C (k := 98) (by decide) rfl mL_down rfl dX12_prepare_2 ?_
  refine mg_if_ne C 36 (by decide) dX12_prepare_5 (fun c_ => ?_) (fun c_ => ?_)
  · have h := h.1 c_
    exact mg_sub [0] rfl (sb_prepare_36 C  v f g h)
  · have h := h.2 c_
    refine mg_aload_n C (i := 0) rfl 0 rfl dX12_prepare_8 ?_
    refine mg_getI C (k := 40) (by decide) rfl mL_isPrepared rfl dX12_prepare_9 ?_
    refine mg_if_ne C 36 (by decide) dX12_prepare_12 (fun c_ => ?_) (fun c_ => ?_)
    · have h := h.1 c_
      exact mg_sub [0] rfl (sb_prepare_36 C  v f g h)
    · have h := h.2 c_
      refine mg_aload_n C (i := 0) rfl 0 rfl dX12_prepare_15 ?_
      refine mg_getI C (k := 29) (by decide) rfl mL_made rfl dX12_prepare_16 ?_
      refine mg_sipush C (x := nI 200) rfl dX12_prepare_19 ?_
      refine mg_icmp_lt C 32 (by decide) dX12_prepare_22 (fun c_ => ?_) (fun c_ => ?_)
      · have h := h.1 c_
        refine mg_iconst C (x := nI 1) rfl dX12_prepare_32 ?_
        refine mg_goto C 37 (by decide) dX12_prepare_33 ?_
        exact mg_sub [0] rfl (sb_prepare_37 C  ((nI 1)) v f g h)
      · have h := h.2 c_
        refine mg_aload_n C (i := 0) rfl 0 rfl dX12_prepare_25 ?_
        refine mg_getI C (k := 20) (by decide) rfl mL_buffered rfl dX12_prepare_26 ?_
        refine mg_if_ne C 36 (by decide) dX12_prepare_29 (fun c_ => ?_) (fun c_ => ?_)
        · have h := h.1 c_
          exact mg_sub [0] rfl (sb_prepare_36 C  v f g h)
        · have h := h.2 c_
          refine mg_iconst C (x := nI 1) rfl dX12_prepare_32 ?_
          refine mg_goto C 37 (by decide) dX12_prepare_33 ?_
          exact mg_sub [0] rfl (sb_prepare_37 C  ((nI 1)) v f g h)
def r_finish_88 (Q : Int32 → (Nat → Int32) → (Nat → Nat → Int32) → (Nat → Nat → Int64) → Prop) (R88 : Int32 → (Nat → Int32) → (Nat → Nat → Int32) → (Nat → Nat → Int64) → Prop) (x1 : Int32) (v : Nat → Int32) (f : Nat → Nat → Int32) (g : Nat → Nat → Int64) : Prop :=
((((nI 20200)) ≤ x1 →
  ∀ v6 : Nat → Int32, v6 = upd v 39 ((((v 39)) + ((nI 1)))) → Q ((v6 39)) v6 f g) ∧
 (¬ ((nI 20200)) ≤ x1 →
  vp_in x1 20200 ∧ (vp_in x1 20200 ∧ (isZ ((f 28 (x1).toNatClampNeg)) ∧ (∀ f7 : Nat → Nat → Int32, f7 = mU f 26 (x1).toNatClampNeg ((f 28 (x1).toNatClampNeg)) → ∀ x1_8 : Int32, x1_8 = x1 + nI 1 → R88 x1_8 v f7 g)))))
def r_finish_88L (Q : Int32 → (Nat → Int32) → (Nat → Nat → Int32) → (Nat → Nat → Int64) → Prop)  (x1 : Int32) (v : Nat → Int32) (f : Nat → Nat → Int32) (g : Nat → Nat → Int64) : Prop :=
  lfp (X := Int32 × (Nat → Int32) × (Nat → Nat → Int32) × (Nat → Nat → Int64)) (fun P y => r_finish_88 Q  (fun b0 v f g => P (b0, v, f, g)) y.1 y.2.1 y.2.2.1 y.2.2.2) (x1, v, f, g)
def r_finish_60 (Q : Int32 → (Nat → Int32) → (Nat → Nat → Int32) → (Nat → Nat → Int64) → Prop) (R60 : Int32 → (Nat → Int32) → (Nat → Nat → Int32) → (Nat → Nat → Int64) → Prop) (x1 : Int32) (v : Nat → Int32) (f : Nat → Nat → Int32) (g : Nat → Nat → Int64) : Prop :=
((((v 42)) ≤ x1 →
  r_finish_88L Q  (((nI 0))) v f g) ∧
 (¬ ((v 42)) ≤ x1 →
  vp_in x1 202 ∧ (vp_in x1 202 ∧ (∀ f9 : Nat → Nat → Int32, f9 = mU f 25 (x1).toNatClampNeg ((f 27 (x1).toNatClampNeg)) → ∀ x1_10 : Int32, x1_10 = x1 + nI 1 → R60 x1_10 v f9 g))))
def r_finish_60L (Q : Int32 → (Nat → Int32) → (Nat → Nat → Int32) → (Nat → Nat → Int64) → Prop)  (x1 : Int32) (v : Nat → Int32) (f : Nat → Nat → Int32) (g : Nat → Nat → Int64) : Prop :=
  lfp (X := Int32 × (Nat → Int32) × (Nat → Nat → Int32) × (Nat → Nat → Int64)) (fun P y => r_finish_60 Q  (fun b0 v f g => P (b0, v, f, g)) y.1 y.2.1 y.2.2.1 y.2.2.2) (x1, v, f, g)
def r_finish_20 (Q : Int32 → (Nat → Int32) → (Nat → Nat → Int32) → (Nat → Nat → Int64) → Prop)  (t0 : Int32) (v : Nat → Int32) (f : Nat → Nat → Int32) (g : Nat → Nat → Int64) : Prop :=
r_goes (fun r_1 v_1 f_1 g_1 => 
((¬ r_1 = 0 →
  r_writes1 (fun r_2 v_2 f_2 g_2 => 
  ((¬ r_2 = 0 →
    ∀ v3 : Nat → Int32, v3 = upd v_2 35 ((bI true)) → ∀ v4 : Nat → Int32, v4 = upd v3 40 ((bI false)) → ∀ v5 : Nat → Int32, v5 = upd v4 37 ((v4 42)) → r_finish_60L Q  (((nI 0))) v5 f_2 g_2) ∧
   (r_2 = 0 →
    Q (((-2))) v_2 f_2 g_2)))  v_1 f_1 g_1) ∧
 (r_1 = 0 →
  Q ((nI 0)) v_1 f_1 g_1))) t0 ((nI 1)) ((nI 1)) v f g
def r_finish_19 (Q : Int32 → (Nat → Int32) → (Nat → Nat → Int32) → (Nat → Nat → Int64) → Prop)   (v : Nat → Int32) (f : Nat → Nat → Int32) (g : Nat → Nat → Int64) : Prop :=
r_finish_20 Q  ((nI 0)) v f g
def r_finish (Q : Int32 → (Nat → Int32) → (Nat → Nat → Int32) → (Nat → Nat → Int64) → Prop)  (v : Nat → Int32) (f : Nat → Nat → Int32) (g : Nat → Nat → Int64) : Prop :=
((¬ ((v 98)) = 0 →
  r_finish_19 Q  v f g) ∧
 (((v 98)) = 0 →
  ((((v 40)) = 0 →
    r_finish_19 Q  v f g) ∧
   (¬ ((v 40)) = 0 →
    r_finish_20 Q  ((nI 1)) v f g))))
section S_finish
variable {p : Program} {l : Launch} {e : Env} {s : State} {m : MethodId} {args : Array Value} {below : List Frame} {meth : Method} {c : Code} {A : Nat → Prop} {D : va_G} {cI cJ cZ : ClassId} {a : Nat → Nat}
set_option maxRecDepth 20000 in
theorem sb_finish_88 (C : mC p s m args meth c cX12_finish 2 (some .int) A D cI cJ cZ) {post : Int32 → mS → Prop} {R88 : Int32 → (Nat → Int32) → (Nat → Nat → Int32) → (Nat → Nat → Int64) → Prop} (hR88 : ∀ (x1 : Int32) (v : Nat → Int32) (f : Nat → Nat → Int32) (g : Nat → Nat → Int64), R88 x1 v f g → mG p l e (mRm 1 23) s m args below meth c A D cI cJ cZ a 2 (MQ below (va_Qi post (mB D cI cJ cZ a) A) args s 0 0 A) 88 [(0, .ref (a 0)), (1, .int x1)] [] v f g) (x1 : Int32) (v : Nat → Int32) (f : Nat → Nat → Int32) (g : Nat → Nat → Int64) (h : r_finish_88 (fun r v f g => post r (v, f, g)) R88 x1 v f g) : mG p l e (mRm 1 23) s m args below meth c A D cI cJ cZ a 2 (MQ below (va_Qi post (mB D cI cJ cZ a) A) args s 0 0 A) 88 [(0, .ref (a 0)), (1, .int x1)] [] v f g := by
  unfold r_finish_88 at h
  refine mg_iload_n C (i := 1) rfl 1 rfl dX12_finish_88 ?_
  refine mg_sipush C (x := nI 20200) rfl dX12_finish_89 ?_
  refine mg_icmp_ge C 113 (by decide) dX12_finish_92 (fun c_ => ?_) (fun c_ => ?_)
  · have h := h.1 c_
    refine mg_aload_n C (i := 0) rfl 0 rfl dX12_finish_113 ?_
    refine mg_dup C rfl dX12_finish_114 ?_
    refine mg_getI C (k := 39) (by decide) rfl mL_commits rfl dX12_finish_115 ?_
    refine mg_iconst C (x := nI 1) rfl dX12_finish_118 ?_
    refine mg_iadd C dX12_finish_119 ?_
    refine mg_put C (k := 39) (by decide) rfl mL_commits rfl (by decide +kernel) mT_commits rfl rfl dX12_finish_120 ?_
    refine mg_nmV (fun v6 e_v6 => ?_)
    have h := h v6 e_v6
    refine mg_aload_n C (i := 0) rfl 0 rfl dX12_finish_123 ?_
    refine mg_getI C (k := 39) (by decide) rfl mL_commits rfl dX12_finish_124 ?_
    exact mg_iret C h dX12_finish_127
  · have h := h.2 c_
    refine mg_aload_n C (i := 0) rfl 0 rfl dX12_finish_95 ?_
    refine mg_arr C 26 (by decide) (by decide) rfl mL_committedLive rfl dX12_finish_96 ?_
    refine mg_iload_n C (i := 1) rfl 1 rfl dX12_finish_99 ?_
    refine mg_aload_n C (i := 0) rfl 0 rfl dX12_finish_100 ?_
    refine mg_arr C 28 (by decide) (by decide) rfl mL_preparedLive rfl dX12_finish_101 ?_
    refine mg_iload_n C (i := 1) rfl 1 rfl dX12_finish_104 ?_
    obtain ⟨hc_105, h⟩ := h
    refine mg_baloadR C (n := 20200) 28 (by decide) (by decide) rfl rfl hc_105 dX12_finish_105 ?_
    obtain ⟨hc_106, h⟩ := h
    obtain ⟨hz_106, h⟩ := h
    refine mg_bastoreR C (n := 20200) 26 (by decide) (by decide) rfl rfl hc_106 (isZ_vp hz_106) dX12_finish_106 ?_
    refine mg_nmF (fun f7 e_f7 => ?_)
    have h := h f7 e_f7
    obtain ⟨x1_8, e_x1_8⟩ : ∃ z : Int32, z = x1 + nI 1 := ⟨_, rfl⟩
    have h := h x1_8 e_x1_8
    refine mg_iinc C (lv' := [(1, .int x1_8), (0, .ref (a 0))]) 1 rfl (by rw [e_x1_8]; rfl) (Nat.le_of_ble_eq_true rfl) rfl dX12_finish_107 ?_
    refine mg_goto C 88 (by decide) dX12_finish_110 ?_
    exact mg_sub [1, 0] rfl (hR88 x1_8 v f7 g h)
set_option maxRecDepth 20000 in
theorem sl_finish_88 (C : mC p s m args meth c cX12_finish 2 (some .int) A D cI cJ cZ) {post : Int32 → mS → Prop}   (x1 : Int32) (v : Nat → Int32) (f : Nat → Nat → Int32) (g : Nat → Nat → Int64) (h : r_finish_88L (fun r v f g => post r (v, f, g))  x1 v f g) : mG p l e (mRm 1 23) s m args below meth c A D cI cJ cZ a 2 (MQ below (va_Qi post (mB D cI cJ cZ a) A) args s 0 0 A) 88 [(0, .ref (a 0)), (1, .int x1)] [] v f g :=
  h (fun y => mG p l e (mRm 1 23) s m args below meth c A D cI cJ cZ a 2 (MQ below (va_Qi post (mB D cI cJ cZ a) A) args s 0 0 A) 88 [(0, .ref (a 0)), (1, .int (y.1))] [] (y.2.1) (y.2.2.1) (y.2.2.2)) (fun y hy => sb_finish_88 C  (fun b0 v f g z => z) (y.1) (y.2.1) (y.2.2.1) (y.2.2.2) hy)
set_option maxRecDepth 20000 in
theorem sb_finish_60 (C : mC p s m args meth c cX12_finish 2 (some .int) A D cI cJ cZ) {post : Int32 → mS → Prop} {R60 : Int32 → (Nat → Int32) → (Nat → Nat → Int32) → (Nat → Nat → Int64) → Prop} (hR60 : ∀ (x1 : Int32) (v : Nat → Int32) (f : Nat → Nat → Int32) (g : Nat → Nat → Int64), R60 x1 v f g → mG p l e (mRm 1 23) s m args below meth c A D cI cJ cZ a 2 (MQ below (va_Qi post (mB D cI cJ cZ a) A) args s 0 0 A) 60 [(0, .ref (a 0)), (1, .int x1)] [] v f g) (x1 : Int32) (v : Nat → Int32) (f : Nat → Nat → Int32) (g : Nat → Nat → Int64) (h : r_finish_60 (fun r v f g => post r (v, f, g)) R60 x1 v f g) : mG p l e (mRm 1 23) s m args below meth c A D cI cJ cZ a 2 (MQ below (va_Qi post (mB D cI cJ cZ a) A) args s 0 0 A) 60 [(0, .ref (a 0)), (1, .int x1)] [] v f g := by
  unfold r_finish_60 at h
  refine mg_iload_n C (i := 1) rfl 1 rfl dX12_finish_60 ?_
  refine mg_aload_n C (i := 0) rfl 0 rfl dX12_finish_61 ?_
  refine mg_getI C (k := 42) (by decide) rfl mL_preparedMany rfl dX12_finish_62 ?_
  refine mg_icmp_ge C 86 (by decide) dX12_finish_65 (fun c_ => ?_) (fun c_ => ?_)
  · have h := h.1 c_
    refine mg_iconst C (x := nI 0) rfl dX12_finish_86 ?_
    refine mg_istore_n C (i := 1) (lv' := [(1, .int ((nI 0))), (0, .ref (a 0))]) rfl (Nat.le_of_ble_eq_true rfl) rfl dX12_finish_87 ?_
    exact mg_sub [1, 0] rfl (sl_finish_88 C  (((nI 0))) v f g h)
  · have h := h.2 c_
    refine mg_aload_n C (i := 0) rfl 0 rfl dX12_finish_68 ?_
    refine mg_arr C 25 (by decide) (by decide) rfl mL_committed rfl dX12_finish_69 ?_
    refine mg_iload_n C (i := 1) rfl 1 rfl dX12_finish_72 ?_
    refine mg_aload_n C (i := 0) rfl 0 rfl dX12_finish_73 ?_
    refine mg_arr C 27 (by decide) (by decide) rfl mL_prepared rfl dX12_finish_74 ?_
    refine mg_iload_n C (i := 1) rfl 1 rfl dX12_finish_77 ?_
    obtain ⟨hc_78, h⟩ := h
    refine mg_ialoadR C (n := 202) 27 (by decide) (by decide) rfl rfl hc_78 dX12_finish_78 ?_
    obtain ⟨hc_79, h⟩ := h
    refine mg_iastoreR C (n := 202) 25 (by decide) (by decide) rfl rfl hc_79 dX12_finish_79 ?_
    refine mg_nmF (fun f9 e_f9 => ?_)
    have h := h f9 e_f9
    obtain ⟨x1_10, e_x1_10⟩ : ∃ z : Int32, z = x1 + nI 1 := ⟨_, rfl⟩
    have h := h x1_10 e_x1_10
    refine mg_iinc C (lv' := [(1, .int x1_10), (0, .ref (a 0))]) 1 rfl (by rw [e_x1_10]; rfl) (Nat.le_of_ble_eq_true rfl) rfl dX12_finish_80 ?_
    refine mg_goto C 60 (by decide) dX12_finish_83 ?_
    exact mg_sub [1, 0] rfl (hR60 x1_10 v f9 g h)
set_option maxRecDepth 20000 in
theorem sl_finish_60 (C : mC p s m args meth c cX12_finish 2 (some .int) A D cI cJ cZ) {post : Int32 → mS → Prop}   (x1 : Int32) (v : Nat → Int32) (f : Nat → Nat → Int32) (g : Nat → Nat → Int64) (h : r_finish_60L (fun r v f g => post r (v, f, g))  x1 v f g) : mG p l e (mRm 1 23) s m args below meth c A D cI cJ cZ a 2 (MQ below (va_Qi post (mB D cI cJ cZ a) A) args s 0 0 A) 60 [(0, .ref (a 0)), (1, .int x1)] [] v f g :=
  h (fun y => mG p l e (mRm 1 23) s m args below meth c A D cI cJ cZ a 2 (MQ below (va_Qi post (mB D cI cJ cZ a) A) args s 0 0 A) 60 [(0, .ref (a 0)), (1, .int (y.1))] [] (y.2.1) (y.2.2.1) (y.2.2.2)) (fun y hy => sb_finish_60 C  (fun b0 v f g z => z) (y.1) (y.2.1) (y.2.2.1) (y.2.2.2) hy)
set_option maxRecDepth 20000 in
theorem sb_finish_20 (C : mC p s m args meth c cX12_finish 2 (some .int) A D cI cJ cZ) {post : Int32 → mS → Prop}   (t0 : Int32) (v : Nat → Int32) (f : Nat → Nat → Int32) (g : Nat → Nat → Int64) (h : r_finish_20 (fun r v f g => post r (v, f, g))  t0 v f g) : mG p l e (mRm 1 23) s m args below meth c A D cI cJ cZ a 2 (MQ below (va_Qi post (mB D cI cJ cZ a) A) args s 0 0 A) 20 [(0, .ref (a 0))] [.int t0, .ref (a 0)] v f g := by
  unfold r_finish_20 at h
  refine mg_iconst C (x := nI 1) rfl dX12_finish_20 ?_
  refine mg_iconst C (x := nI 1) rfl dX12_finish_21 ?_
  refine mg_calliW C (s_goes l t0 ((nI 1)) ((nI 1)) v f g h) mCal_goes rfl ⟨by decide, by decide⟩ rfl (Nat.le_of_ble_eq_true rfl) dX12_finish_22 (fun r_1 v_1 f_1 g_1 h => ?_)
  refine mg_if_ne C 30 (by decide) dX12_finish_25 (fun c_ => ?_) (fun c_ => ?_)
  · have h := h.1 c_
    refine mg_aload_n C (i := 0) rfl 0 rfl dX12_finish_30 ?_
    refine mg_calliW C (s_writes1 l  v_1 f_1 g_1 h) mCal_writes1 rfl ⟨by decide, by decide⟩ rfl (Nat.le_of_ble_eq_true rfl) dX12_finish_31 (fun r_2 v_2 f_2 g_2 h => ?_)
    refine mg_if_ne C 40 (by decide) dX12_finish_34 (fun c_ => ?_) (fun c_ => ?_)
    · have h := h.1 c_
      refine mg_aload_n C (i := 0) rfl 0 rfl dX12_finish_40 ?_
      refine mg_iconst C (x := nI 1) rfl dX12_finish_41 ?_
      refine mg_cast (bI true) rfl ?_
      refine mg_put C (k := 35) (by decide) rfl mL_isCommitted rfl (by decide +kernel) mT_isCommitted (bI_nar _) (bI_fit _) dX12_finish_42 ?_
      refine mg_nmV (fun v3 e_v3 => ?_)
      have h := h v3 e_v3
      refine mg_aload_n C (i := 0) rfl 0 rfl dX12_finish_45 ?_
      refine mg_iconst C (x := nI 0) rfl dX12_finish_46 ?_
      refine mg_cast (bI false) rfl ?_
      refine mg_put C (k := 40) (by decide) rfl mL_isPrepared rfl (by decide +kernel) mT_isPrepared (bI_nar _) (bI_fit _) dX12_finish_47 ?_
      refine mg_nmV (fun v4 e_v4 => ?_)
      have h := h v4 e_v4
      refine mg_aload_n C (i := 0) rfl 0 rfl dX12_finish_50 ?_
      refine mg_aload_n C (i := 0) rfl 0 rfl dX12_finish_51 ?_
      refine mg_getI C (k := 42) (by decide) rfl mL_preparedMany rfl dX12_finish_52 ?_
      refine mg_put C (k := 37) (by decide) rfl mL_committedMany rfl (by decide +kernel) mT_committedMany rfl rfl dX12_finish_55 ?_
      refine mg_nmV (fun v5 e_v5 => ?_)
      have h := h v5 e_v5
      refine mg_iconst C (x := nI 0) rfl dX12_finish_58 ?_
      refine mg_istore_n C (i := 1) (lv' := [(1, .int ((nI 0))), (0, .ref (a 0))]) rfl (Nat.le_of_ble_eq_true rfl) rfl dX12_finish_59 ?_
      exact mg_sub [1, 0] rfl (sl_finish_60 C  (((nI 0))) v5 f_2 g_2 h)
    · have h := h.2 c_
      refine mg_bipush C (x := (-2)) rfl dX12_finish_37 ?_
      exact mg_iret C h dX12_finish_39
  · have h := h.2 c_
    refine mg_iconst C (x := nI 0) rfl dX12_finish_28 ?_
    exact mg_iret C h dX12_finish_29
set_option maxRecDepth 20000 in
theorem sb_finish_19 (C : mC p s m args meth c cX12_finish 2 (some .int) A D cI cJ cZ) {post : Int32 → mS → Prop}    (v : Nat → Int32) (f : Nat → Nat → Int32) (g : Nat → Nat → Int64) (h : r_finish_19 (fun r v f g => post r (v, f, g))   v f g) : mG p l e (mRm 1 23) s m args below meth c A D cI cJ cZ a 2 (MQ below (va_Qi post (mB D cI cJ cZ a) A) args s 0 0 A) 19 [(0, .ref (a 0))] [.ref (a 0)] v f g := by
  unfold r_finish_19 at h
  refine mg_iconst C (x := nI 0) rfl dX12_finish_19 ?_
  exact mg_sub [0] rfl (sb_finish_20 C  ((nI 0)) v f g h)
end S_finish
set_option maxHeartbeats 1000000 in
set_option maxRecDepth 20000 in
theorem s_finish (l : Launch)  (v : Nat → Int32) (f : Nat → Nat → Int32) (g : Nat → Nat → Int64) {P : Int32 → (Nat → Int32) → (Nat → Nat → Int32) → (Nat → Nat → Int64) → Prop} (h : r_finish P  v f g) : mMi l yX12_finish cX12_finish 2 (some .int) 1 23 false [] v f g (fun r w => P r w.1 w.2.1 w.2.2) := by
  intro D cI cJ cZ a sz
  refine mg_body (by decide +kernel) rfl (Nat.le_of_ble_eq_true rfl) ?_
  intro p e s m args below meth c hsz C
  clear hsz
  generalize va_A (mW cI cJ cZ a v f g) sz = A at C ⊢
  refine mg_lv (lv' := [(0, .ref (a 0))]) rfl ?_
  unfold r_finish at h
  refine mg_aload_n C (i := 0) rfl 0 rfl dX12_finish_0 ?_
  refine mg_aload_n C (i := 0) rfl 0 rfl dX12_finish_1 ?_
  refine mg_getI C (k := 98) (by decide) rfl mL_down rfl dX12_finish_2 ?_
  refine mg_if_ne C 19 (by decide) dX12_finish_5 (fun c_ => ?_) (fun c_ => ?_)
  · have h := h.1 c_
    exact mg_sub [0] rfl (sb_finish_19 C  v f g h)
  · have h := h.2 c_
    refine mg_aload_n C (i := 0) rfl 0 rfl dX12_finish_8 ?_
    refine mg_getI C (k := 40) (by decide) rfl mL_isPrepared rfl dX12_finish_9 ?_
    refine mg_if_eq C 19 (by decide) dX12_finish_12 (fun c_ => ?_) (fun c_ => ?_)
    · have h := h.1 c_
      exact mg_sub [0] rfl (sb_finish_19 C  v f g h)
    · have h := h.2 c_
      refine mg_iconst C (x := nI 1) rfl dX12_finish_15 ?_
      refine mg_goto C 20 (by decide) dX12_finish_16 ?_
      exact mg_sub [0] rfl (sb_finish_20 C  ((nI 1)) v f g h)
def r_drop_53 (Q : (Nat → Int32) → (Nat → Nat → Int32) → (Nat → Nat → Int64) → Prop) (R35 : Int32 → (Nat → Int32) → (Nat → Nat → Int32) → (Nat → Nat → Int64) → Prop) (R53 : Int32 → Int32 → (Nat → Int32) → (Nat → Nat → Int32) → (Nat → Nat → Int64) → Prop) (x1 : Int32) (x2 : Int32) (v : Nat → Int32) (f : Nat → Nat → Int32) (g : Nat → Nat → Int64) : Prop :=
vp_in x1 202 ∧ (vp_in x1 202 ∧ (vp_in ((f 27 (x1).toNatClampNeg)) 202 ∧ (((((((((nI 100)) * ((f 27 (x1).toNatClampNeg)))) + ((f 20 ((f 27 (x1).toNatClampNeg)).toNatClampNeg)))) ≤ x2 →
  ∀ x1_4 : Int32, x1_4 = x1 + nI 1 → R35 x1_4 v f g) ∧
 (¬ ((((((nI 100)) * ((f 27 (x1).toNatClampNeg)))) + ((f 20 ((f 27 (x1).toNatClampNeg)).toNatClampNeg)))) ≤ x2 →
  vp_in x2 20200 ∧ (vp_in x2 20200 ∧ (isZ ((f 23 (x2).toNatClampNeg)) ∧ (∀ f5 : Nat → Nat → Int32, f5 = mU f 22 (x2).toNatClampNeg ((f 23 (x2).toNatClampNeg)) → ∀ x2_6 : Int32, x2_6 = x2 + nI 1 → R53 x1 x2_6 v f5 g))))))))
def r_drop_53L (Q : (Nat → Int32) → (Nat → Nat → Int32) → (Nat → Nat → Int64) → Prop) (R35 : Int32 → (Nat → Int32) → (Nat → Nat → Int32) → (Nat → Nat → Int64) → Prop) (x1 : Int32) (x2 : Int32) (v : Nat → Int32) (f : Nat → Nat → Int32) (g : Nat → Nat → Int64) : Prop :=
  lfp (X := Int32 × Int32 × (Nat → Int32) × (Nat → Nat → Int32) × (Nat → Nat → Int64)) (fun P y => r_drop_53 Q R35 (fun b0 b1 v f g => P (b0, b1, v, f, g)) y.1 y.2.1 y.2.2.1 y.2.2.2.1 y.2.2.2.2) (x1, x2, v, f, g)
def r_drop_35 (Q : (Nat → Int32) → (Nat → Nat → Int32) → (Nat → Nat → Int64) → Prop) (R35 : Int32 → (Nat → Int32) → (Nat → Nat → Int32) → (Nat → Nat → Int64) → Prop) (x1 : Int32) (v : Nat → Int32) (f : Nat → Nat → Int32) (g : Nat → Nat → Int64) : Prop :=
((((v 42)) ≤ x1 →
  Q v f g) ∧
 (¬ ((v 42)) ≤ x1 →
  vp_in x1 202 ∧ (∀ x2_3 : Int32, x2_3 = (((nI 100)) * ((f 27 (x1).toNatClampNeg))) → r_drop_53L Q R35 x1 x2_3 v f g)))
def r_drop_35L (Q : (Nat → Int32) → (Nat → Nat → Int32) → (Nat → Nat → Int64) → Prop)  (x1 : Int32) (v : Nat → Int32) (f : Nat → Nat → Int32) (g : Nat → Nat → Int64) : Prop :=
  lfp (X := Int32 × (Nat → Int32) × (Nat → Nat → Int32) × (Nat → Nat → Int64)) (fun P y => r_drop_35 Q  (fun b0 v f g => P (b0, v, f, g)) y.1 y.2.1 y.2.2.1 y.2.2.2) (x1, v, f, g)
def r_drop_20 (Q : (Nat → Int32) → (Nat → Nat → Int32) → (Nat → Nat → Int64) → Prop)  (t0 : Int32) (v : Nat → Int32) (f : Nat → Nat → Int32) (g : Nat → Nat → Int64) : Prop :=
r_goes (fun r_1 v_1 f_1 g_1 => 
((r_1 = 0 →
  Q v_1 f_1 g_1) ∧
 (¬ r_1 = 0 →
  ∀ v2 : Nat → Int32, v2 = upd v_1 40 ((bI false)) → r_drop_35L Q  (((nI 0))) v2 f_1 g_1))) t0 ((nI 1)) ((nI 1)) v f g
def r_drop_19 (Q : (Nat → Int32) → (Nat → Nat → Int32) → (Nat → Nat → Int64) → Prop)   (v : Nat → Int32) (f : Nat → Nat → Int32) (g : Nat → Nat → Int64) : Prop :=
r_drop_20 Q  ((nI 0)) v f g
def r_drop (Q : (Nat → Int32) → (Nat → Nat → Int32) → (Nat → Nat → Int64) → Prop)  (v : Nat → Int32) (f : Nat → Nat → Int32) (g : Nat → Nat → Int64) : Prop :=
((¬ ((v 98)) = 0 →
  r_drop_19 Q  v f g) ∧
 (((v 98)) = 0 →
  ((((v 40)) = 0 →
    r_drop_19 Q  v f g) ∧
   (¬ ((v 40)) = 0 →
    r_drop_20 Q  ((nI 1)) v f g))))
section S_drop
variable {p : Program} {l : Launch} {e : Env} {s : State} {m : MethodId} {args : Array Value} {below : List Frame} {meth : Method} {c : Code} {A : Nat → Prop} {D : va_G} {cI cJ cZ : ClassId} {a : Nat → Nat}
set_option maxRecDepth 20000 in
theorem sb_drop_53 (C : mC p s m args meth c cX12_drop 3 none A D cI cJ cZ) {post : mS → Prop} {R35 : Int32 → (Nat → Int32) → (Nat → Nat → Int32) → (Nat → Nat → Int64) → Prop} {R53 : Int32 → Int32 → (Nat → Int32) → (Nat → Nat → Int32) → (Nat → Nat → Int64) → Prop} (hR35 : ∀ (x1 : Int32) (v : Nat → Int32) (f : Nat → Nat → Int32) (g : Nat → Nat → Int64), R35 x1 v f g → mG p l e (mRm 1 23) s m args below meth c A D cI cJ cZ a 3 (MQ below (va_Qv post (mB D cI cJ cZ a) A) args s 0 0 A) 35 [(0, .ref (a 0)), (1, .int x1)] [] v f g) (hR53 : ∀ (x1 : Int32) (x2 : Int32) (v : Nat → Int32) (f : Nat → Nat → Int32) (g : Nat → Nat → Int64), R53 x1 x2 v f g → mG p l e (mRm 1 23) s m args below meth c A D cI cJ cZ a 3 (MQ below (va_Qv post (mB D cI cJ cZ a) A) args s 0 0 A) 53 [(0, .ref (a 0)), (1, .int x1), (2, .int x2)] [] v f g) (x1 : Int32) (x2 : Int32) (v : Nat → Int32) (f : Nat → Nat → Int32) (g : Nat → Nat → Int64) (h : r_drop_53 (fun v f g => post (v, f, g)) R35 R53 x1 x2 v f g) : mG p l e (mRm 1 23) s m args below meth c A D cI cJ cZ a 3 (MQ below (va_Qv post (mB D cI cJ cZ a) A) args s 0 0 A) 53 [(0, .ref (a 0)), (1, .int x1), (2, .int x2)] [] v f g := by
  unfold r_drop_53 at h
  refine mg_iload_n C (i := 2) rfl 2 rfl dX12_drop_53 ?_
  refine mg_bipush C (x := nI 100) rfl dX12_drop_54 ?_
  refine mg_aload_n C (i := 0) rfl 0 rfl dX12_drop_56 ?_
  refine mg_arr C 27 (by decide) (by decide) rfl mL_prepared rfl dX12_drop_57 ?_
  refine mg_iload_n C (i := 1) rfl 1 rfl dX12_drop_60 ?_
  obtain ⟨hc_61, h⟩ := h
  refine mg_ialoadR C (n := 202) 27 (by decide) (by decide) rfl rfl hc_61 dX12_drop_61 ?_
  refine mg_imul C dX12_drop_62 ?_
  refine mg_aload_n C (i := 0) rfl 0 rfl dX12_drop_63 ?_
  refine mg_arr C 20 (by decide) (by decide) rfl mL_sizes rfl dX12_drop_64 ?_
  refine mg_aload_n C (i := 0) rfl 0 rfl dX12_drop_67 ?_
  refine mg_arr C 27 (by decide) (by decide) rfl mL_prepared rfl dX12_drop_68 ?_
  refine mg_iload_n C (i := 1) rfl 1 rfl dX12_drop_71 ?_
  obtain ⟨hc_72, h⟩ := h
  refine mg_ialoadR C (n := 202) 27 (by decide) (by decide) rfl rfl hc_72 dX12_drop_72 ?_
  obtain ⟨hc_73, h⟩ := h
  refine mg_ialoadR C (n := 202) 20 (by decide) (by decide) rfl rfl hc_73 dX12_drop_73 ?_
  refine mg_iadd C dX12_drop_74 ?_
  refine mg_icmp_ge C 96 (by decide) dX12_drop_75 (fun c_ => ?_) (fun c_ => ?_)
  · have h := h.1 c_
    obtain ⟨x1_4, e_x1_4⟩ : ∃ z : Int32, z = x1 + nI 1 := ⟨_, rfl⟩
    have h := h x1_4 e_x1_4
    refine mg_iinc C (lv' := [(1, .int x1_4), (0, .ref (a 0)), (2, .int x2)]) 1 rfl (by rw [e_x1_4]; rfl) (Nat.le_of_ble_eq_true rfl) rfl dX12_drop_96 ?_
    refine mg_goto C 35 (by decide) dX12_drop_99 ?_
    exact mg_sub [1, 0] rfl (hR35 x1_4 v f g h)
  · have h := h.2 c_
    refine mg_aload_n C (i := 0) rfl 0 rfl dX12_drop_78 ?_
    refine mg_arr C 22 (by decide) (by decide) rfl mL_wrote rfl dX12_drop_79 ?_
    refine mg_iload_n C (i := 2) rfl 2 rfl dX12_drop_82 ?_
    refine mg_aload_n C (i := 0) rfl 0 rfl dX12_drop_83 ?_
    refine mg_arr C 23 (by decide) (by decide) rfl mL_wroteAhead rfl dX12_drop_84 ?_
    refine mg_iload_n C (i := 2) rfl 2 rfl dX12_drop_87 ?_
    obtain ⟨hc_88, h⟩ := h
    refine mg_baloadR C (n := 20200) 23 (by decide) (by decide) rfl rfl hc_88 dX12_drop_88 ?_
    obtain ⟨hc_89, h⟩ := h
    obtain ⟨hz_89, h⟩ := h
    refine mg_bastoreR C (n := 20200) 22 (by decide) (by decide) rfl rfl hc_89 (isZ_vp hz_89) dX12_drop_89 ?_
    refine mg_nmF (fun f5 e_f5 => ?_)
    have h := h f5 e_f5
    obtain ⟨x2_6, e_x2_6⟩ : ∃ z : Int32, z = x2 + nI 1 := ⟨_, rfl⟩
    have h := h x2_6 e_x2_6
    refine mg_iinc C (lv' := [(2, .int x2_6), (0, .ref (a 0)), (1, .int x1)]) 2 rfl (by rw [e_x2_6]; rfl) (Nat.le_of_ble_eq_true rfl) rfl dX12_drop_90 ?_
    refine mg_goto C 53 (by decide) dX12_drop_93 ?_
    exact mg_sub [1, 2, 0] rfl (hR53 x1 x2_6 v f5 g h)
set_option maxRecDepth 20000 in
theorem sl_drop_53 (C : mC p s m args meth c cX12_drop 3 none A D cI cJ cZ) {post : mS → Prop} {R35 : Int32 → (Nat → Int32) → (Nat → Nat → Int32) → (Nat → Nat → Int64) → Prop} (hR35 : ∀ (x1 : Int32) (v : Nat → Int32) (f : Nat → Nat → Int32) (g : Nat → Nat → Int64), R35 x1 v f g → mG p l e (mRm 1 23) s m args below meth c A D cI cJ cZ a 3 (MQ below (va_Qv post (mB D cI cJ cZ a) A) args s 0 0 A) 35 [(0, .ref (a 0)), (1, .int x1)] [] v f g) (x1 : Int32) (x2 : Int32) (v : Nat → Int32) (f : Nat → Nat → Int32) (g : Nat → Nat → Int64) (h : r_drop_53L (fun v f g => post (v, f, g)) R35 x1 x2 v f g) : mG p l e (mRm 1 23) s m args below meth c A D cI cJ cZ a 3 (MQ below (va_Qv post (mB D cI cJ cZ a) A) args s 0 0 A) 53 [(0, .ref (a 0)), (1, .int x1), (2, .int x2)] [] v f g :=
  h (fun y => mG p l e (mRm 1 23) s m args below meth c A D cI cJ cZ a 3 (MQ below (va_Qv post (mB D cI cJ cZ a) A) args s 0 0 A) 53 [(0, .ref (a 0)), (1, .int (y.1)), (2, .int (y.2.1))] [] (y.2.2.1) (y.2.2.2.1) (y.2.2.2.2)) (fun y hy => sb_drop_53 C hR35 (fun b0 b1 v f g z => z) (y.1) (y.2.1) (y.2.2.1) (y.2.2.2.1) (y.2.2.2.2) hy)
set_option maxRecDepth 20000 in
theorem sb_drop_35 (C : mC p s m args meth c cX12_drop 3 none A D cI cJ cZ) {post : mS → Prop} {R35 : Int32 → (Nat → Int32) → (Nat → Nat → Int32) → (Nat → Nat → Int64) → Prop} (hR35 : ∀ (x1 : Int32) (v : Nat → Int32) (f : Nat → Nat → Int32) (g : Nat → Nat → Int64), R35 x1 v f g → mG p l e (mRm 1 23) s m args below meth c A D cI cJ cZ a 3 (MQ below (va_Qv post (mB D cI cJ cZ a) A) args s 0 0 A) 35 [(0, .ref (a 0)), (1, .int x1)] [] v f g) (x1 : Int32) (v : Nat → Int32) (f : Nat → Nat → Int32) (g : Nat → Nat → Int64) (h : r_drop_35 (fun v f g => post (v, f, g)) R35 x1 v f g) : mG p l e (mRm 1 23) s m args below meth c A D cI cJ cZ a 3 (MQ below (va_Qv post (mB D cI cJ cZ a) A) args s 0 0 A) 35 [(0, .ref (a 0)), (1, .int x1)] [] v f g := by
  unfold r_drop_35 at h
  refine mg_iload_n C (i := 1) rfl 1 rfl dX12_drop_35 ?_
  refine mg_aload_n C (i := 0) rfl 0 rfl dX12_drop_36 ?_
  refine mg_getI C (k := 42) (by decide) rfl mL_preparedMany rfl dX12_drop_37 ?_
  refine mg_icmp_ge C 102 (by decide) dX12_drop_40 (fun c_ => ?_) (fun c_ => ?_)
  · have h := h.1 c_
    exact mg_vret C h dX12_drop_102
  · have h := h.2 c_
    refine mg_bipush C (x := nI 100) rfl dX12_drop_43 ?_
    refine mg_aload_n C (i := 0) rfl 0 rfl dX12_drop_45 ?_
    refine mg_arr C 27 (by decide) (by decide) rfl mL_prepared rfl dX12_drop_46 ?_
    refine mg_iload_n C (i := 1) rfl 1 rfl dX12_drop_49 ?_
    obtain ⟨hc_50, h⟩ := h
    refine mg_ialoadR C (n := 202) 27 (by decide) (by decide) rfl rfl hc_50 dX12_drop_50 ?_
    refine mg_imul C dX12_drop_51 ?_
    refine mg_nmI (fun x2_3 e_x2_3 => ?_)
    have h := h x2_3 e_x2_3
    refine mg_istore_n C (i := 2) (lv' := [(2, .int x2_3), (0, .ref (a 0)), (1, .int x1)]) rfl (Nat.le_of_ble_eq_true rfl) rfl dX12_drop_52 ?_
    exact mg_sub [1, 2, 0] rfl (sl_drop_53 C hR35 x1 x2_3 v f g h)
set_option maxRecDepth 20000 in
theorem sl_drop_35 (C : mC p s m args meth c cX12_drop 3 none A D cI cJ cZ) {post : mS → Prop}   (x1 : Int32) (v : Nat → Int32) (f : Nat → Nat → Int32) (g : Nat → Nat → Int64) (h : r_drop_35L (fun v f g => post (v, f, g))  x1 v f g) : mG p l e (mRm 1 23) s m args below meth c A D cI cJ cZ a 3 (MQ below (va_Qv post (mB D cI cJ cZ a) A) args s 0 0 A) 35 [(0, .ref (a 0)), (1, .int x1)] [] v f g :=
  h (fun y => mG p l e (mRm 1 23) s m args below meth c A D cI cJ cZ a 3 (MQ below (va_Qv post (mB D cI cJ cZ a) A) args s 0 0 A) 35 [(0, .ref (a 0)), (1, .int (y.1))] [] (y.2.1) (y.2.2.1) (y.2.2.2)) (fun y hy => sb_drop_35 C  (fun b0 v f g z => z) (y.1) (y.2.1) (y.2.2.1) (y.2.2.2) hy)
set_option maxRecDepth 20000 in
theorem sb_drop_20 (C : mC p s m args meth c cX12_drop 3 none A D cI cJ cZ) {post : mS → Prop}   (t0 : Int32) (v : Nat → Int32) (f : Nat → Nat → Int32) (g : Nat → Nat → Int64) (h : r_drop_20 (fun v f g => post (v, f, g))  t0 v f g) : mG p l e (mRm 1 23) s m args below meth c A D cI cJ cZ a 3 (MQ below (va_Qv post (mB D cI cJ cZ a) A) args s 0 0 A) 20 [(0, .ref (a 0))] [.int t0, .ref (a 0)] v f g := by
  unfold r_drop_20 at h
  refine mg_iconst C (x := nI 1) rfl dX12_drop_20 ?_
  refine mg_iconst C (x := nI 1) rfl dX12_drop_21 ?_
  refine mg_calliW C (s_goes l t0 ((nI 1)) ((nI 1)) v f g h) mCal_goes rfl ⟨by decide, by decide⟩ rfl (Nat.le_of_ble_eq_true rfl) dX12_drop_22 (fun r_1 v_1 f_1 g_1 h => ?_)
  refine mg_if_eq C 102 (by decide) dX12_drop_25 (fun c_ => ?_) (fun c_ => ?_)
  · have h := h.1 c_
    exact mg_vret C h dX12_drop_102
  · have h := h.2 c_
    refine mg_aload_n C (i := 0) rfl 0 rfl dX12_drop_28 ?_
    refine mg_iconst C (x := nI 0) rfl dX12_drop_29 ?_
    refine mg_cast (bI false) rfl ?_
    refine mg_put C (k := 40) (by decide) rfl mL_isPrepared rfl (by decide +kernel) mT_isPrepared (bI_nar _) (bI_fit _) dX12_drop_30 ?_
    refine mg_nmV (fun v2 e_v2 => ?_)
    have h := h v2 e_v2
    refine mg_iconst C (x := nI 0) rfl dX12_drop_33 ?_
    refine mg_istore_n C (i := 1) (lv' := [(1, .int ((nI 0))), (0, .ref (a 0))]) rfl (Nat.le_of_ble_eq_true rfl) rfl dX12_drop_34 ?_
    exact mg_sub [1, 0] rfl (sl_drop_35 C  (((nI 0))) v2 f_1 g_1 h)
set_option maxRecDepth 20000 in
theorem sb_drop_19 (C : mC p s m args meth c cX12_drop 3 none A D cI cJ cZ) {post : mS → Prop}    (v : Nat → Int32) (f : Nat → Nat → Int32) (g : Nat → Nat → Int64) (h : r_drop_19 (fun v f g => post (v, f, g))   v f g) : mG p l e (mRm 1 23) s m args below meth c A D cI cJ cZ a 3 (MQ below (va_Qv post (mB D cI cJ cZ a) A) args s 0 0 A) 19 [(0, .ref (a 0))] [.ref (a 0)] v f g := by
  unfold r_drop_19 at h
  refine mg_iconst C (x := nI 0) rfl dX12_drop_19 ?_
  exact mg_sub [0] rfl (sb_drop_20 C  ((nI 0)) v f g h)
end S_drop
set_option maxHeartbeats 1000000 in
set_option maxRecDepth 20000 in
theorem s_drop (l : Launch)  (v : Nat → Int32) (f : Nat → Nat → Int32) (g : Nat → Nat → Int64) {P : (Nat → Int32) → (Nat → Nat → Int32) → (Nat → Nat → Int64) → Prop} (h : r_drop P  v f g) : mMv l yX12_drop cX12_drop 3 none 1 23 false [] v f g (fun w => P w.1 w.2.1 w.2.2) := by
  intro D cI cJ cZ a sz
  refine mg_body (by decide +kernel) rfl (Nat.le_of_ble_eq_true rfl) ?_
  intro p e s m args below meth c hsz C
  clear hsz
  generalize va_A (mW cI cJ cZ a v f g) sz = A at C ⊢
  refine mg_lv (lv' := [(0, .ref (a 0))]) rfl ?_
  unfold r_drop at h
  refine mg_aload_n C (i := 0) rfl 0 rfl dX12_drop_0 ?_
  refine mg_aload_n C (i := 0) rfl 0 rfl dX12_drop_1 ?_
  refine mg_getI C (k := 98) (by decide) rfl mL_down rfl dX12_drop_2 ?_
  refine mg_if_ne C 19 (by decide) dX12_drop_5 (fun c_ => ?_) (fun c_ => ?_)
  · have h := h.1 c_
    exact mg_sub [0] rfl (sb_drop_19 C  v f g h)
  · have h := h.2 c_
    refine mg_aload_n C (i := 0) rfl 0 rfl dX12_drop_8 ?_
    refine mg_getI C (k := 40) (by decide) rfl mL_isPrepared rfl dX12_drop_9 ?_
    refine mg_if_eq C 19 (by decide) dX12_drop_12 (fun c_ => ?_) (fun c_ => ?_)
    · have h := h.1 c_
      exact mg_sub [0] rfl (sb_drop_19 C  v f g h)
    · have h := h.2 c_
      refine mg_iconst C (x := nI 1) rfl dX12_drop_15 ?_
      refine mg_goto C 20 (by decide) dX12_drop_16 ?_
      exact mg_sub [0] rfl (sb_drop_20 C  ((nI 1)) v f g h)
