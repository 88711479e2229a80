/-! the methods of the class as predicates, and their contracts -/
def k_X7_boundOf_122 (Q : Int32 → cS → Prop) (dp : Nat) (R6 : Nat → Nat → Int32 → Int32 → Int32 → Int32 → cS → Prop) (x0 : Nat) (x1 : Nat) (x2 : Int32) (x3 : Int32) (x4 : Int32) (x5 : Int32) (S : cS) : Prop :=
∀ x5_4 : Int32, x5_4 = x5 + nI 1 → R6 x0 x1 x2 x3 x4 x5_4 S
def k_X7_boundOf_74 (Q : Int32 → cS → Prop) (dp : Nat) (R6 : Nat → Nat → Int32 → Int32 → Int32 → Int32 → cS → Prop) (x0 : Nat) (x1 : Nat) (x2 : Int32) (x3 : Int32) (x4 : Int32) (x5 : Int32) (x6 : Int32) (S : cS) : Prop :=
((x6 ≤ 0 →
  k_X7_boundOf_122 Q dp R6 x0 x1 x2 x3 x4 x5 S) ∧
 (¬ x6 ≤ 0 →
  cA S x1 6 ∧ ((∃ b5 : Nat, cr S 193 x1 = some b5 ∧ (cA S b5 12 ∧ (k_Jx4a65c_get_915e3 (fun r_6 S_6 => 
  cA S_6 r_6 4 ∧ (cA S_6 r_6 4 ∧ (((¬ ((ci S_6 133 r_6)) = 0 →
    k_X7_boundOf_122 Q dp R6 x0 x1 x2 x3 x4 x5 S_6) ∧
   (((ci S_6 133 r_6)) = 0 →
    cA S_6 x1 6 ∧ ((∃ b7 : Nat, cr S_6 193 x1 = some b7 ∧ (cA S_6 b7 12 ∧ (k_Jx4a65c_get_915e3 (fun r_8 S_8 => 
    cA S_8 r_8 4 ∧ (cA S_8 x0 7 ∧ (k_X7_giveOf (fun r_9 S_9 => 
    ∀ x4_10 : Int32, x4_10 = (x4 + r_9) → k_X7_boundOf_122 Q dp R6 x0 x1 x2 x3 x4_10 x5 S_9) dp x0 r_8 x5 x6 S_8))) dp b7 x5 S_6))))))))) dp b5 x5 S))))))
def k_X7_boundOf_35 (Q : Int32 → cS → Prop) (dp : Nat) (R6 : Nat → Nat → Int32 → Int32 → Int32 → Int32 → cS → Prop) (R35 : Nat → Nat → Int32 → Int32 → Int32 → Int32 → Int32 → Int32 → cS → Prop) (x0 : Nat) (x1 : Nat) (x2 : Int32) (x3 : Int32) (x4 : Int32) (x5 : Int32) (x6 : Int32) (x7 : Int32) (S : cS) : Prop :=
((x3 ≤ x7 →
  k_X7_boundOf_74 Q dp R6 x0 x1 x2 x3 x4 x5 x6 S) ∧
 (¬ x3 ≤ x7 →
  ((((nI 100)) ≤ x7 →
    k_X7_boundOf_74 Q dp R6 x0 x1 x2 x3 x4 x5 x6 S) ∧
   (¬ ((nI 100)) ≤ x7 →
    cA S x0 7 ∧ ((∃ b11 : Nat, cr S 226 x0 = some b11 ∧ (cX S b11 18 x5 ∧ ((∃ b12 : Nat, cO S b11 (x5).toNatClampNeg = some b12 ∧ (cX S b12 14 x7 ∧ (k_J6_bitCount_0f7a4 (fun r_13 S_13 => 
    ∀ x6_14 : Int32, x6_14 = (if x6 < r_13 then r_13 else x6) → ∀ x7_15 : Int32, x7_15 = x7 + nI 1 → R35 x0 x1 x2 x3 x4 x5 x6_14 x7_15 S_13) dp ((cI S b12 (x7).toNatClampNeg)) S)))))))))))
def k_X7_boundOf_35L (Q : Int32 → cS → Prop) (dp : Nat) (R6 : Nat → Nat → Int32 → Int32 → Int32 → Int32 → cS → Prop) (x0 : Nat) (x1 : Nat) (x2 : Int32) (x3 : Int32) (x4 : Int32) (x5 : Int32) (x6 : Int32) (x7 : Int32) (S : cS) : Prop :=
  lfp (X := Nat × Nat × Int32 × Int32 × Int32 × Int32 × Int32 × Int32 × cS) (fun P y => k_X7_boundOf_35 Q dp R6 (fun b0 b1 b2 b3 b4 b5 b6 b7 S => P (b0, b1, b2, b3, b4, b5, b6, b7, S)) y.1 y.2.1 y.2.2.1 y.2.2.2.1 y.2.2.2.2.1 y.2.2.2.2.2.1 y.2.2.2.2.2.2.1 y.2.2.2.2.2.2.2.1 y.2.2.2.2.2.2.2.2) (x0, x1, x2, x3, x4, x5, x6, x7, S)
def k_X7_boundOf_6 (Q : Int32 → cS → Prop) (dp : Nat) (R6 : Nat → Nat → Int32 → Int32 → Int32 → Int32 → cS → Prop) (x0 : Nat) (x1 : Nat) (x2 : Int32) (x3 : Int32) (x4 : Int32) (x5 : Int32) (S : cS) : Prop :=
cA S x1 6 ∧ ((∃ b1 : Nat, cr S 193 x1 = some b1 ∧ (cA S b1 12 ∧ (k_Jx4a65c_size_8abf5 (fun r_2 S_2 => 
((r_2 ≤ x5 →
  Q x4 S_2) ∧
 (¬ r_2 ≤ x5 →
  ((((nI 24)) ≤ x5 →
    Q x4 S_2) ∧
   (¬ ((nI 24)) ≤ x5 →
    ∀ x7_3 : Int32, x7_3 = (if x2 < ((nI 0)) then ((nI 0)) else x2) → k_X7_boundOf_35L Q dp R6 x0 x1 x2 x3 x4 x5 (((nI 0))) x7_3 S_2))))) dp b1 S))))
def k_X7_boundOf_6L (Q : Int32 → cS → Prop) (dp : Nat)  (x0 : Nat) (x1 : Nat) (x2 : Int32) (x3 : Int32) (x4 : Int32) (x5 : Int32) (S : cS) : Prop :=
  lfp (X := Nat × Nat × Int32 × Int32 × Int32 × Int32 × cS) (fun P y => k_X7_boundOf_6 Q dp  (fun b0 b1 b2 b3 b4 b5 S => P (b0, b1, b2, b3, b4, b5, S)) y.1 y.2.1 y.2.2.1 y.2.2.2.1 y.2.2.2.2.1 y.2.2.2.2.2.1 y.2.2.2.2.2.2) (x0, x1, x2, x3, x4, x5, S)
def k_X7_boundOf (Q : Int32 → cS → Prop) (dp : Nat) (x0 : Nat) (x1 : Nat) (x2 : Int32) (x3 : Int32) (S : cS) : Prop :=
k_X7_boundOf_6L Q dp  x0 x1 x2 x3 (((nI 0))) (((nI 0))) S
section S_X7_boundOf
variable {p : Program} {l : Launch} {e : Env} {s : State} {m : MethodId} {args : Array Value} {below : List Frame} {meth : Method} {c : Code} {A : Nat → Prop} {D : va_G} {Y : cY} {tp dp : Nat}
set_option maxRecDepth 20000 in
theorem tb_X7_boundOf_122 (C : cC p s m args meth c cX7_boundOf 8 (some .int) A D Y tp dp RX7) {post : Int32 → cS → Prop} {R6 : Nat → Nat → Int32 → Int32 → Int32 → Int32 → cS → Prop} (hR6 : ∀ (x0 : Nat) (x1 : Nat) (x2 : Int32) (x3 : Int32) (x4 : Int32) (x5 : Int32) (S : cS), R6 x0 x1 x2 x3 x4 x5 S → cG p l e (cRm 3 0 0 64) s m args below meth c A D Y 8 (MQ below (cQi post D Y A) args s 0 0 A) 0 0 6 [(0, .ref x0), (1, .ref x1), (2, .int x2), (3, .int x3), (4, .int x4), (5, .int x5)] [] S) (x0 : Nat) (x1 : Nat) (x2 : Int32) (x3 : Int32) (x4 : Int32) (x5 : Int32) (S : cS) (h : k_X7_boundOf_122 post dp R6 x0 x1 x2 x3 x4 x5 S) : cG p l e (cRm 3 0 0 64) s m args below meth c A D Y 8 (MQ below (cQi post D Y A) args s 0 0 A) 0 0 122 [(0, .ref x0), (1, .ref x1), (2, .int x2), (3, .int x3), (4, .int x4), (5, .int x5)] [] S := by
  unfold k_X7_boundOf_122 at h
  obtain ⟨x5_4, e_x5_4⟩ : ∃ z : Int32, z = x5 + nI 1 := ⟨_, rfl⟩
  have h := h x5_4 e_x5_4
  refine cg_iinc C (lv' := [(5, .int x5_4), (0, .ref x0), (1, .ref x1), (2, .int x2), (3, .int x3), (4, .int x4)]) 5 rfl (by rw [e_x5_4]; rfl) (Nat.le_of_ble_eq_true rfl) rfl dX7_boundOf_122 ?_
  refine cg_goto C 6 (by decide) dX7_boundOf_125 ?_
  exact cg_sub [1, 2, 3, 4, 5, 0] rfl (hR6 x0 x1 x2 x3 x4 x5_4 S h)
set_option maxRecDepth 20000 in
theorem tb_X7_boundOf_74 (C : cC p s m args meth c cX7_boundOf 8 (some .int) A D Y tp dp RX7) {post : Int32 → cS → Prop} {R6 : Nat → Nat → Int32 → Int32 → Int32 → Int32 → cS → Prop} (hR6 : ∀ (x0 : Nat) (x1 : Nat) (x2 : Int32) (x3 : Int32) (x4 : Int32) (x5 : Int32) (S : cS), R6 x0 x1 x2 x3 x4 x5 S → cG p l e (cRm 3 0 0 64) s m args below meth c A D Y 8 (MQ below (cQi post D Y A) args s 0 0 A) 0 0 6 [(0, .ref x0), (1, .ref x1), (2, .int x2), (3, .int x3), (4, .int x4), (5, .int x5)] [] S) (x0 : Nat) (x1 : Nat) (x2 : Int32) (x3 : Int32) (x4 : Int32) (x5 : Int32) (x6 : Int32) (S : cS) (h : k_X7_boundOf_74 post dp R6 x0 x1 x2 x3 x4 x5 x6 S) : cG p l e (cRm 3 0 0 64) s m args below meth c A D Y 8 (MQ below (cQi post D Y A) args s 0 0 A) 0 0 74 [(0, .ref x0), (1, .ref x1), (2, .int x2), (3, .int x3), (4, .int x4), (5, .int x5), (6, .int x6)] [] S := by
  unfold k_X7_boundOf_74 at h
  refine cg_iload C 6 rfl dX7_boundOf_74 ?_
  refine cg_if_le C 122 (by decide) dX7_boundOf_76 (fun c_ => ?_) (fun c_ => ?_)
  · have h := h.1 c_
    exact cg_sub [0, 1, 2, 3, 4, 5] rfl (tb_X7_boundOf_122 C  hR6 x0 x1 x2 x3 x4 x5 S h)
  · have h := h.2 c_
    refine cg_aload_n C (i := 1) rfl 1 rfl dX7_boundOf_79 ?_
    obtain ⟨hc_80, h⟩ := h
    obtain ⟨b5, hb_b5, h⟩ := h
    refine cg_get C (k := 6) (j := 1) (.ref b5) hc_80.1 hc_80.2 (by decide) rfl (by decide) rfl (show cV _ 6 1 x1 = _ from congrArg va_rf hb_b5) cWs_wsX60 cl_X7_41 rfl dX7_boundOf_80 ?_
    refine cg_iload C 5 rfl dX7_boundOf_83 ?_
    obtain ⟨hc_85, h⟩ := h
    refine cg_callr C (t_Jx4a65c_get_915e3 l b5 x5 S dp h) cc_X7_52 hc_85.1 hc_85.2 (by decide) rfl rfl ⟨by decide, by decide⟩ ⟨by decide, by decide⟩ rfl (Nat.le_of_ble_eq_true rfl) dX7_boundOf_85 (fun r_6 S_6 h => ?_)
    obtain ⟨hc_88, h⟩ := h
    refine cg_ccast C (k := 4) hc_88.1 hc_88.2 (by decide) rfl cnc_X7_56 dX7_boundOf_88 ?_
    obtain ⟨hc_91, h⟩ := h
    refine cg_get C (k := 4) (j := 5) (.int (ci S_6 133 r_6)) hc_91.1 hc_91.2 (by decide) rfl (by decide) rfl rfl cWs_wsX40 cl_X7_220 rfl dX7_boundOf_91 ?_
    refine cg_if_ne C 122 (by decide) dX7_boundOf_94 (fun c_ => ?_) (fun c_ => ?_)
    · have h := h.1 c_
      exact cg_sub [0, 1, 2, 3, 4, 5] rfl (tb_X7_boundOf_122 C  hR6 x0 x1 x2 x3 x4 x5 S_6 h)
    · have h := h.2 c_
      refine cg_iload C 4 rfl dX7_boundOf_97 ?_
      refine cg_aload_n C (i := 0) rfl 0 rfl dX7_boundOf_99 ?_
      refine cg_aload_n C (i := 1) rfl 1 rfl dX7_boundOf_100 ?_
      obtain ⟨hc_101, h⟩ := h
      obtain ⟨b7, hb_b7, h⟩ := h
      refine cg_get C (k := 6) (j := 1) (.ref b7) hc_101.1 hc_101.2 (by decide) rfl (by decide) rfl (show cV _ 6 1 x1 = _ from congrArg va_rf hb_b7) cWs_wsX60 cl_X7_41 rfl dX7_boundOf_101 ?_
      refine cg_iload C 5 rfl dX7_boundOf_104 ?_
      obtain ⟨hc_106, h⟩ := h
      refine cg_callr C (t_Jx4a65c_get_915e3 l b7 x5 S_6 dp h) cc_X7_52 hc_106.1 hc_106.2 (by decide) rfl rfl ⟨by decide, by decide⟩ ⟨by decide, by decide⟩ rfl (Nat.le_of_ble_eq_true rfl) dX7_boundOf_106 (fun r_8 S_8 h => ?_)
      obtain ⟨hc_109, h⟩ := h
      refine cg_ccast C (k := 4) hc_109.1 hc_109.2 (by decide) rfl cnc_X7_56 dX7_boundOf_109 ?_
      refine cg_iload C 5 rfl dX7_boundOf_112 ?_
      refine cg_iload C 6 rfl dX7_boundOf_114 ?_
      obtain ⟨hc_116, h⟩ := h
      refine cg_calli C (t_X7_giveOf l x0 r_8 x5 x6 S_8 dp h) cc_X7_208 hc_116.1 hc_116.2 (by decide) rfl rfl ⟨by decide, by decide⟩ ⟨by decide, by decide⟩ rfl (Nat.le_of_ble_eq_true rfl) dX7_boundOf_116 (fun r_9 S_9 h => ?_)
      refine cg_iadd C dX7_boundOf_119 ?_
      refine cg_nmI (fun x4_10 e_x4_10 => ?_)
      have h := h x4_10 e_x4_10
      refine cg_istore C (lv' := [(4, .int x4_10), (0, .ref x0), (1, .ref x1), (2, .int x2), (3, .int x3), (5, .int x5), (6, .int x6)]) (Nat.le_of_ble_eq_true rfl) rfl dX7_boundOf_120 ?_
      exact cg_sub [1, 2, 3, 4, 0, 5] rfl (tb_X7_boundOf_122 C  hR6 x0 x1 x2 x3 x4_10 x5 S_9 h)
set_option maxRecDepth 20000 in
theorem tb_X7_boundOf_35 (C : cC p s m args meth c cX7_boundOf 8 (some .int) A D Y tp dp RX7) {post : Int32 → cS → Prop} {R6 : Nat → Nat → Int32 → Int32 → Int32 → Int32 → cS → Prop} {R35 : Nat → Nat → Int32 → Int32 → Int32 → Int32 → Int32 → Int32 → cS → Prop} (hR6 : ∀ (x0 : Nat) (x1 : Nat) (x2 : Int32) (x3 : Int32) (x4 : Int32) (x5 : Int32) (S : cS), R6 x0 x1 x2 x3 x4 x5 S → cG p l e (cRm 3 0 0 64) s m args below meth c A D Y 8 (MQ below (cQi post D Y A) args s 0 0 A) 0 0 6 [(0, .ref x0), (1, .ref x1), (2, .int x2), (3, .int x3), (4, .int x4), (5, .int x5)] [] S) (hR35 : ∀ (x0 : Nat) (x1 : Nat) (x2 : Int32) (x3 : Int32) (x4 : Int32) (x5 : Int32) (x6 : Int32) (x7 : Int32) (S : cS), R35 x0 x1 x2 x3 x4 x5 x6 x7 S → cG p l e (cRm 3 0 0 64) s m args below meth c A D Y 8 (MQ below (cQi post D Y A) args s 0 0 A) 0 0 35 [(0, .ref x0), (1, .ref x1), (2, .int x2), (3, .int x3), (4, .int x4), (5, .int x5), (6, .int x6), (7, .int x7)] [] S) (x0 : Nat) (x1 : Nat) (x2 : Int32) (x3 : Int32) (x4 : Int32) (x5 : Int32) (x6 : Int32) (x7 : Int32) (S : cS) (h : k_X7_boundOf_35 post dp R6 R35 x0 x1 x2 x3 x4 x5 x6 x7 S) : cG p l e (cRm 3 0 0 64) s m args below meth c A D Y 8 (MQ below (cQi post D Y A) args s 0 0 A) 0 0 35 [(0, .ref x0), (1, .ref x1), (2, .int x2), (3, .int x3), (4, .int x4), (5, .int x5), (6, .int x6), (7, .int x7)] [] S := by
  unfold k_X7_boundOf_35 at h
  refine cg_iload C 7 rfl dX7_boundOf_35 ?_
  refine cg_iload_n C (i := 3) rfl 3 rfl dX7_boundOf_37 ?_
  refine cg_icmp_ge C 74 (by decide) dX7_boundOf_38 (fun c_ => ?_) (fun c_ => ?_)
  · have h := h.1 c_
    exact cg_sub [0, 1, 2, 3, 4, 5, 6] rfl (tb_X7_boundOf_74 C  hR6 x0 x1 x2 x3 x4 x5 x6 S h)
  · have h := h.2 c_
    refine cg_iload C 7 rfl dX7_boundOf_41 ?_
    refine cg_bipush C (x := nI 100) rfl dX7_boundOf_43 ?_
    refine cg_icmp_ge C 74 (by decide) dX7_boundOf_45 (fun c_ => ?_) (fun c_ => ?_)
    · have h := h.1 c_
      exact cg_sub [0, 1, 2, 3, 4, 5, 6] rfl (tb_X7_boundOf_74 C  hR6 x0 x1 x2 x3 x4 x5 x6 S h)
    · have h := h.2 c_
      refine cg_iload C 6 rfl dX7_boundOf_48 ?_
      refine cg_aload_n C (i := 0) rfl 0 rfl dX7_boundOf_50 ?_
      obtain ⟨hc_51, h⟩ := h
      obtain ⟨b11, hb_b11, h⟩ := h
      refine cg_get C (k := 7) (j := 2) (.ref b11) hc_51.1 hc_51.2 (by decide) rfl (by decide) rfl (show cV _ 7 2 x0 = _ from congrArg va_rf hb_b11) cWs_wsX70 cl_X7_20 rfl dX7_boundOf_51 ?_
      refine cg_iload C 5 rfl dX7_boundOf_54 ?_
      obtain ⟨hc_56, h⟩ := h
      obtain ⟨b12, hb_b12, h⟩ := h
      refine cg_aaload2R C hc_56 hb_b12 dX7_boundOf_56 ?_
      refine cg_iload C 7 rfl dX7_boundOf_57 ?_
      obtain ⟨hc_59, h⟩ := h
      refine cg_ialoadR C hc_59 dX7_boundOf_59 ?_
      refine cg_callsi C (t_J6_bitCount_0f7a4 l ((cI S b12 (x7).toNatClampNeg)) S dp h) cc_X7_203 rfl ⟨by decide, by decide⟩ ⟨by decide, by decide⟩ rfl (Nat.le_of_ble_eq_true rfl) dX7_boundOf_60 (fun r_13 S_13 h => ?_)
      refine cg_mmax C cmmax_X7_215 cmmax_s cmm_i cmmax_c (Nat.le_of_ble_eq_true rfl) (Nat.le_of_ble_eq_true rfl) (by decide) (by decide) dX7_boundOf_63 ?_
      refine cg_nmI (fun x6_14 e_x6_14 => ?_)
      have h := h x6_14 e_x6_14
      refine cg_istore C (lv' := [(6, .int x6_14), (0, .ref x0), (1, .ref x1), (2, .int x2), (3, .int x3), (4, .int x4), (5, .int x5), (7, .int x7)]) (Nat.le_of_ble_eq_true rfl) rfl dX7_boundOf_66 ?_
      obtain ⟨x7_15, e_x7_15⟩ : ∃ z : Int32, z = x7 + nI 1 := ⟨_, rfl⟩
      have h := h x7_15 e_x7_15
      refine cg_iinc C (lv' := [(7, .int x7_15), (6, .int x6_14), (0, .ref x0), (1, .ref x1), (2, .int x2), (3, .int x3), (4, .int x4), (5, .int x5)]) 7 rfl (by rw [e_x7_15]; rfl) (Nat.le_of_ble_eq_true rfl) rfl dX7_boundOf_68 ?_
      refine cg_goto C 35 (by decide) dX7_boundOf_71 ?_
      exact cg_sub [2, 3, 4, 5, 6, 7, 1, 0] rfl (hR35 x0 x1 x2 x3 x4 x5 x6_14 x7_15 S_13 h)
set_option maxRecDepth 20000 in
theorem tl_X7_boundOf_35 (C : cC p s m args meth c cX7_boundOf 8 (some .int) A D Y tp dp RX7) {post : Int32 → cS → Prop} {R6 : Nat → Nat → Int32 → Int32 → Int32 → Int32 → cS → Prop} (hR6 : ∀ (x0 : Nat) (x1 : Nat) (x2 : Int32) (x3 : Int32) (x4 : Int32) (x5 : Int32) (S : cS), R6 x0 x1 x2 x3 x4 x5 S → cG p l e (cRm 3 0 0 64) s m args below meth c A D Y 8 (MQ below (cQi post D Y A) args s 0 0 A) 0 0 6 [(0, .ref x0), (1, .ref x1), (2, .int x2), (3, .int x3), (4, .int x4), (5, .int x5)] [] S) (x0 : Nat) (x1 : Nat) (x2 : Int32) (x3 : Int32) (x4 : Int32) (x5 : Int32) (x6 : Int32) (x7 : Int32) (S : cS) (h : k_X7_boundOf_35L post dp R6 x0 x1 x2 x3 x4 x5 x6 x7 S) : cG p l e (cRm 3 0 0 64) s m args below meth c A D Y 8 (MQ below (cQi post D Y A) args s 0 0 A) 0 0 35 [(0, .ref x0), (1, .ref x1), (2, .int x2), (3, .int x3), (4, .int x4), (5, .int x5), (6, .int x6), (7, .int x7)] [] S :=
  h (fun y => cG p l e (cRm 3 0 0 64) s m args below meth c A D Y 8 (MQ below (cQi post D Y A) args s 0 0 A) 0 0 35 [(0, .ref (y.1)), (1, .ref (y.2.1)), (2, .int (y.2.2.1)), (3, .int (y.2.2.2.1)), (4, .int (y.2.2.2.2.1)), (5, .int (y.2.2.2.2.2.1)), (6, .int (y.2.2.2.2.2.2.1)), (7, .int (y.2.2.2.2.2.2.2.1))] [] (y.2.2.2.2.2.2.2.2)) (fun y hy => tb_X7_boundOf_35 C  hR6 (fun b0 b1 b2 b3 b4 b5 b6 b7 S z => z) (y.1) (y.2.1) (y.2.2.1) (y.2.2.2.1) (y.2.2.2.2.1) (y.2.2.2.2.2.1) (y.2.2.2.2.2.2.1) (y.2.2.2.2.2.2.2.1) (y.2.2.2.2.2.2.2.2) hy)
set_option maxRecDepth 20000 in
theorem tb_X7_boundOf_6 (C : cC p s m args meth c cX7_boundOf 8 (some .int) A D Y tp dp RX7) {post : Int32 → cS → Prop} {R6 : Nat → Nat → Int32 → Int32 → Int32 → Int32 → cS → Prop} (hR6 : ∀ (x0 : Nat) (x1 : Nat) (x2 : Int32) (x3 : Int32) (x4 : Int32) (x5 : Int32) (S : cS), R6 x0 x1 x2 x3 x4 x5 S → cG p l e (cRm 3 0 0 64) s m args below meth c A D Y 8 (MQ below (cQi post D Y A) args s 0 0 A) 0 0 6 [(0, .ref x0), (1, .ref x1), (2, .int x2), (3, .int x3), (4, .int x4), (5, .int x5)] [] S) (x0 : Nat) (x1 : Nat) (x2 : Int32) (x3 : Int32) (x4 : Int32) (x5 : Int32) (S : cS) (h : k_X7_boundOf_6 post dp R6 x0 x1 x2 x3 x4 x5 S) : cG p l e (cRm 3 0 0 64) s m args below meth c A D Y 8 (MQ below (cQi post D Y A) args s 0 0 A) 0 0 6 [(0, .ref x0), (1, .ref x1), (2, .int x2), (3, .int x3), (4, .int x4), (5, .int x5)] [] S := by
  unfold k_X7_boundOf_6 at h
  refine cg_iload C 5 rfl dX7_boundOf_6 ?_
  refine cg_aload_n C (i := 1) rfl 1 rfl dX7_boundOf_8 ?_
  obtain ⟨hc_9, h⟩ := h
  obtain ⟨b1, hb_b1, h⟩ := h
  refine cg_get C (k := 6) (j := 1) (.ref b1) hc_9.1 hc_9.2 (by decide) rfl (by decide) rfl (show cV _ 6 1 x1 = _ from congrArg va_rf hb_b1) cWs_wsX60 cl_X7_41 rfl dX7_boundOf_9 ?_
  obtain ⟨hc_12, h⟩ := h
  refine cg_calli C (t_Jx4a65c_size_8abf5 l b1 S dp h) cc_X7_47 hc_12.1 hc_12.2 (by decide) rfl rfl ⟨by decide, by decide⟩ ⟨by decide, by decide⟩ rfl (Nat.le_of_ble_eq_true rfl) dX7_boundOf_12 (fun r_2 S_2 h => ?_)
  refine cg_icmp_ge C 128 (by decide) dX7_boundOf_15 (fun c_ => ?_) (fun c_ => ?_)
  · have h := h.1 c_
    refine cg_iload C 4 rfl dX7_boundOf_128 ?_
    exact cg_iret C h dX7_boundOf_130 (by decide) (by decide)
  · have h := h.2 c_
    refine cg_iload C 5 rfl dX7_boundOf_18 ?_
    refine cg_bipush C (x := nI 24) rfl dX7_boundOf_20 ?_
    refine cg_icmp_ge C 128 (by decide) dX7_boundOf_22 (fun c_ => ?_) (fun c_ => ?_)
    · have h := h.1 c_
      refine cg_iload C 4 rfl dX7_boundOf_128 ?_
      exact cg_iret C h dX7_boundOf_130 (by decide) (by decide)
    · have h := h.2 c_
      refine cg_iconst C (x := nI 0) rfl dX7_boundOf_25 ?_
      refine cg_istore C (lv' := [(6, .int ((nI 0))), (0, .ref x0), (1, .ref x1), (2, .int x2), (3, .int x3), (4, .int x4), (5, .int x5)]) (Nat.le_of_ble_eq_true rfl) rfl dX7_boundOf_26 ?_
      refine cg_iload_n C (i := 2) rfl 3 rfl dX7_boundOf_28 ?_
      refine cg_iconst C (x := nI 0) rfl dX7_boundOf_29 ?_
      refine cg_mmax C cmmax_X7_215 cmmax_s cmm_i cmmax_c (Nat.le_of_ble_eq_true rfl) (Nat.le_of_ble_eq_true rfl) (by decide) (by decide) dX7_boundOf_30 ?_
      refine cg_nmI (fun x7_3 e_x7_3 => ?_)
      have h := h x7_3 e_x7_3
      refine cg_istore C (lv' := [(7, .int x7_3), (6, .int ((nI 0))), (0, .ref x0), (1, .ref x1), (2, .int x2), (3, .int x3), (4, .int x4), (5, .int x5)]) (Nat.le_of_ble_eq_true rfl) rfl dX7_boundOf_33 ?_
      exact cg_sub [2, 3, 4, 5, 6, 7, 1, 0] rfl (tl_X7_boundOf_35 C  hR6 x0 x1 x2 x3 x4 x5 (((nI 0))) x7_3 S_2 h)
set_option maxRecDepth 20000 in
theorem tl_X7_boundOf_6 (C : cC p s m args meth c cX7_boundOf 8 (some .int) A D Y tp dp RX7) {post : Int32 → cS → Prop}   (x0 : Nat) (x1 : Nat) (x2 : Int32) (x3 : Int32) (x4 : Int32) (x5 : Int32) (S : cS) (h : k_X7_boundOf_6L post dp  x0 x1 x2 x3 x4 x5 S) : cG p l e (cRm 3 0 0 64) s m args below meth c A D Y 8 (MQ below (cQi post D Y A) args s 0 0 A) 0 0 6 [(0, .ref x0), (1, .ref x1), (2, .int x2), (3, .int x3), (4, .int x4), (5, .int x5)] [] S :=
  h (fun y => cG p l e (cRm 3 0 0 64) s m args below meth c A D Y 8 (MQ below (cQi post D Y A) args s 0 0 A) 0 0 6 [(0, .ref (y.1)), (1, .ref (y.2.1)), (2, .int (y.2.2.1)), (3, .int (y.2.2.2.1)), (4, .int (y.2.2.2.2.1)), (5, .int (y.2.2.2.2.2.1))] [] (y.2.2.2.2.2.2)) (fun y hy => tb_X7_boundOf_6 C   (fun b0 b1 b2 b3 b4 b5 S z => z) (y.1) (y.2.1) (y.2.2.1) (y.2.2.2.1) (y.2.2.2.2.1) (y.2.2.2.2.2.1) (y.2.2.2.2.2.2) hy)
end S_X7_boundOf
set_option maxHeartbeats 1000000 in
set_option maxRecDepth 20000 in
theorem t_X7_boundOf (l : Launch) (x0 : Nat) (x1 : Nat) (x2 : Int32) (x3 : Int32) (S : cS) (dp : Nat) {P : Int32 → cS → Prop} (h : k_X7_boundOf P dp x0 x1 x2 x3 S) : cMet (cQi P) l yX7_boundOf cX7_boundOf 8 (some .int) 3 0 0 64 [.ref x0, .ref x1, .int x2, .int x3] S dp := by
  intro D Y tp sz
  refine cg_body (by decide +kernel) (Nat.le_of_ble_eq_true rfl) ?_
  intro p e s m args below meth c C
  generalize va_A (cWd Y S) sz = A at C ⊢
  have C : cC p s m args meth c cX7_boundOf 8 (some .int) A D Y tp dp RX7 := C
  refine cg_lv (lv' := [(0, .ref x0), (1, .ref x1), (2, .int x2), (3, .int x3)]) rfl ?_
  unfold k_X7_boundOf at h
  refine cg_iconst C (x := nI 0) rfl dX7_boundOf_0 ?_
  refine cg_istore C (lv' := [(4, .int ((nI 0))), (0, .ref x0), (1, .ref x1), (2, .int x2), (3, .int x3)]) (Nat.le_of_ble_eq_true rfl) rfl dX7_boundOf_1 ?_
  refine cg_iconst C (x := nI 0) rfl dX7_boundOf_3 ?_
  refine cg_istore C (lv' := [(5, .int ((nI 0))), (4, .int ((nI 0))), (0, .ref x0), (1, .ref x1), (2, .int x2), (3, .int x3)]) (Nat.le_of_ble_eq_true rfl) rfl dX7_boundOf_4 ?_
  exact cg_sub [2, 3, 4, 5, 1, 0] rfl (tl_X7_boundOf_6 C   x0 x1 x2 x3 (((nI 0))) (((nI 0))) S h)
def k_X1_hold_124 (Q : cS → Prop) (dp : Nat)  (x0 : Nat) (x1 : Int32) (x2 : Int32) (x4 : Int32) (S : cS) : Prop :=
cA S x0 1 ∧ ((∃ b4 : Nat, cr S 35 x0 = some b4 ∧ (cX S b4 14 x4 ∧ (∀ S5 : cS, S5 = cSI S b4 (x4).toNatClampNeg x2 → cA S5 x0 1 ∧ ((∃ b6 : Nat, cr S5 34 x0 = some b6 ∧ (cX S5 b6 14 x4 ∧ (∀ S7 : cS, S7 = cSI S5 b6 (x4).toNatClampNeg x1 → Q S7))))))))
def k_X1_hold_68 (Q : cS → Prop) (dp : Nat) (R68 : Nat → Int32 → Int32 → Int32 → cS → Prop) (x0 : Nat) (x1 : Int32) (x2 : Int32) (x4 : Int32) (S : cS) : Prop :=
((x4 ≤ 0 →
  k_X1_hold_124 Q dp  x0 x1 x2 x4 S) ∧
 (¬ x4 ≤ 0 →
  cA S x0 1 ∧ ((∃ b8 : Nat, cr S 35 x0 = some b8 ∧ (cX S b8 14 ((x4 - ((nI 1)))) ∧ (((x2 ≤ ((cI S b8 ((x4 - ((nI 1)))).toNatClampNeg)) →
    k_X1_hold_124 Q dp  x0 x1 x2 x4 S) ∧
   (¬ x2 ≤ ((cI S b8 ((x4 - ((nI 1)))).toNatClampNeg)) →
    cA S x0 1 ∧ ((∃ b9 : Nat, cr S 35 x0 = some b9 ∧ (cA S x0 1 ∧ ((∃ b10 : Nat, cr S 35 x0 = some b10 ∧ (cX S b10 14 ((x4 - ((nI 1)))) ∧ (cX S b9 14 x4 ∧ (∀ S11 : cS, S11 = cSI S b9 (x4).toNatClampNeg ((cI S b10 ((x4 - ((nI 1)))).toNatClampNeg)) → cA S11 x0 1 ∧ ((∃ b12 : Nat, cr S11 34 x0 = some b12 ∧ (cA S11 x0 1 ∧ ((∃ b13 : Nat, cr S11 34 x0 = some b13 ∧ (cX S11 b13 14 ((x4 - ((nI 1)))) ∧ (cX S11 b12 14 x4 ∧ (∀ S14 : cS, S14 = cSI S11 b12 (x4).toNatClampNeg ((cI S11 b13 ((x4 - ((nI 1)))).toNatClampNeg)) → ∀ x4_15 : Int32, x4_15 = x4 + (-1) → R68 x0 x1 x2 x4_15 S14))))))))))))))))))))))))
def k_X1_hold_68L (Q : cS → Prop) (dp : Nat)  (x0 : Nat) (x1 : Int32) (x2 : Int32) (x4 : Int32) (S : cS) : Prop :=
  lfp (X := Nat × Int32 × Int32 × Int32 × cS) (fun P y => k_X1_hold_68 Q dp  (fun b0 b1 b2 b3 S => P (b0, b1, b2, b3, S)) y.1 y.2.1 y.2.2.1 y.2.2.2.1 y.2.2.2.2) (x0, x1, x2, x4, S)
def k_X1_hold_23 (Q : cS → Prop) (dp : Nat)  (x0 : Nat) (x1 : Int32) (x2 : Int32) (S : cS) : Prop :=
cA S x0 1 ∧ (((((ci S 33 x0)) < ((nI 1)) →
  Q S) ∧
 (¬ ((ci S 33 x0)) < ((nI 1)) →
  cA S x0 1 ∧ ((∃ b2 : Nat, cr S 35 x0 = some b2 ∧ (cA S x0 1 ∧ (cX S b2 14 ((((ci S 33 x0)) - ((nI 1)))) ∧ (((((cI S b2 ((((ci S 33 x0)) - ((nI 1)))).toNatClampNeg)) < x2 →
    cA S x0 1 ∧ (∀ x4_3 : Int32, x4_3 = (((ci S 33 x0)) - ((nI 1))) → k_X1_hold_68L Q dp  x0 x1 x2 x4_3 S)) ∧
   (¬ ((cI S b2 ((((ci S 33 x0)) - ((nI 1)))).toNatClampNeg)) < x2 →
    Q S))))))))))
def k_X1_hold (Q : cS → Prop) (dp : Nat) (x0 : Nat) (x1 : Int32) (x2 : Int32) (x3 : Int32) (S : cS) : Prop :=
cA S x0 1 ∧ (∀ x4_1 : Int32, x4_1 = (ci S 33 x0) → cA S x0 1 ∧ (((x3 ≤ ((ci S 33 x0)) →
  k_X1_hold_23 Q dp  x0 x1 x2 S) ∧
 (¬ x3 ≤ ((ci S 33 x0)) →
  cA S x0 1 ∧ (((((ci S 33 x0)) < ((nI 20)) →
    cA S x0 1 ∧ (cA S x0 1 ∧ (∀ S16 : cS, S16 = cSi S 33 x0 ((((ci S 33 x0)) + ((nI 1)))) → k_X1_hold_68L Q dp  x0 x1 x2 x4_1 S16))) ∧
   (¬ ((ci S 33 x0)) < ((nI 20)) →
    k_X1_hold_23 Q dp  x0 x1 x2 S)))))))
section S_X1_hold
variable {p : Program} {l : Launch} {e : Env} {s : State} {m : MethodId} {args : Array Value} {below : List Frame} {meth : Method} {c : Code} {A : Nat → Prop} {D : va_G} {Y : cY} {tp dp : Nat}
set_option maxRecDepth 20000 in
theorem tb_X1_hold_124 (C : cC p s m args meth c cX1_hold 5 none A D Y tp dp RX1) {post : cS → Prop}   (x0 : Nat) (x1 : Int32) (x2 : Int32) (x4 : Int32) (S : cS) (h : k_X1_hold_124 post dp  x0 x1 x2 x4 S) : cG p l e (cRm 0 0 0 0) s m args below meth c A D Y 5 (MQ below (cQv post D Y A) args s 0 0 A) 0 0 124 [(0, .ref x0), (1, .int x1), (2, .int x2), (4, .int x4)] [] S := by
  unfold k_X1_hold_124 at h
  refine cg_aload_n C (i := 0) rfl 0 rfl dX1_hold_124 ?_
  obtain ⟨hc_125, h⟩ := h
  obtain ⟨b4, hb_b4, h⟩ := h
  refine cg_get C (k := 1) (j := 3) (.ref b4) hc_125.1 hc_125.2 (by decide) rfl (by decide) rfl (show cV _ 1 3 x0 = _ from congrArg va_rf hb_b4) cWs_wsX10 cl_X1_19 rfl dX1_hold_125 ?_
  refine cg_iload C 3 rfl dX1_hold_128 ?_
  refine cg_iload_n C (i := 2) rfl 2 rfl dX1_hold_130 ?_
  obtain ⟨hc_131, h⟩ := h
  refine cg_iastoreR C hc_131 dX1_hold_131 ?_
  refine cg_nm (fun S5 e_S5 => ?_)
  have h := h S5 e_S5
  refine cg_aload_n C (i := 0) rfl 0 rfl dX1_hold_132 ?_
  obtain ⟨hc_133, h⟩ := h
  obtain ⟨b6, hb_b6, h⟩ := h
  refine cg_get C (k := 1) (j := 2) (.ref b6) hc_133.1 hc_133.2 (by decide) rfl (by decide) rfl (show cV _ 1 2 x0 = _ from congrArg va_rf hb_b6) cWs_wsX10 cl_X1_15 rfl dX1_hold_133 ?_
  refine cg_iload C 3 rfl dX1_hold_136 ?_
  refine cg_iload_n C (i := 1) rfl 1 rfl dX1_hold_138 ?_
  obtain ⟨hc_139, h⟩ := h
  refine cg_iastoreR C hc_139 dX1_hold_139 ?_
  refine cg_nm (fun S7 e_S7 => ?_)
  have h := h S7 e_S7
  exact cg_vret C h dX1_hold_140 (by decide) (by decide)
set_option maxRecDepth 20000 in
theorem tb_X1_hold_68 (C : cC p s m args meth c cX1_hold 5 none A D Y tp dp RX1) {post : cS → Prop} {R68 : Nat → Int32 → Int32 → Int32 → cS → Prop} (hR68 : ∀ (x0 : Nat) (x1 : Int32) (x2 : Int32) (x4 : Int32) (S : cS), R68 x0 x1 x2 x4 S → cG p l e (cRm 0 0 0 0) s m args below meth c A D Y 5 (MQ below (cQv post D Y A) args s 0 0 A) 0 0 68 [(0, .ref x0), (1, .int x1), (2, .int x2), (4, .int x4)] [] S) (x0 : Nat) (x1 : Int32) (x2 : Int32) (x4 : Int32) (S : cS) (h : k_X1_hold_68 post dp R68 x0 x1 x2 x4 S) : cG p l e (cRm 0 0 0 0) s m args below meth c A D Y 5 (MQ below (cQv post D Y A) args s 0 0 A) 0 0 68 [(0, .ref x0), (1, .int x1), (2, .int x2), (4, .int x4)] [] S := by
  unfold k_X1_hold_68 at h
  refine cg_iload C 3 rfl dX1_hold_68 ?_
  refine cg_if_le C 124 (by decide) dX1_hold_70 (fun c_ => ?_) (fun c_ => ?_)
  · have h := h.1 c_
    exact cg_sub [0, 1, 2, 3] rfl (tb_X1_hold_124 C   x0 x1 x2 x4 S h)
  · have h := h.2 c_
    refine cg_aload_n C (i := 0) rfl 0 rfl dX1_hold_73 ?_
    obtain ⟨hc_74, h⟩ := h
    obtain ⟨b8, hb_b8, h⟩ := h
    refine cg_get C (k := 1) (j := 3) (.ref b8) hc_74.1 hc_74.2 (by decide) rfl (by decide) rfl (show cV _ 1 3 x0 = _ from congrArg va_rf hb_b8) cWs_wsX10 cl_X1_19 rfl dX1_hold_74 ?_
    refine cg_iload C 3 rfl dX1_hold_77 ?_
    refine cg_iconst C (x := nI 1) rfl dX1_hold_79 ?_
    refine cg_isub C dX1_hold_80 ?_
    obtain ⟨hc_81, h⟩ := h
    refine cg_ialoadR C hc_81 dX1_hold_81 ?_
    refine cg_iload_n C (i := 2) rfl 2 rfl dX1_hold_82 ?_
    refine cg_icmp_ge C 124 (by decide) dX1_hold_83 (fun c_ => ?_) (fun c_ => ?_)
    · have h := h.1 c_
      exact cg_sub [0, 1, 2, 3] rfl (tb_X1_hold_124 C   x0 x1 x2 x4 S h)
    · have h := h.2 c_
      refine cg_aload_n C (i := 0) rfl 0 rfl dX1_hold_86 ?_
      obtain ⟨hc_87, h⟩ := h
      obtain ⟨b9, hb_b9, h⟩ := h
      refine cg_get C (k := 1) (j := 3) (.ref b9) hc_87.1 hc_87.2 (by decide) rfl (by decide) rfl (show cV _ 1 3 x0 = _ from congrArg va_rf hb_b9) cWs_wsX10 cl_X1_19 rfl dX1_hold_87 ?_
      refine cg_iload C 3 rfl dX1_hold_90 ?_
      refine cg_aload_n C (i := 0) rfl 0 rfl dX1_hold_92 ?_
      obtain ⟨hc_93, h⟩ := h
      obtain ⟨b10, hb_b10, h⟩ := h
      refine cg_get C (k := 1) (j := 3) (.ref b10) hc_93.1 hc_93.2 (by decide) rfl (by decide) rfl (show cV _ 1 3 x0 = _ from congrArg va_rf hb_b10) cWs_wsX10 cl_X1_19 rfl dX1_hold_93 ?_
      refine cg_iload C 3 rfl dX1_hold_96 ?_
      refine cg_iconst C (x := nI 1) rfl dX1_hold_98 ?_
      refine cg_isub C dX1_hold_99 ?_
      obtain ⟨hc_100, h⟩ := h
      refine cg_ialoadR C hc_100 dX1_hold_100 ?_
      obtain ⟨hc_101, h⟩ := h
      refine cg_iastoreR C hc_101 dX1_hold_101 ?_
      refine cg_nm (fun S11 e_S11 => ?_)
      have h := h S11 e_S11
      refine cg_aload_n C (i := 0) rfl 0 rfl dX1_hold_102 ?_
      obtain ⟨hc_103, h⟩ := h
      obtain ⟨b12, hb_b12, h⟩ := h
      refine cg_get C (k := 1) (j := 2) (.ref b12) hc_103.1 hc_103.2 (by decide) rfl (by decide) rfl (show cV _ 1 2 x0 = _ from congrArg va_rf hb_b12) cWs_wsX10 cl_X1_15 rfl dX1_hold_103 ?_
      refine cg_iload C 3 rfl dX1_hold_106 ?_
      refine cg_aload_n C (i := 0) rfl 0 rfl dX1_hold_108 ?_
      obtain ⟨hc_109, h⟩ := h
      obtain ⟨b13, hb_b13, h⟩ := h
      refine cg_get C (k := 1) (j := 2) (.ref b13) hc_109.1 hc_109.2 (by decide) rfl (by decide) rfl (show cV _ 1 2 x0 = _ from congrArg va_rf hb_b13) cWs_wsX10 cl_X1_15 rfl dX1_hold_109 ?_
      refine cg_iload C 3 rfl dX1_hold_112 ?_
      refine cg_iconst C (x := nI 1) rfl dX1_hold_114 ?_
      refine cg_isub C dX1_hold_115 ?_
      obtain ⟨hc_116, h⟩ := h
      refine cg_ialoadR C hc_116 dX1_hold_116 ?_
      obtain ⟨hc_117, h⟩ := h
      refine cg_iastoreR C hc_117 dX1_hold_117 ?_
      refine cg_nm (fun S14 e_S14 => ?_)
      have h := h S14 e_S14
      obtain ⟨x4_15, e_x4_15⟩ : ∃ z : Int32, z = x4 + (-1) := ⟨_, rfl⟩
      have h := h x4_15 e_x4_15
      refine cg_iinc C (lv' := [(4, .int x4_15), (0, .ref x0), (1, .int x1), (2, .int x2)]) 3 rfl (by rw [e_x4_15]; rfl) (Nat.le_of_ble_eq_true rfl) rfl dX1_hold_118 ?_
      refine cg_goto C 68 (by decide) dX1_hold_121 ?_
      exact cg_sub [1, 2, 3, 0] rfl (hR68 x0 x1 x2 x4_15 S14 h)
set_option maxRecDepth 20000 in
theorem tl_X1_hold_68 (C : cC p s m args meth c cX1_hold 5 none A D Y tp dp RX1) {post : cS → Prop}   (x0 : Nat) (x1 : Int32) (x2 : Int32) (x4 : Int32) (S : cS) (h : k_X1_hold_68L post dp  x0 x1 x2 x4 S) : cG p l e (cRm 0 0 0 0) s m args below meth c A D Y 5 (MQ below (cQv post D Y A) args s 0 0 A) 0 0 68 [(0, .ref x0), (1, .int x1), (2, .int x2), (4, .int x4)] [] S :=
  h (fun y => cG p l e (cRm 0 0 0 0) s m args below meth c A D Y 5 (MQ below (cQv post D Y A) args s 0 0 A) 0 0 68 [(0, .ref (y.1)), (1, .int (y.2.1)), (2, .int (y.2.2.1)), (4, .int (y.2.2.2.1))] [] (y.2.2.2.2)) (fun y hy => tb_X1_hold_68 C   (fun b0 b1 b2 b3 S z => z) (y.1) (y.2.1) (y.2.2.1) (y.2.2.2.1) (y.2.2.2.2) hy)
set_option maxRecDepth 20000 in
theorem tb_X1_hold_23 (C : cC p s m args meth c cX1_hold 5 none A D Y tp dp RX1) {post : cS → Prop}   (x0 : Nat) (x1 : Int32) (x2 : Int32) (S : cS) (h : k_X1_hold_23 post dp  x0 x1 x2 S) : cG p l e (cRm 0 0 0 0) s m args below meth c A D Y 5 (MQ below (cQv post D Y A) args s 0 0 A) 0 0 23 [(0, .ref x0), (1, .int x1), (2, .int x2)] [] S := by
  unfold k_X1_hold_23 at h
  refine cg_aload_n C (i := 0) rfl 0 rfl dX1_hold_23 ?_
  obtain ⟨hc_24, h⟩ := h
  refine cg_get C (k := 1) (j := 1) (.int (ci S 33 x0)) hc_24.1 hc_24.2 (by decide) rfl (by decide) rfl rfl cWs_wsX10 cl_X1_9 rfl dX1_hold_24 ?_
  refine cg_iconst C (x := nI 1) rfl dX1_hold_27 ?_
  refine cg_icmp_lt C 46 (by decide) dX1_hold_28 (fun c_ => ?_) (fun c_ => ?_)
  · have h := h.1 c_
    exact cg_vret C h dX1_hold_46 (by decide) (by decide)
  · have h := h.2 c_
    refine cg_iload_n C (i := 2) rfl 2 rfl dX1_hold_31 ?_
    refine cg_aload_n C (i := 0) rfl 0 rfl dX1_hold_32 ?_
    obtain ⟨hc_33, h⟩ := h
    obtain ⟨b2, hb_b2, h⟩ := h
    refine cg_get C (k := 1) (j := 3) (.ref b2) hc_33.1 hc_33.2 (by decide) rfl (by decide) rfl (show cV _ 1 3 x0 = _ from congrArg va_rf hb_b2) cWs_wsX10 cl_X1_19 rfl dX1_hold_33 ?_
    refine cg_aload_n C (i := 0) rfl 0 rfl dX1_hold_36 ?_
    obtain ⟨hc_37, h⟩ := h
    refine cg_get C (k := 1) (j := 1) (.int (ci S 33 x0)) hc_37.1 hc_37.2 (by decide) rfl (by decide) rfl rfl cWs_wsX10 cl_X1_9 rfl dX1_hold_37 ?_
    refine cg_iconst C (x := nI 1) rfl dX1_hold_40 ?_
    refine cg_isub C dX1_hold_41 ?_
    obtain ⟨hc_42, h⟩ := h
    refine cg_ialoadR C hc_42 dX1_hold_42 ?_
    refine cg_icmp_gt C 47 (by decide) dX1_hold_43 (fun c_ => ?_) (fun c_ => ?_)
    · have h := h.1 c_
      refine cg_aload_n C (i := 0) rfl 0 rfl dX1_hold_47 ?_
      obtain ⟨hc_48, h⟩ := h
      refine cg_get C (k := 1) (j := 1) (.int (ci S 33 x0)) hc_48.1 hc_48.2 (by decide) rfl (by decide) rfl rfl cWs_wsX10 cl_X1_9 rfl dX1_hold_48 ?_
      refine cg_iconst C (x := nI 1) rfl dX1_hold_51 ?_
      refine cg_isub C dX1_hold_52 ?_
      refine cg_nmI (fun x4_3 e_x4_3 => ?_)
      have h := h x4_3 e_x4_3
      refine cg_istore C (lv' := [(4, .int x4_3), (0, .ref x0), (1, .int x1), (2, .int x2)]) (Nat.le_of_ble_eq_true rfl) rfl dX1_hold_53 ?_
      refine cg_goto C 68 (by decide) dX1_hold_55 ?_
      exact cg_sub [1, 2, 3, 0] rfl (tl_X1_hold_68 C   x0 x1 x2 x4_3 S h)
    · have h := h.2 c_
      exact cg_vret C h dX1_hold_46 (by decide) (by decide)
end S_X1_hold
set_option maxHeartbeats 1000000 in
set_option maxRecDepth 20000 in
theorem t_X1_hold (l : Launch) (x0 : Nat) (x1 : Int32) (x2 : Int32) (x3 : Int32) (S : cS) (dp : Nat) {P : cS → Prop} (h : k_X1_hold P dp x0 x1 x2 x3 S) : cMet (cQv P) l yX1_hold cX1_hold 5 none 0 0 0 0 [.ref x0, .int x1, .int x2, .int x3] S dp := by
  intro D Y tp sz
  refine cg_body (by decide +kernel) (Nat.le_of_ble_eq_true rfl) ?_
  intro p e s m args below meth c C
  generalize va_A (cWd Y S) sz = A at C ⊢
  have C : cC p s m args meth c cX1_hold 5 none A D Y tp dp RX1 := C
  refine cg_lv (lv' := [(0, .ref x0), (1, .int x1), (2, .int x2), (3, .int x3)]) rfl ?_
  unfold k_X1_hold at h
  refine cg_aload_n C (i := 0) rfl 0 rfl dX1_hold_0 ?_
  obtain ⟨hc_1, h⟩ := h
  refine cg_get C (k := 1) (j := 1) (.int (ci S 33 x0)) hc_1.1 hc_1.2 (by decide) rfl (by decide) rfl rfl cWs_wsX10 cl_X1_9 rfl dX1_hold_1 ?_
  refine cg_nmI (fun x4_1 e_x4_1 => ?_)
  have h := h x4_1 e_x4_1
  refine cg_istore C (lv' := [(4, .int x4_1), (0, .ref x0), (1, .int x1), (2, .int x2), (3, .int x3)]) (Nat.le_of_ble_eq_true rfl) rfl dX1_hold_4 ?_
  refine cg_aload_n C (i := 0) rfl 1 rfl dX1_hold_6 ?_
  obtain ⟨hc_7, h⟩ := h
  refine cg_get C (k := 1) (j := 1) (.int (ci S 33 x0)) hc_7.1 hc_7.2 (by decide) rfl (by decide) rfl rfl cWs_wsX10 cl_X1_9 rfl dX1_hold_7 ?_
  refine cg_iload_n C (i := 3) rfl 4 rfl dX1_hold_10 ?_
  refine cg_icmp_ge C 23 (by decide) dX1_hold_11 (fun c_ => ?_) (fun c_ => ?_)
  · have h := h.1 c_
    exact cg_sub [1, 2, 3] rfl (tb_X1_hold_23 C   x0 x1 x2 S h)
  · have h := h.2 c_
    refine cg_aload_n C (i := 0) rfl 1 rfl dX1_hold_14 ?_
    obtain ⟨hc_15, h⟩ := h
    refine cg_get C (k := 1) (j := 1) (.int (ci S 33 x0)) hc_15.1 hc_15.2 (by decide) rfl (by decide) rfl rfl cWs_wsX10 cl_X1_9 rfl dX1_hold_15 ?_
    refine cg_bipush C (x := nI 20) rfl dX1_hold_18 ?_
    refine cg_icmp_lt C 58 (by decide) dX1_hold_20 (fun c_ => ?_) (fun c_ => ?_)
    · have h := h.1 c_
      refine cg_aload_n C (i := 0) rfl 1 rfl dX1_hold_58 ?_
      refine cg_dup C rfl dX1_hold_59 ?_
      obtain ⟨hc_60, h⟩ := h
      refine cg_get C (k := 1) (j := 1) (.int (ci S 33 x0)) hc_60.1 hc_60.2 (by decide) rfl (by decide) rfl rfl cWs_wsX10 cl_X1_9 rfl dX1_hold_60 ?_
      refine cg_iconst C (x := nI 1) rfl dX1_hold_63 ?_
      refine cg_iadd C dX1_hold_64 ?_
      obtain ⟨hc_65, h⟩ := h
      refine cg_puti C (k := 1) (j := 1) (ty := tyX1) (fty := .int) hc_65.1 hc_65.2 (by decide) rfl (by decide) rfl (by decide) rfl cWs_wsX10 tyX1_ok nmX1 cl_X1_9 rfl rfl rfl rfl rfl dX1_hold_65 ?_
      refine cg_nm (fun S16 e_S16 => ?_)
      have h := h S16 e_S16
      exact cg_sub [1, 2, 3, 0] rfl (tl_X1_hold_68 C   x0 x1 x2 x4_1 S16 h)
    · have h := h.2 c_
      exact cg_sub [1, 2, 3] rfl (tb_X1_hold_23 C   x0 x1 x2 S h)
def k_X1_searchBlocks_157 (Q : cS → Prop) (dp : Nat) (R17 : Nat → Nat → Nat → Nat → Int32 → Int32 → Int32 → cS → Prop) (x0 : Nat) (x1 : Nat) (x2 : Nat) (x3 : Nat) (x4 : Int32) (x5 : Int32) (x6 : Int32) (S : cS) : Prop :=
∀ x6_5 : Int32, x6_5 = x6 + nI 4 → R17 x0 x1 x2 x3 x4 x5 x6_5 S
def k_X1_searchBlocks_151 (Q : cS → Prop) (dp : Nat) (R17 : Nat → Nat → Nat → Nat → Int32 → Int32 → Int32 → cS → Prop) (R94 : Nat → Nat → Nat → Nat → Int32 → Int32 → Int32 → Int32 → Int32 → cS → Prop) (x0 : Nat) (x1 : Nat) (x2 : Nat) (x3 : Nat) (x4 : Int32) (x5 : Int32) (x6 : Int32) (x7 : Int32) (x8 : Int32) (S : cS) : Prop :=
∀ x8_7 : Int32, x8_7 = x8 + nI 1 → R94 x0 x1 x2 x3 x4 x5 x6 x7 x8_7 S
def k_X1_searchBlocks_94 (Q : cS → Prop) (dp : Nat) (R17 : Nat → Nat → Nat → Nat → Int32 → Int32 → Int32 → cS → Prop) (R94 : Nat → Nat → Nat → Nat → Int32 → Int32 → Int32 → Int32 → Int32 → cS → Prop) (x0 : Nat) (x1 : Nat) (x2 : Nat) (x3 : Nat) (x4 : Int32) (x5 : Int32) (x6 : Int32) (x7 : Int32) (x8 : Int32) (S : cS) : Prop :=
((x7 ≤ x8 →
  k_X1_searchBlocks_157 Q dp R17 x0 x1 x2 x3 x4 x5 x6 S) ∧
 (¬ x7 ≤ x8 →
  cA S x2 2 ∧ (k_X2_isLive (fun r_6 S_6 => 
  ((r_6 = 0 →
    k_X1_searchBlocks_151 Q dp R17 R94 x0 x1 x2 x3 x4 x5 x6 x7 x8 S_6) ∧
   (¬ r_6 = 0 →
    cX S_6 x3 14 x8 ∧ (((((cI S_6 x3 (x8).toNatClampNeg)) = 0 →
      k_X1_searchBlocks_151 Q dp R17 R94 x0 x1 x2 x3 x4 x5 x6 x7 x8 S_6) ∧
     (¬ ((cI S_6 x3 (x8).toNatClampNeg)) = 0 →
      cA S_6 x2 2 ∧ ((∃ b8 : Nat, cr S_6 64 x2 = some b8 ∧ (cA S_6 b8 8 ∧ ((∃ b9 : Nat, cr S_6 257 b8 = some b9 ∧ (cA S_6 b9 12 ∧ (k_Jx4a65c_get_915e3 (fun r_10 S_10 => 
      cA S_10 r_10 0 ∧ (cA S_10 r_10 0 ∧ (cA S_10 x0 1 ∧ ((∃ b11 : Nat, cr S_10 32 x0 = some b11 ∧ (cA S_10 b11 7 ∧ (k_X7_valueAt (fun r_12 S_12 => 
      cA S_12 x0 1 ∧ (k_X1_hold (fun S_13 => 
      k_X1_searchBlocks_151 Q dp R17 R94 x0 x1 x2 x3 x4 x5 x6 x7 x8 S_13) dp x0 ((ci S_10 0 r_10)) r_12 x4 S_12)) dp b11 x1 x8 S_10))))))) dp b9 x8 S_6))))))))))))) dp x2 x8 S)))
def k_X1_searchBlocks_94L (Q : cS → Prop) (dp : Nat) (R17 : Nat → Nat → Nat → Nat → Int32 → Int32 → Int32 → cS → Prop) (x0 : Nat) (x1 : Nat) (x2 : Nat) (x3 : Nat) (x4 : Int32) (x5 : Int32) (x6 : Int32) (x7 : Int32) (x8 : Int32) (S : cS) : Prop :=
  lfp (X := Nat × Nat × Nat × Nat × Int32 × Int32 × Int32 × Int32 × Int32 × cS) (fun P y => k_X1_searchBlocks_94 Q dp R17 (fun b0 b1 b2 b3 b4 b5 b6 b7 b8 S => P (b0, b1, b2, b3, b4, b5, b6, b7, b8, S)) y.1 y.2.1 y.2.2.1 y.2.2.2.1 y.2.2.2.2.1 y.2.2.2.2.2.1 y.2.2.2.2.2.2.1 y.2.2.2.2.2.2.2.1 y.2.2.2.2.2.2.2.2.1 y.2.2.2.2.2.2.2.2.2) (x0, x1, x2, x3, x4, x5, x6, x7, x8, S)
def k_X1_searchBlocks_90 (Q : cS → Prop) (dp : Nat) (R17 : Nat → Nat → Nat → Nat → Int32 → Int32 → Int32 → cS → Prop) (x0 : Nat) (x1 : Nat) (x2 : Nat) (x3 : Nat) (x4 : Int32) (x5 : Int32) (x6 : Int32) (x7 : Int32) (S : cS) : Prop :=
k_X1_searchBlocks_94L Q dp R17 x0 x1 x2 x3 x4 x5 x6 x7 x6 S
def k_X1_searchBlocks_17 (Q : cS → Prop) (dp : Nat) (R17 : Nat → Nat → Nat → Nat → Int32 → Int32 → Int32 → cS → Prop) (x0 : Nat) (x1 : Nat) (x2 : Nat) (x3 : Nat) (x4 : Int32) (x5 : Int32) (x6 : Int32) (S : cS) : Prop :=
((x5 ≤ x6 →
  Q S) ∧
 (¬ x5 ≤ x6 →
  ∀ x7_4 : Int32, x7_4 = (if x5 < ((x6 + ((nI 4)))) then x5 else ((x6 + ((nI 4))))) → cA S x0 1 ∧ (((((ci S 33 x0)) ≤ 0 →
    k_X1_searchBlocks_90 Q dp R17 x0 x1 x2 x3 x4 x5 x6 x7_4 S) ∧
   (¬ ((ci S 33 x0)) ≤ 0 →
    cA S x0 1 ∧ (((((ci S 33 x0)) < x4 →
      k_X1_searchBlocks_90 Q dp R17 x0 x1 x2 x3 x4 x5 x6 x7_4 S) ∧
     (¬ ((ci S 33 x0)) < x4 →
      cA S x0 1 ∧ ((∃ b14 : Nat, cr S 32 x0 = some b14 ∧ (cA S b14 7 ∧ (k_X7_boundOf (fun r_15 S_15 => 
      cA S_15 x0 1 ∧ ((∃ b16 : Nat, cr S_15 35 x0 = some b16 ∧ (cA S_15 x0 1 ∧ (cX S_15 b16 14 ((((ci S_15 33 x0)) - ((nI 1)))) ∧ (((((cI S_15 b16 ((((ci S_15 33 x0)) - ((nI 1)))).toNatClampNeg)) < r_15 →
        k_X1_searchBlocks_90 Q dp R17 x0 x1 x2 x3 x4 x5 x6 x7_4 S_15) ∧
       (¬ ((cI S_15 b16 ((((ci S_15 33 x0)) - ((nI 1)))).toNatClampNeg)) < r_15 →
        cA S_15 x0 1 ∧ (cA S_15 x0 1 ∧ (∀ S17 : cS, S17 = cSi S_15 36 x0 ((((ci S_15 36 x0)) + ((nI 1)))) → k_X1_searchBlocks_157 Q dp R17 x0 x1 x2 x3 x4 x5 x6 S17)))))))))) dp b14 x1 x6 x7_4 S))))))))))))
def k_X1_searchBlocks_17L (Q : cS → Prop) (dp : Nat)  (x0 : Nat) (x1 : Nat) (x2 : Nat) (x3 : Nat) (x4 : Int32) (x5 : Int32) (x6 : Int32) (S : cS) : Prop :=
  lfp (X := Nat × Nat × Nat × Nat × Int32 × Int32 × Int32 × cS) (fun P y => k_X1_searchBlocks_17 Q dp  (fun b0 b1 b2 b3 b4 b5 b6 S => P (b0, b1, b2, b3, b4, b5, b6, S)) y.1 y.2.1 y.2.2.1 y.2.2.2.1 y.2.2.2.2.1 y.2.2.2.2.2.1 y.2.2.2.2.2.2.1 y.2.2.2.2.2.2.2) (x0, x1, x2, x3, x4, x5, x6, S)
def k_X1_searchBlocks (Q : cS → Prop) (dp : Nat) (x0 : Nat) (x1 : Nat) (x2 : Nat) (x3 : Nat) (x4 : Int32) (S : cS) : Prop :=
cA S x2 2 ∧ ((∃ b1 : Nat, cr S 64 x2 = some b1 ∧ (cA S b1 8 ∧ (k_X8_size (fun r_2 S_2 => 
cA S_2 x3 14 ∧ (∀ x5_3 : Int32, x5_3 = (if ((nI (cn S_2 x3))) < r_2 then ((nI (cn S_2 x3))) else r_2) → k_X1_searchBlocks_17L Q dp  x0 x1 x2 x3 x4 x5_3 (((nI 0))) S_2)) dp b1 S))))
section S_X1_searchBlocks
variable {p : Program} {l : Launch} {e : Env} {s : State} {m : MethodId} {args : Array Value} {below : List Frame} {meth : Method} {c : Code} {A : Nat → Prop} {D : va_G} {Y : cY} {tp dp : Nat}
set_option maxRecDepth 20000 in
theorem tb_X1_searchBlocks_157 (C : cC p s m args meth c cX1_searchBlocks 9 none A D Y tp dp RX1) {post : cS → Prop} {R17 : Nat → Nat → Nat → Nat → Int32 → Int32 → Int32 → cS → Prop} (hR17 : ∀ (x0 : Nat) (x1 : Nat) (x2 : Nat) (x3 : Nat) (x4 : Int32) (x5 : Int32) (x6 : Int32) (S : cS), R17 x0 x1 x2 x3 x4 x5 x6 S → cG p l e (cRm 5 0 0 113) s m args below meth c A D Y 9 (MQ below (cQv post D Y A) args s 0 0 A) 0 0 17 [(0, .ref x0), (1, .ref x1), (2, .ref x2), (3, .ref x3), (4, .int x4), (5, .int x5), (6, .int x6)] [] S) (x0 : Nat) (x1 : Nat) (x2 : Nat) (x3 : Nat) (x4 : Int32) (x5 : Int32) (x6 : Int32) (S : cS) (h : k_X1_searchBlocks_157 post dp R17 x0 x1 x2 x3 x4 x5 x6 S) : cG p l e (cRm 5 0 0 113) s m args below meth c A D Y 9 (MQ below (cQv post D Y A) args s 0 0 A) 0 0 157 [(0, .ref x0), (1, .ref x1), (2, .ref x2), (3, .ref x3), (4, .int x4), (5, .int x5), (6, .int x6)] [] S := by
  unfold k_X1_searchBlocks_157 at h
  obtain ⟨x6_5, e_x6_5⟩ : ∃ z : Int32, z = x6 + nI 4 := ⟨_, rfl⟩
  have h := h x6_5 e_x6_5
  refine cg_iinc C (lv' := [(6, .int x6_5), (0, .ref x0), (1, .ref x1), (2, .ref x2), (3, .ref x3), (4, .int x4), (5, .int x5)]) 6 rfl (by rw [e_x6_5]; rfl) (Nat.le_of_ble_eq_true rfl) rfl dX1_searchBlocks_157 ?_
  refine cg_goto C 17 (by decide) dX1_searchBlocks_160 ?_
  exact cg_sub [1, 2, 3, 4, 5, 6, 0] rfl (hR17 x0 x1 x2 x3 x4 x5 x6_5 S h)
set_option maxRecDepth 20000 in
theorem tb_X1_searchBlocks_151 (C : cC p s m args meth c cX1_searchBlocks 9 none A D Y tp dp RX1) {post : cS → Prop} {R17 : Nat → Nat → Nat → Nat → Int32 → Int32 → Int32 → cS → Prop} {R94 : Nat → Nat → Nat → Nat → Int32 → Int32 → Int32 → Int32 → Int32 → cS → Prop} (hR17 : ∀ (x0 : Nat) (x1 : Nat) (x2 : Nat) (x3 : Nat) (x4 : Int32) (x5 : Int32) (x6 : Int32) (S : cS), R17 x0 x1 x2 x3 x4 x5 x6 S → cG p l e (cRm 5 0 0 113) s m args below meth c A D Y 9 (MQ below (cQv post D Y A) args s 0 0 A) 0 0 17 [(0, .ref x0), (1, .ref x1), (2, .ref x2), (3, .ref x3), (4, .int x4), (5, .int x5), (6, .int x6)] [] S) (hR94 : ∀ (x0 : Nat) (x1 : Nat) (x2 : Nat) (x3 : Nat) (x4 : Int32) (x5 : Int32) (x6 : Int32) (x7 : Int32) (x8 : Int32) (S : cS), R94 x0 x1 x2 x3 x4 x5 x6 x7 x8 S → cG p l e (cRm 5 0 0 113) s m args below meth c A D Y 9 (MQ below (cQv post D Y A) args s 0 0 A) 0 0 94 [(0, .ref x0), (1, .ref x1), (2, .ref x2), (3, .ref x3), (4, .int x4), (5, .int x5), (6, .int x6), (7, .int x7), (8, .int x8)] [] S) (x0 : Nat) (x1 : Nat) (x2 : Nat) (x3 : Nat) (x4 : Int32) (x5 : Int32) (x6 : Int32) (x7 : Int32) (x8 : Int32) (S : cS) (h : k_X1_searchBlocks_151 post dp R17 R94 x0 x1 x2 x3 x4 x5 x6 x7 x8 S) : cG p l e (cRm 5 0 0 113) s m args below meth c A D Y 9 (MQ below (cQv post D Y A) args s 0 0 A) 0 0 151 [(0, .ref x0), (1, .ref x1), (2, .ref x2), (3, .ref x3), (4, .int x4), (5, .int x5), (6, .int x6), (7, .int x7), (8, .int x8)] [] S := by
  unfold k_X1_searchBlocks_151 at h
  obtain ⟨x8_7, e_x8_7⟩ : ∃ z : Int32, z = x8 + nI 1 := ⟨_, rfl⟩
  have h := h x8_7 e_x8_7
  refine cg_iinc C (lv' := [(8, .int x8_7), (0, .ref x0), (1, .ref x1), (2, .ref x2), (3, .ref x3), (4, .int x4), (5, .int x5), (6, .int x6), (7, .int x7)]) 8 rfl (by rw [e_x8_7]; rfl) (Nat.le_of_ble_eq_true rfl) rfl dX1_searchBlocks_151 ?_
  refine cg_goto C 94 (by decide) dX1_searchBlocks_154 ?_
  exact cg_sub [1, 2, 3, 4, 5, 6, 7, 8, 0] rfl (hR94 x0 x1 x2 x3 x4 x5 x6 x7 x8_7 S h)
set_option maxRecDepth 20000 in
theorem tb_X1_searchBlocks_94 (C : cC p s m args meth c cX1_searchBlocks 9 none A D Y tp dp RX1) {post : cS → Prop} {R17 : Nat → Nat → Nat → Nat → Int32 → Int32 → Int32 → cS → Prop} {R94 : Nat → Nat → Nat → Nat → Int32 → Int32 → Int32 → Int32 → Int32 → cS → Prop} (hR17 : ∀ (x0 : Nat) (x1 : Nat) (x2 : Nat) (x3 : Nat) (x4 : Int32) (x5 : Int32) (x6 : Int32) (S : cS), R17 x0 x1 x2 x3 x4 x5 x6 S → cG p l e (cRm 5 0 0 113) s m args below meth c A D Y 9 (MQ below (cQv post D Y A) args s 0 0 A) 0 0 17 [(0, .ref x0), (1, .ref x1), (2, .ref x2), (3, .ref x3), (4, .int x4), (5, .int x5), (6, .int x6)] [] S) (hR94 : ∀ (x0 : Nat) (x1 : Nat) (x2 : Nat) (x3 : Nat) (x4 : Int32) (x5 : Int32) (x6 : Int32) (x7 : Int32) (x8 : Int32) (S : cS), R94 x0 x1 x2 x3 x4 x5 x6 x7 x8 S → cG p l e (cRm 5 0 0 113) s m args below meth c A D Y 9 (MQ below (cQv post D Y A) args s 0 0 A) 0 0 94 [(0, .ref x0), (1, .ref x1), (2, .ref x2), (3, .ref x3), (4, .int x4), (5, .int x5), (6, .int x6), (7, .int x7), (8, .int x8)] [] S) (x0 : Nat) (x1 : Nat) (x2 : Nat) (x3 : Nat) (x4 : Int32) (x5 : Int32) (x6 : Int32) (x7 : Int32) (x8 : Int32) (S : cS) (h : k_X1_searchBlocks_94 post dp R17 R94 x0 x1 x2 x3 x4 x5 x6 x7 x8 S) : cG p l e (cRm 5 0 0 113) s m args below meth c A D Y 9 (MQ below (cQv post D Y A) args s 0 0 A) 0 0 94 [(0, .ref x0), (1, .ref x1), (2, .ref x2), (3, .ref x3), (4, .int x4), (5, .int x5), (6, .int x6), (7, .int x7), (8, .int x8)] [] S := by
  unfold k_X1_searchBlocks_94 at h
  refine cg_iload C 8 rfl dX1_searchBlocks_94 ?_
  refine cg_iload C 7 rfl dX1_searchBlocks_96 ?_
  refine cg_icmp_ge C 157 (by decide) dX1_searchBlocks_98 (fun c_ => ?_) (fun c_ => ?_)
  · have h := h.1 c_
    exact cg_sub [0, 1, 2, 3, 4, 5, 6] rfl (tb_X1_searchBlocks_157 C  hR17 x0 x1 x2 x3 x4 x5 x6 S h)
  · have h := h.2 c_
    refine cg_aload_n C (i := 2) rfl 2 rfl dX1_searchBlocks_101 ?_
    refine cg_iload C 8 rfl dX1_searchBlocks_102 ?_
    obtain ⟨hc_104, h⟩ := h
    refine cg_calli C (t_X2_isLive l x2 x8 S dp h) cc_X1_105 hc_104.1 hc_104.2 (by decide) rfl rfl ⟨by decide, by decide⟩ ⟨by decide, by decide⟩ rfl (Nat.le_of_ble_eq_true rfl) dX1_searchBlocks_104 (fun r_6 S_6 h => ?_)
    refine cg_if_eq C 151 (by decide) dX1_searchBlocks_107 (fun c_ => ?_) (fun c_ => ?_)
    · have h := h.1 c_
      exact cg_sub [0, 1, 2, 3, 4, 5, 6, 7, 8] rfl (tb_X1_searchBlocks_151 C  hR17 hR94 x0 x1 x2 x3 x4 x5 x6 x7 x8 S_6 h)
    · have h := h.2 c_
      refine cg_aload_n C (i := 3) rfl 3 rfl dX1_searchBlocks_110 ?_
      refine cg_iload C 8 rfl dX1_searchBlocks_111 ?_
      obtain ⟨hc_113, h⟩ := h
      refine cg_ialoadR C hc_113 dX1_searchBlocks_113 ?_
      refine cg_if_eq C 151 (by decide) dX1_searchBlocks_114 (fun c_ => ?_) (fun c_ => ?_)
      · have h := h.1 c_
        exact cg_sub [0, 1, 2, 3, 4, 5, 6, 7, 8] rfl (tb_X1_searchBlocks_151 C  hR17 hR94 x0 x1 x2 x3 x4 x5 x6 x7 x8 S_6 h)
      · have h := h.2 c_
        refine cg_aload_n C (i := 0) rfl 0 rfl dX1_searchBlocks_117 ?_
        refine cg_aload_n C (i := 2) rfl 2 rfl dX1_searchBlocks_118 ?_
        obtain ⟨hc_119, h⟩ := h
        obtain ⟨b8, hb_b8, h⟩ := h
        refine cg_get C (k := 2) (j := 0) (.ref b8) hc_119.1 hc_119.2 (by decide) rfl (by decide) rfl (show cV _ 2 0 x2 = _ from congrArg va_rf hb_b8) cWs_wsX20 cl_X1_74 rfl dX1_searchBlocks_119 ?_
        obtain ⟨hc_122, h⟩ := h
        obtain ⟨b9, hb_b9, h⟩ := h
        refine cg_get C (k := 8) (j := 1) (.ref b9) hc_122.1 hc_122.2 (by decide) rfl (by decide) rfl (show cV _ 8 1 b8 = _ from congrArg va_rf hb_b9) cWs_wsX80 cl_X1_109 rfl dX1_searchBlocks_122 ?_
        refine cg_iload C 8 rfl dX1_searchBlocks_125 ?_
        obtain ⟨hc_127, h⟩ := h
        refine cg_callr C (t_Jx4a65c_get_915e3 l b9 x8 S_6 dp h) cc_X1_113 hc_127.1 hc_127.2 (by decide) rfl rfl ⟨by decide, by decide⟩ ⟨by decide, by decide⟩ rfl (Nat.le_of_ble_eq_true rfl) dX1_searchBlocks_127 (fun r_10 S_10 h => ?_)
        obtain ⟨hc_130, h⟩ := h
        refine cg_ccast C (k := 0) hc_130.1 hc_130.2 (by decide) rfl cnc_X1_119 dX1_searchBlocks_130 ?_
        obtain ⟨hc_133, h⟩ := h
        refine cg_get C (k := 0) (j := 0) (.int (ci S_10 0 r_10)) hc_133.1 hc_133.2 (by decide) rfl (by decide) rfl rfl cWs_wsX00 cl_X1_121 rfl dX1_searchBlocks_133 ?_
        refine cg_aload_n C (i := 0) rfl 0 rfl dX1_searchBlocks_136 ?_
        obtain ⟨hc_137, h⟩ := h
        obtain ⟨b11, hb_b11, h⟩ := h
        refine cg_get C (k := 1) (j := 0) (.ref b11) hc_137.1 hc_137.2 (by decide) rfl (by decide) rfl (show cV _ 1 0 x0 = _ from congrArg va_rf hb_b11) cWs_wsX10 cl_X1_54 rfl dX1_searchBlocks_137 ?_
        refine cg_aload_n C (i := 1) rfl 1 rfl dX1_searchBlocks_140 ?_
        refine cg_iload C 8 rfl dX1_searchBlocks_141 ?_
        obtain ⟨hc_143, h⟩ := h
        refine cg_calli C (t_X7_valueAt l b11 x1 x8 S_10 dp h) cc_X1_124 hc_143.1 hc_143.2 (by decide) rfl rfl ⟨by decide, by decide⟩ ⟨by decide, by decide⟩ rfl (Nat.le_of_ble_eq_true rfl) dX1_searchBlocks_143 (fun r_12 S_12 h => ?_)
        refine cg_iload C 4 rfl dX1_searchBlocks_146 ?_
        obtain ⟨hc_148, h⟩ := h
        refine cg_callv C (t_X1_hold l x0 ((ci S_10 0 r_10)) r_12 x4 S_12 dp h) cc_X1_128 hc_148.1 hc_148.2 (by decide) rfl rfl ⟨by decide, by decide⟩ ⟨by decide, by decide⟩ rfl (Nat.le_of_ble_eq_true rfl) dX1_searchBlocks_148 (fun S_13 h => ?_)
        exact cg_sub [0, 1, 2, 3, 4, 5, 6, 7, 8] rfl (tb_X1_searchBlocks_151 C  hR17 hR94 x0 x1 x2 x3 x4 x5 x6 x7 x8 S_13 h)
set_option maxRecDepth 20000 in
theorem tl_X1_searchBlocks_94 (C : cC p s m args meth c cX1_searchBlocks 9 none A D Y tp dp RX1) {post : cS → Prop} {R17 : Nat → Nat → Nat → Nat → Int32 → Int32 → Int32 → cS → Prop} (hR17 : ∀ (x0 : Nat) (x1 : Nat) (x2 : Nat) (x3 : Nat) (x4 : Int32) (x5 : Int32) (x6 : Int32) (S : cS), R17 x0 x1 x2 x3 x4 x5 x6 S → cG p l e (cRm 5 0 0 113) s m args below meth c A D Y 9 (MQ below (cQv post D Y A) args s 0 0 A) 0 0 17 [(0, .ref x0), (1, .ref x1), (2, .ref x2), (3, .ref x3), (4, .int x4), (5, .int x5), (6, .int x6)] [] S) (x0 : Nat) (x1 : Nat) (x2 : Nat) (x3 : Nat) (x4 : Int32) (x5 : Int32) (x6 : Int32) (x7 : Int32) (x8 : Int32) (S : cS) (h : k_X1_searchBlocks_94L post dp R17 x0 x1 x2 x3 x4 x5 x6 x7 x8 S) : cG p l e (cRm 5 0 0 113) s m args below meth c A D Y 9 (MQ below (cQv post D Y A) args s 0 0 A) 0 0 94 [(0, .ref x0), (1, .ref x1), (2, .ref x2), (3, .ref x3), (4, .int x4), (5, .int x5), (6, .int x6), (7, .int x7), (8, .int x8)] [] S :=
  h (fun y => cG p l e (cRm 5 0 0 113) s m args below meth c A D Y 9 (MQ below (cQv post D Y A) args s 0 0 A) 0 0 94 [(0, .ref (y.1)), (1, .ref (y.2.1)), (2, .ref (y.2.2.1)), (3, .ref (y.2.2.2.1)), (4, .int (y.2.2.2.2.1)), (5, .int (y.2.2.2.2.2.1)), (6, .int (y.2.2.2.2.2.2.1)), (7, .int (y.2.2.2.2.2.2.2.1)), (8, .int (y.2.2.2.2.2.2.2.2.1))] [] (y.2.2.2.2.2.2.2.2.2)) (fun y hy => tb_X1_searchBlocks_94 C  hR17 (fun b0 b1 b2 b3 b4 b5 b6 b7 b8 S z => z) (y.1) (y.2.1) (y.2.2.1) (y.2.2.2.1) (y.2.2.2.2.1) (y.2.2.2.2.2.1) (y.2.2.2.2.2.2.1) (y.2.2.2.2.2.2.2.1) (y.2.2.2.2.2.2.2.2.1) (y.2.2.2.2.2.2.2.2.2) hy)
set_option maxRecDepth 20000 in
theorem tb_X1_searchBlocks_90 (C : cC p s m args meth c cX1_searchBlocks 9 none A D Y tp dp RX1) {post : cS → Prop} {R17 : Nat → Nat → Nat → Nat → Int32 → Int32 → Int32 → cS → Prop} (hR17 : ∀ (x0 : Nat) (x1 : Nat) (x2 : Nat) (x3 : Nat) (x4 : Int32) (x5 : Int32) (x6 : Int32) (S : cS), R17 x0 x1 x2 x3 x4 x5 x6 S → cG p l e (cRm 5 0 0 113) s m args below meth c A D Y 9 (MQ below (cQv post D Y A) args s 0 0 A) 0 0 17 [(0, .ref x0), (1, .ref x1), (2, .ref x2), (3, .ref x3), (4, .int x4), (5, .int x5), (6, .int x6)] [] S) (x0 : Nat) (x1 : Nat) (x2 : Nat) (x3 : Nat) (x4 : Int32) (x5 : Int32) (x6 : Int32) (x7 : Int32) (S : cS) (h : k_X1_searchBlocks_90 post dp R17 x0 x1 x2 x3 x4 x5 x6 x7 S) : cG p l e (cRm 5 0 0 113) s m args below meth c A D Y 9 (MQ below (cQv post D Y A) args s 0 0 A) 0 0 90 [(0, .ref x0), (1, .ref x1), (2, .ref x2), (3, .ref x3), (4, .int x4), (5, .int x5), (6, .int x6), (7, .int x7)] [] S := by
  unfold k_X1_searchBlocks_90 at h
  refine cg_iload C 6 rfl dX1_searchBlocks_90 ?_
  refine cg_istore C (lv' := [(8, .int x6), (0, .ref x0), (1, .ref x1), (2, .ref x2), (3, .ref x3), (4, .int x4), (5, .int x5), (6, .int x6), (7, .int x7)]) (Nat.le_of_ble_eq_true rfl) rfl dX1_searchBlocks_92 ?_
  exact cg_sub [1, 2, 3, 4, 5, 6, 7, 8, 0] rfl (tl_X1_searchBlocks_94 C  hR17 x0 x1 x2 x3 x4 x5 x6 x7 x6 S h)
set_option maxRecDepth 20000 in
theorem tb_X1_searchBlocks_17 (C : cC p s m args meth c cX1_searchBlocks 9 none A D Y tp dp RX1) {post : cS → Prop} {R17 : Nat → Nat → Nat → Nat → Int32 → Int32 → Int32 → cS → Prop} (hR17 : ∀ (x0 : Nat) (x1 : Nat) (x2 : Nat) (x3 : Nat) (x4 : Int32) (x5 : Int32) (x6 : Int32) (S : cS), R17 x0 x1 x2 x3 x4 x5 x6 S → cG p l e (cRm 5 0 0 113) s m args below meth c A D Y 9 (MQ below (cQv post D Y A) args s 0 0 A) 0 0 17 [(0, .ref x0), (1, .ref x1), (2, .ref x2), (3, .ref x3), (4, .int x4), (5, .int x5), (6, .int x6)] [] S) (x0 : Nat) (x1 : Nat) (x2 : Nat) (x3 : Nat) (x4 : Int32) (x5 : Int32) (x6 : Int32) (S : cS) (h : k_X1_searchBlocks_17 post dp R17 x0 x1 x2 x3 x4 x5 x6 S) : cG p l e (cRm 5 0 0 113) s m args below meth c A D Y 9 (MQ below (cQv post D Y A) args s 0 0 A) 0 0 17 [(0, .ref x0), (1, .ref x1), (2, .ref x2), (3, .ref x3), (4, .int x4), (5, .int x5), (6, .int x6)] [] S := by
  unfold k_X1_searchBlocks_17 at h
  refine cg_iload C 6 rfl dX1_searchBlocks_17 ?_
  refine cg_iload C 5 rfl dX1_searchBlocks_19 ?_
  refine cg_icmp_ge C 163 (by decide) dX1_searchBlocks_21 (fun c_ => ?_) (fun c_ => ?_)
  · have h := h.1 c_
    exact cg_vret C h dX1_searchBlocks_163 (by decide) (by decide)
  · have h := h.2 c_
    refine cg_iload C 6 rfl dX1_searchBlocks_24 ?_
    refine cg_iconst C (x := nI 4) rfl dX1_searchBlocks_26 ?_
    refine cg_iadd C dX1_searchBlocks_27 ?_
    refine cg_iload C 5 rfl dX1_searchBlocks_28 ?_
    refine cg_mmin C cmmin_X1_95 cmmin_s cmm_i cmmin_c (Nat.le_of_ble_eq_true rfl) (Nat.le_of_ble_eq_true rfl) (by decide) (by decide) dX1_searchBlocks_30 ?_
    refine cg_nmI (fun x7_4 e_x7_4 => ?_)
    have h := h x7_4 e_x7_4
    refine cg_istore C (lv' := [(7, .int x7_4), (0, .ref x0), (1, .ref x1), (2, .ref x2), (3, .ref x3), (4, .int x4), (5, .int x5), (6, .int x6)]) (Nat.le_of_ble_eq_true rfl) rfl dX1_searchBlocks_33 ?_
    refine cg_aload_n C (i := 0) rfl 1 rfl dX1_searchBlocks_35 ?_
    obtain ⟨hc_36, h⟩ := h
    refine cg_get C (k := 1) (j := 1) (.int (ci S 33 x0)) hc_36.1 hc_36.2 (by decide) rfl (by decide) rfl rfl cWs_wsX10 cl_X1_9 rfl dX1_searchBlocks_36 ?_
    refine cg_if_le C 90 (by decide) dX1_searchBlocks_39 (fun c_ => ?_) (fun c_ => ?_)
    · have h := h.1 c_
      exact cg_sub [1, 2, 3, 4, 5, 6, 7, 0] rfl (tb_X1_searchBlocks_90 C  hR17 x0 x1 x2 x3 x4 x5 x6 x7_4 S h)
    · have h := h.2 c_
      refine cg_aload_n C (i := 0) rfl 1 rfl dX1_searchBlocks_42 ?_
      obtain ⟨hc_43, h⟩ := h
      refine cg_get C (k := 1) (j := 1) (.int (ci S 33 x0)) hc_43.1 hc_43.2 (by decide) rfl (by decide) rfl rfl cWs_wsX10 cl_X1_9 rfl dX1_searchBlocks_43 ?_
      refine cg_iload C 5 rfl dX1_searchBlocks_46 ?_
      refine cg_icmp_lt C 90 (by decide) dX1_searchBlocks_48 (fun c_ => ?_) (fun c_ => ?_)
      · have h := h.1 c_
        exact cg_sub [1, 2, 3, 4, 5, 6, 7, 0] rfl (tb_X1_searchBlocks_90 C  hR17 x0 x1 x2 x3 x4 x5 x6 x7_4 S h)
      · have h := h.2 c_
        refine cg_aload_n C (i := 0) rfl 1 rfl dX1_searchBlocks_51 ?_
        obtain ⟨hc_52, h⟩ := h
        obtain ⟨b14, hb_b14, h⟩ := h
        refine cg_get C (k := 1) (j := 0) (.ref b14) hc_52.1 hc_52.2 (by decide) rfl (by decide) rfl (show cV _ 1 0 x0 = _ from congrArg va_rf hb_b14) cWs_wsX10 cl_X1_54 rfl dX1_searchBlocks_52 ?_
        refine cg_aload_n C (i := 1) rfl 2 rfl dX1_searchBlocks_55 ?_
        refine cg_iload C 7 rfl dX1_searchBlocks_56 ?_
        refine cg_iload C 0 rfl dX1_searchBlocks_58 ?_
        obtain ⟨hc_60, h⟩ := h
        refine cg_calli C (t_X7_boundOf l b14 x1 x6 x7_4 S dp h) cc_X1_101 hc_60.1 hc_60.2 (by decide) rfl rfl ⟨by decide, by decide⟩ ⟨by decide, by decide⟩ rfl (Nat.le_of_ble_eq_true rfl) dX1_searchBlocks_60 (fun r_15 S_15 h => ?_)
        refine cg_aload_n C (i := 0) rfl 1 rfl dX1_searchBlocks_63 ?_
        obtain ⟨hc_64, h⟩ := h
        obtain ⟨b16, hb_b16, h⟩ := h
        refine cg_get C (k := 1) (j := 3) (.ref b16) hc_64.1 hc_64.2 (by decide) rfl (by decide) rfl (show cV _ 1 3 x0 = _ from congrArg va_rf hb_b16) cWs_wsX10 cl_X1_19 rfl dX1_searchBlocks_64 ?_
        refine cg_aload_n C (i := 0) rfl 1 rfl dX1_searchBlocks_67 ?_
        obtain ⟨hc_68, h⟩ := h
        refine cg_get C (k := 1) (j := 1) (.int (ci S_15 33 x0)) hc_68.1 hc_68.2 (by decide) rfl (by decide) rfl rfl cWs_wsX10 cl_X1_9 rfl dX1_searchBlocks_68 ?_
        refine cg_iconst C (x := nI 1) rfl dX1_searchBlocks_71 ?_
        refine cg_isub C dX1_searchBlocks_72 ?_
        obtain ⟨hc_73, h⟩ := h
        refine cg_ialoadR C hc_73 dX1_searchBlocks_73 ?_
        refine cg_icmp_gt C 90 (by decide) dX1_searchBlocks_74 (fun c_ => ?_) (fun c_ => ?_)
        · have h := h.1 c_
          exact cg_sub [1, 2, 3, 4, 5, 6, 7, 0] rfl (tb_X1_searchBlocks_90 C  hR17 x0 x1 x2 x3 x4 x5 x6 x7_4 S_15 h)
        · have h := h.2 c_
          refine cg_aload_n C (i := 0) rfl 1 rfl dX1_searchBlocks_77 ?_
          refine cg_dup C rfl dX1_searchBlocks_78 ?_
          obtain ⟨hc_79, h⟩ := h
          refine cg_get C (k := 1) (j := 4) (.int (ci S_15 36 x0)) hc_79.1 hc_79.2 (by decide) rfl (by decide) rfl rfl cWs_wsX10 cl_X1_22 rfl dX1_searchBlocks_79 ?_
          refine cg_iconst C (x := nI 1) rfl dX1_searchBlocks_82 ?_
          refine cg_iadd C dX1_searchBlocks_83 ?_
          obtain ⟨hc_84, h⟩ := h
          refine cg_puti C (k := 1) (j := 4) (ty := tyX1) (fty := .int) hc_84.1 hc_84.2 (by decide) rfl (by decide) rfl (by decide) rfl cWs_wsX10 tyX1_ok nmX1 cl_X1_22 rfl rfl rfl rfl rfl dX1_searchBlocks_84 ?_
          refine cg_nm (fun S17 e_S17 => ?_)
          have h := h S17 e_S17
          refine cg_goto C 157 (by decide) dX1_searchBlocks_87 ?_
          exact cg_sub [1, 2, 3, 4, 5, 6, 7] rfl (tb_X1_searchBlocks_157 C  hR17 x0 x1 x2 x3 x4 x5 x6 S17 h)
set_option maxRecDepth 20000 in
theorem tl_X1_searchBlocks_17 (C : cC p s m args meth c cX1_searchBlocks 9 none A D Y tp dp RX1) {post : cS → Prop}   (x0 : Nat) (x1 : Nat) (x2 : Nat) (x3 : Nat) (x4 : Int32) (x5 : Int32) (x6 : Int32) (S : cS) (h : k_X1_searchBlocks_17L post dp  x0 x1 x2 x3 x4 x5 x6 S) : cG p l e (cRm 5 0 0 113) s m args below meth c A D Y 9 (MQ below (cQv post D Y A) args s 0 0 A) 0 0 17 [(0, .ref x0), (1, .ref x1), (2, .ref x2), (3, .ref x3), (4, .int x4), (5, .int x5), (6, .int x6)] [] S :=
  h (fun y => cG p l e (cRm 5 0 0 113) s m args below meth c A D Y 9 (MQ below (cQv post D Y A) args s 0 0 A) 0 0 17 [(0, .ref (y.1)), (1, .ref (y.2.1)), (2, .ref (y.2.2.1)), (3, .ref (y.2.2.2.1)), (4, .int (y.2.2.2.2.1)), (5, .int (y.2.2.2.2.2.1)), (6, .int (y.2.2.2.2.2.2.1))] [] (y.2.2.2.2.2.2.2)) (fun y hy => tb_X1_searchBlocks_17 C   (fun b0 b1 b2 b3 b4 b5 b6 S z => z) (y.1) (y.2.1) (y.2.2.1) (y.2.2.2.1) (y.2.2.2.2.1) (y.2.2.2.2.2.1) (y.2.2.2.2.2.2.1) (y.2.2.2.2.2.2.2) hy)
end S_X1_searchBlocks
set_option maxHeartbeats 1000000 in
set_option maxRecDepth 20000 in
theorem t_X1_searchBlocks (l : Launch) (x0 : Nat) (x1 : Nat) (x2 : Nat) (x3 : Nat) (x4 : Int32) (S : cS) (dp : Nat) {P : cS → Prop} (h : k_X1_searchBlocks P dp x0 x1 x2 x3 x4 S) : cMet (cQv P) l yX1_searchBlocks cX1_searchBlocks 9 none 5 0 0 113 [.ref x0, .ref x1, .ref x2, .ref x3, .int x4] S dp := by
  intro D Y tp sz
  refine cg_body (by decide +kernel) (Nat.le_of_ble_eq_true rfl) ?_
  intro p e s m args below meth c C
  generalize va_A (cWd Y S) sz = A at C ⊢
  have C : cC p s m args meth c cX1_searchBlocks 9 none A D Y tp dp RX1 := C
  refine cg_lv (lv' := [(0, .ref x0), (1, .ref x1), (2, .ref x2), (3, .ref x3), (4, .int x4)]) rfl ?_
  unfold k_X1_searchBlocks at h
  refine cg_aload_n C (i := 2) rfl 2 rfl dX1_searchBlocks_0 ?_
  obtain ⟨hc_1, h⟩ := h
  obtain ⟨b1, hb_b1, h⟩ := h
  refine cg_get C (k := 2) (j := 0) (.ref b1) hc_1.1 hc_1.2 (by decide) rfl (by decide) rfl (show cV _ 2 0 x2 = _ from congrArg va_rf hb_b1) cWs_wsX20 cl_X1_74 rfl dX1_searchBlocks_1 ?_
  obtain ⟨hc_4, h⟩ := h
  refine cg_calli C (t_X8_size l b1 S dp h) cc_X1_92 hc_4.1 hc_4.2 (by decide) rfl rfl ⟨by decide, by decide⟩ ⟨by decide, by decide⟩ rfl (Nat.le_of_ble_eq_true rfl) dX1_searchBlocks_4 (fun r_2 S_2 h => ?_)
  refine cg_aload_n C (i := 3) rfl 3 rfl dX1_searchBlocks_7 ?_
  obtain ⟨hc_8, h⟩ := h
  refine cg_alen C hc_8.1 hc_8.2 (by decide) (by decide) dX1_searchBlocks_8 ?_
  refine cg_mmin C cmmin_X1_95 cmmin_s cmm_i cmmin_c (Nat.le_of_ble_eq_true rfl) (Nat.le_of_ble_eq_true rfl) (by decide) (by decide) dX1_searchBlocks_9 ?_
  refine cg_nmI (fun x5_3 e_x5_3 => ?_)
  have h := h x5_3 e_x5_3
  refine cg_istore C (lv' := [(5, .int x5_3), (0, .ref x0), (1, .ref x1), (2, .ref x2), (3, .ref x3), (4, .int x4)]) (Nat.le_of_ble_eq_true rfl) rfl dX1_searchBlocks_12 ?_
  refine cg_iconst C (x := nI 0) rfl dX1_searchBlocks_14 ?_
  refine cg_istore C (lv' := [(6, .int ((nI 0))), (5, .int x5_3), (0, .ref x0), (1, .ref x1), (2, .ref x2), (3, .ref x3), (4, .int x4)]) (Nat.le_of_ble_eq_true rfl) rfl dX1_searchBlocks_15 ?_
  exact cg_sub [2, 3, 4, 5, 6, 1, 0] rfl (tl_X1_searchBlocks_17 C   x0 x1 x2 x3 x4 x5_3 (((nI 0))) S_2 h)
def k_X1_search_91 (Q : Int32 → cS → Prop) (dp : Nat) (R27 : Nat → Nat → Nat → Int32 → Int32 → Int32 → cS → Prop) (x0 : Nat) (x1 : Nat) (x2 : Nat) (x3 : Int32) (x4 : Int32) (x5 : Int32) (S : cS) : Prop :=
∀ x5_9 : Int32, x5_9 = x5 + nI 1 → R27 x0 x1 x2 x3 x4 x5_9 S
def k_X1_search_27 (Q : Int32 → cS → Prop) (dp : Nat) (R27 : Nat → Nat → Nat → Int32 → Int32 → Int32 → cS → Prop) (x0 : Nat) (x1 : Nat) (x2 : Nat) (x3 : Int32) (x4 : Int32) (x5 : Int32) (S : cS) : Prop :=
cA S x1 10 ∧ (k_X10_size (fun r_6 S_6 => 
((r_6 ≤ x5 →
  cA S_6 x0 1 ∧ (Q ((ci S_6 33 x0)) S_6)) ∧
 (¬ r_6 ≤ x5 →
  cA S_6 x1 10 ∧ (k_X10_at (fun r_7 S_7 => 
  ((r_7 = none →
    k_X1_search_91 Q dp R27 x0 x1 x2 x3 x4 x5 S_7) ∧
   (∀ b8 : Nat, r_7 = some b8 →
    cA S_7 x0 1 ∧ ((∃ b10 : Nat, cr S_7 32 x0 = some b10 ∧ (cA S_7 b8 2 ∧ ((∃ b11 : Nat, cr S_7 64 b8 = some b11 ∧ (cA S_7 b10 7 ∧ (k_X7_readSegment (fun S_12 => 
    cA S_12 b8 2 ∧ ((∃ b13 : Nat, cr S_12 64 b8 = some b13 ∧ (cA S_12 x0 1 ∧ (k_X1_entryOf (fun r_14 S_14 => 
    cA S_14 x0 1 ∧ ((∃ b15 : Nat, cr S_14 43 x0 = some b15 ∧ (cX S_14 b15 18 r_14 ∧ ((∃ b16 : Nat, cO S_14 b15 (r_14).toNatClampNeg = some b16 ∧ (cA S_14 x0 1 ∧ (k_X1_searchBlocks (fun S_17 => 
    k_X1_search_91 Q dp R27 x0 x1 x2 x3 x4 x5 S_17) dp x0 x2 b8 b16 x4 S_14)))))))) dp x0 x2 x3 b13 S_12))))) dp b10 x2 b11 S_7)))))))))) dp x1 x5 S_6)))) dp x1 S)
def k_X1_search_27L (Q : Int32 → cS → Prop) (dp : Nat)  (x0 : Nat) (x1 : Nat) (x2 : Nat) (x3 : Int32) (x4 : Int32) (x5 : Int32) (S : cS) : Prop :=
  lfp (X := Nat × Nat × Nat × Int32 × Int32 × Int32 × cS) (fun P y => k_X1_search_27 Q dp  (fun b0 b1 b2 b3 b4 b5 S => P (b0, b1, b2, b3, b4, b5, S)) y.1 y.2.1 y.2.2.1 y.2.2.2.1 y.2.2.2.2.1 y.2.2.2.2.2.1 y.2.2.2.2.2.2) (x0, x1, x2, x3, x4, x5, S)
def k_X1_search (Q : Int32 → cS → Prop) (dp : Nat) (x0 : Nat) (x1 : Nat) (x2 : Nat) (x3 : Int32) (x4 : Int32) (S : cS) : Prop :=
cA S x0 1 ∧ (∀ S1 : cS, S1 = cSi S 33 x0 ((nI 0)) → cA S1 x0 1 ∧ (∀ S2 : cS, S2 = cSi S1 36 x0 ((nI 0)) → cA S2 x0 1 ∧ (∀ S3 : cS, S3 = cSi S2 37 x0 ((nI 0)) → cA S3 x0 1 ∧ ((∃ b4 : Nat, cr S3 32 x0 = some b4 ∧ (cA S3 b4 7 ∧ (k_X7_readRarities (fun S_5 => 
k_X1_search_27L Q dp  x0 x1 x2 x3 x4 (((nI 0))) S_5) dp b4 x2 x1 S3)))))))
section S_X1_search
variable {p : Program} {l : Launch} {e : Env} {s : State} {m : MethodId} {args : Array Value} {below : List Frame} {meth : Method} {c : Code} {A : Nat → Prop} {D : va_G} {Y : cY} {tp dp : Nat}
set_option maxRecDepth 20000 in
theorem tb_X1_search_91 (C : cC p s m args meth c cX1_search 8 (some .int) A D Y tp dp RX1) {post : Int32 → cS → Prop} {R27 : Nat → Nat → Nat → Int32 → Int32 → Int32 → cS → Prop} (hR27 : ∀ (x0 : Nat) (x1 : Nat) (x2 : Nat) (x3 : Int32) (x4 : Int32) (x5 : Int32) (S : cS), R27 x0 x1 x2 x3 x4 x5 S → cG p l e (cRm 7 0 0 168) s m args below meth c A D Y 8 (MQ below (cQi post D Y A) args s 0 0 A) 0 0 27 [(0, .ref x0), (1, .ref x1), (2, .ref x2), (3, .int x3), (4, .int x4), (5, .int x5)] [] S) (x0 : Nat) (x1 : Nat) (x2 : Nat) (x3 : Int32) (x4 : Int32) (x5 : Int32) (S : cS) (h : k_X1_search_91 post dp R27 x0 x1 x2 x3 x4 x5 S) : cG p l e (cRm 7 0 0 168) s m args below meth c A D Y 8 (MQ below (cQi post D Y A) args s 0 0 A) 0 0 91 [(0, .ref x0), (1, .ref x1), (2, .ref x2), (3, .int x3), (4, .int x4), (5, .int x5)] [] S := by
  unfold k_X1_search_91 at h
  obtain ⟨x5_9, e_x5_9⟩ : ∃ z : Int32, z = x5 + nI 1 := ⟨_, rfl⟩
  have h := h x5_9 e_x5_9
  refine cg_iinc C (lv' := [(5, .int x5_9), (0, .ref x0), (1, .ref x1), (2, .ref x2), (3, .int x3), (4, .int x4)]) 5 rfl (by rw [e_x5_9]; rfl) (Nat.le_of_ble_eq_true rfl) rfl dX1_search_91 ?_
  refine cg_goto C 27 (by decide) dX1_search_94 ?_
  exact cg_sub [1, 2, 3, 4, 5, 0] rfl (hR27 x0 x1 x2 x3 x4 x5_9 S h)
set_option maxRecDepth 20000 in
theorem tb_X1_search_27 (C : cC p s m args meth c cX1_search 8 (some .int) A D Y tp dp RX1) {post : Int32 → cS → Prop} {R27 : Nat → Nat → Nat → Int32 → Int32 → Int32 → cS → Prop} (hR27 : ∀ (x0 : Nat) (x1 : Nat) (x2 : Nat) (x3 : Int32) (x4 : Int32) (x5 : Int32) (S : cS), R27 x0 x1 x2 x3 x4 x5 S → cG p l e (cRm 7 0 0 168) s m args below meth c A D Y 8 (MQ below (cQi post D Y A) args s 0 0 A) 0 0 27 [(0, .ref x0), (1, .ref x1), (2, .ref x2), (3, .int x3), (4, .int x4), (5, .int x5)] [] S) (x0 : Nat) (x1 : Nat) (x2 : Nat) (x3 : Int32) (x4 : Int32) (x5 : Int32) (S : cS) (h : k_X1_search_27 post dp R27 x0 x1 x2 x3 x4 x5 S) : cG p l e (cRm 7 0 0 168) s m args below meth c A D Y 8 (MQ below (cQi post D Y A) args s 0 0 A) 0 0 27 [(0, .ref x0), (1, .ref x1), (2, .ref x2), (3, .int x3), (4, .int x4), (5, .int x5)] [] S := by
  unfold k_X1_search_27 at h
  refine cg_iload C 5 rfl dX1_search_27 ?_
  refine cg_aload_n C (i := 1) rfl 1 rfl dX1_search_29 ?_
  obtain ⟨hc_30, h⟩ := h
  refine cg_calli C (t_X10_size l x1 S dp h) cc_X1_64 hc_30.1 hc_30.2 (by decide) rfl rfl ⟨by decide, by decide⟩ ⟨by decide, by decide⟩ rfl (Nat.le_of_ble_eq_true rfl) dX1_search_30 (fun r_6 S_6 h => ?_)
  refine cg_icmp_ge C 97 (by decide) dX1_search_33 (fun c_ => ?_) (fun c_ => ?_)
  · have h := h.1 c_
    refine cg_aload_n C (i := 0) rfl 0 rfl dX1_search_97 ?_
    obtain ⟨hc_98, h⟩ := h
    refine cg_get C (k := 1) (j := 1) (.int (ci S_6 33 x0)) hc_98.1 hc_98.2 (by decide) rfl (by decide) rfl rfl cWs_wsX10 cl_X1_9 rfl dX1_search_98 ?_
    exact cg_iret C h dX1_search_101 (by decide) (by decide)
  · have h := h.2 c_
    refine cg_aload_n C (i := 1) rfl 1 rfl dX1_search_36 ?_
    refine cg_iload C 5 rfl dX1_search_37 ?_
    obtain ⟨hc_39, h⟩ := h
    refine cg_callq C (t_X10_at l x1 x5 S_6 dp h) cc_X1_70 hc_39.1 hc_39.2 (by decide) rfl rfl ⟨by decide, by decide⟩ ⟨by decide, by decide⟩ rfl (Nat.le_of_ble_eq_true rfl) dX1_search_39 (fun r_7 S_7 h => ?_)
    obtain ho | ⟨b8, ho⟩ := c_opt r_7
    · replace h := h.1 ho
      subst ho
      refine cg_cast (.null) rfl ?_
      refine cg_astoreN (lv' := [(6, .null), (0, .ref x0), (1, .ref x1), (2, .ref x2), (3, .int x3), (4, .int x4), (5, .int x5)]) C (Nat.le_of_ble_eq_true rfl) rfl dX1_search_42 ?_
      refine cg_aloadN C 0 rfl dX1_search_44 ?_
      refine cg_ifnullN C 91 (by decide) dX1_search_46 ?_
      exact cg_sub [1, 2, 3, 4, 5, 6] rfl (tb_X1_search_91 C  hR27 x0 x1 x2 x3 x4 x5 S_7 h)
    · replace h := h.2 b8 ho
      subst ho
      refine cg_cast (.ref b8) rfl ?_
      refine cg_astore (lv' := [(6, .ref b8), (0, .ref x0), (1, .ref x1), (2, .ref x2), (3, .int x3), (4, .int x4), (5, .int x5)]) C (Nat.le_of_ble_eq_true rfl) rfl dX1_search_42 ?_
      refine cg_aload C 0 rfl dX1_search_44 ?_
      refine cg_ifnull C dX1_search_46 ?_
      refine cg_aload_n C (i := 0) rfl 1 rfl dX1_search_49 ?_
      obtain ⟨hc_50, h⟩ := h
      obtain ⟨b10, hb_b10, h⟩ := h
      refine cg_get C (k := 1) (j := 0) (.ref b10) hc_50.1 hc_50.2 (by decide) rfl (by decide) rfl (show cV _ 1 0 x0 = _ from congrArg va_rf hb_b10) cWs_wsX10 cl_X1_54 rfl dX1_search_50 ?_
      refine cg_aload_n C (i := 2) rfl 3 rfl dX1_search_53 ?_
      refine cg_aload C 0 rfl dX1_search_54 ?_
      obtain ⟨hc_56, h⟩ := h
      obtain ⟨b11, hb_b11, h⟩ := h
      refine cg_get C (k := 2) (j := 0) (.ref b11) hc_56.1 hc_56.2 (by decide) rfl (by decide) rfl (show cV _ 2 0 b8 = _ from congrArg va_rf hb_b11) cWs_wsX20 cl_X1_74 rfl dX1_search_56 ?_
      obtain ⟨hc_59, h⟩ := h
      refine cg_callv C (t_X7_readSegment l b10 x2 b11 S_7 dp h) cc_X1_80 hc_59.1 hc_59.2 (by decide) rfl rfl ⟨by decide, by decide⟩ ⟨by decide, by decide⟩ rfl (Nat.le_of_ble_eq_true rfl) dX1_search_59 (fun S_12 h => ?_)
      refine cg_aload_n C (i := 0) rfl 1 rfl dX1_search_62 ?_
      refine cg_aload_n C (i := 2) rfl 3 rfl dX1_search_63 ?_
      refine cg_iload_n C (i := 3) rfl 4 rfl dX1_search_64 ?_
      refine cg_aload C 0 rfl dX1_search_65 ?_
      obtain ⟨hc_67, h⟩ := h
      obtain ⟨b13, hb_b13, h⟩ := h
      refine cg_get C (k := 2) (j := 0) (.ref b13) hc_67.1 hc_67.2 (by decide) rfl (by decide) rfl (show cV _ 2 0 b8 = _ from congrArg va_rf hb_b13) cWs_wsX20 cl_X1_74 rfl dX1_search_67 ?_
      obtain ⟨hc_70, h⟩ := h
      refine cg_calli C (t_X1_entryOf l x0 x2 x3 b13 S_12 dp h) cc_X1_84 hc_70.1 hc_70.2 (by decide) rfl rfl ⟨by decide, by decide⟩ ⟨by decide, by decide⟩ rfl (Nat.le_of_ble_eq_true rfl) dX1_search_70 (fun r_14 S_14 h => ?_)
      refine cg_istore C (lv' := [(7, .int r_14), (6, .ref b8), (0, .ref x0), (1, .ref x1), (2, .ref x2), (3, .int x3), (4, .int x4), (5, .int x5)]) (Nat.le_of_ble_eq_true rfl) rfl dX1_search_73 ?_
      refine cg_aload_n C (i := 0) rfl 2 rfl dX1_search_75 ?_
      refine cg_aload_n C (i := 2) rfl 4 rfl dX1_search_76 ?_
      refine cg_aload C 1 rfl dX1_search_77 ?_
      refine cg_aload_n C (i := 0) rfl 2 rfl dX1_search_79 ?_
      obtain ⟨hc_80, h⟩ := h
      obtain ⟨b15, hb_b15, h⟩ := h
      refine cg_get C (k := 1) (j := 11) (.ref b15) hc_80.1 hc_80.2 (by decide) rfl (by decide) rfl (show cV _ 1 11 x0 = _ from congrArg va_rf hb_b15) cWs_wsX10 cl_X1_45 rfl dX1_search_80 ?_
      refine cg_iload C 0 rfl dX1_search_83 ?_
      obtain ⟨hc_85, h⟩ := h
      obtain ⟨b16, hb_b16, h⟩ := h
      refine cg_aaload2R C hc_85 hb_b16 dX1_search_85 ?_
      refine cg_iload C 6 rfl dX1_search_86 ?_
      obtain ⟨hc_88, h⟩ := h
      refine cg_callv C (t_X1_searchBlocks l x0 x2 b8 b16 x4 S_14 dp h) cc_X1_88 hc_88.1 hc_88.2 (by decide) rfl rfl ⟨by decide, by decide⟩ ⟨by decide, by decide⟩ rfl (Nat.le_of_ble_eq_true rfl) dX1_search_88 (fun S_17 h => ?_)
      exact cg_sub [2, 3, 4, 5, 6, 7] rfl (tb_X1_search_91 C  hR27 x0 x1 x2 x3 x4 x5 S_17 h)
set_option maxRecDepth 20000 in
theorem tl_X1_search_27 (C : cC p s m args meth c cX1_search 8 (some .int) A D Y tp dp RX1) {post : Int32 → cS → Prop}   (x0 : Nat) (x1 : Nat) (x2 : Nat) (x3 : Int32) (x4 : Int32) (x5 : Int32) (S : cS) (h : k_X1_search_27L post dp  x0 x1 x2 x3 x4 x5 S) : cG p l e (cRm 7 0 0 168) s m args below meth c A D Y 8 (MQ below (cQi post D Y A) args s 0 0 A) 0 0 27 [(0, .ref x0), (1, .ref x1), (2, .ref x2), (3, .int x3), (4, .int x4), (5, .int x5)] [] S :=
  h (fun y => cG p l e (cRm 7 0 0 168) s m args below meth c A D Y 8 (MQ below (cQi post D Y A) args s 0 0 A) 0 0 27 [(0, .ref (y.1)), (1, .ref (y.2.1)), (2, .ref (y.2.2.1)), (3, .int (y.2.2.2.1)), (4, .int (y.2.2.2.2.1)), (5, .int (y.2.2.2.2.2.1))] [] (y.2.2.2.2.2.2)) (fun y hy => tb_X1_search_27 C   (fun b0 b1 b2 b3 b4 b5 S z => z) (y.1) (y.2.1) (y.2.2.1) (y.2.2.2.1) (y.2.2.2.2.1) (y.2.2.2.2.2.1) (y.2.2.2.2.2.2) hy)
end S_X1_search
set_option maxHeartbeats 1000000 in
set_option maxRecDepth 20000 in
theorem t_X1_search (l : Launch) (x0 : Nat) (x1 : Nat) (x2 : Nat) (x3 : Int32) (x4 : Int32) (S : cS) (dp : Nat) {P : Int32 → cS → Prop} (h : k_X1_search P dp x0 x1 x2 x3 x4 S) : cMet (cQi P) l yX1_search cX1_search 8 (some .int) 7 0 0 168 [.ref x0, .ref x1, .ref x2, .int x3, .int x4] S dp := by
  intro D Y tp sz
  refine cg_body (by decide +kernel) (Nat.le_of_ble_eq_true rfl) ?_
  intro p e s m args below meth c C
  generalize va_A (cWd Y S) sz = A at C ⊢
  have C : cC p s m args meth c cX1_search 8 (some .int) A D Y tp dp RX1 := C
  refine cg_lv (lv' := [(0, .ref x0), (1, .ref x1), (2, .ref x2), (3, .int x3), (4, .int x4)]) rfl ?_
  unfold k_X1_search at h
  refine cg_aload_n C (i := 0) rfl 0 rfl dX1_search_0 ?_
  refine cg_iconst C (x := nI 0) rfl dX1_search_1 ?_
  obtain ⟨hc_2, h⟩ := h
  refine cg_puti C (k := 1) (j := 1) (ty := tyX1) (fty := .int) hc_2.1 hc_2.2 (by decide) rfl (by decide) rfl (by decide) rfl cWs_wsX10 tyX1_ok nmX1 cl_X1_9 rfl rfl rfl rfl rfl dX1_search_2 ?_
  refine cg_nm (fun S1 e_S1 => ?_)
  have h := h S1 e_S1
  refine cg_aload_n C (i := 0) rfl 0 rfl dX1_search_5 ?_
  refine cg_iconst C (x := nI 0) rfl dX1_search_6 ?_
  obtain ⟨hc_7, h⟩ := h
  refine cg_puti C (k := 1) (j := 4) (ty := tyX1) (fty := .int) hc_7.1 hc_7.2 (by decide) rfl (by decide) rfl (by decide) rfl cWs_wsX10 tyX1_ok nmX1 cl_X1_22 rfl rfl rfl rfl rfl dX1_search_7 ?_
  refine cg_nm (fun S2 e_S2 => ?_)
  have h := h S2 e_S2
  refine cg_aload_n C (i := 0) rfl 0 rfl dX1_search_10 ?_
  refine cg_iconst C (x := nI 0) rfl dX1_search_11 ?_
  obtain ⟨hc_12, h⟩ := h
  refine cg_puti C (k := 1) (j := 5) (ty := tyX1) (fty := .int) hc_12.1 hc_12.2 (by decide) rfl (by decide) rfl (by decide) rfl cWs_wsX10 tyX1_ok nmX1 cl_X1_25 rfl rfl rfl rfl rfl dX1_search_12 ?_
  refine cg_nm (fun S3 e_S3 => ?_)
  have h := h S3 e_S3
  refine cg_aload_n C (i := 0) rfl 0 rfl dX1_search_15 ?_
  obtain ⟨hc_16, h⟩ := h
  obtain ⟨b4, hb_b4, h⟩ := h
  refine cg_get C (k := 1) (j := 0) (.ref b4) hc_16.1 hc_16.2 (by decide) rfl (by decide) rfl (show cV _ 1 0 x0 = _ from congrArg va_rf hb_b4) cWs_wsX10 cl_X1_54 rfl dX1_search_16 ?_
  refine cg_aload_n C (i := 2) rfl 2 rfl dX1_search_19 ?_
  refine cg_aload_n C (i := 1) rfl 1 rfl dX1_search_20 ?_
  obtain ⟨hc_21, h⟩ := h
  refine cg_callv C (t_X7_readRarities l b4 x2 x1 S3 dp h) cc_X1_58 hc_21.1 hc_21.2 (by decide) rfl rfl ⟨by decide, by decide⟩ ⟨by decide, by decide⟩ rfl (Nat.le_of_ble_eq_true rfl) dX1_search_21 (fun S_5 h => ?_)
  refine cg_iconst C (x := nI 0) rfl dX1_search_24 ?_
  refine cg_istore C (lv' := [(5, .int ((nI 0))), (0, .ref x0), (1, .ref x1), (2, .ref x2), (3, .int x3), (4, .int x4)]) (Nat.le_of_ble_eq_true rfl) rfl dX1_search_25 ?_
  exact cg_sub [1, 2, 3, 4, 5, 0] rfl (tl_X1_search_27 C   x0 x1 x2 x3 x4 (((nI 0))) S_5 h)
def k_X9_placesOf_58 (Q : Int32 → cS → Prop) (dp : Nat) (R5 : Nat → Int64 → Int32 → Int32 → cS → Prop) (x0 : Nat) (x1 : Int64) (x3 : Int32) (x4 : Int32) (S : cS) : Prop :=
∀ x4_4 : Int32, x4_4 = x4 + nI 1 → R5 x0 x1 x3 x4_4 S
def k_X9_placesOf_5 (Q : Int32 → cS → Prop) (dp : Nat) (R5 : Nat → Int64 → Int32 → Int32 → cS → Prop) (x0 : Nat) (x1 : Int64) (x3 : Int32) (x4 : Int32) (S : cS) : Prop :=
cA S x0 9 ∧ (((((ci S 292 x0)) ≤ x4 →
  Q x3 S) ∧
 (¬ ((ci S 292 x0)) ≤ x4 →
  cA S x0 9 ∧ ((∃ b1 : Nat, cr S 290 x0 = some b1 ∧ (cA S b1 15 ∧ (((((nI (cn S b1))) ≤ x4 →
    Q x3 S) ∧
   (¬ ((nI (cn S b1))) ≤ x4 →
    cA S x0 9 ∧ ((∃ b2 : Nat, cr S 291 x0 = some b2 ∧ (cA S b2 14 ∧ (((((nI (cn S b2))) ≤ x4 →
      Q x3 S) ∧
     (¬ ((nI (cn S b2))) ≤ x4 →
      cA S x0 9 ∧ ((∃ b3 : Nat, cr S 290 x0 = some b3 ∧ (cX S b3 15 x4 ∧ (((¬ (cJ S b3 (x4).toNatClampNeg) = x1 →
        k_X9_placesOf_58 Q dp R5 x0 x1 x3 x4 S) ∧
       ((cJ S b3 (x4).toNatClampNeg) = x1 →
        cA S x0 9 ∧ ((∃ b5 : Nat, cr S 291 x0 = some b5 ∧ (cX S b5 14 x4 ∧ (∀ x3_6 : Int32, x3_6 = (x3 ||| ((((nI 1)) <<< (((cI S b5 (x4).toNatClampNeg)) &&& 31)))) → k_X9_placesOf_58 Q dp R5 x0 x1 x3_6 x4 S)))))))))))))))))))))))))
def k_X9_placesOf_5L (Q : Int32 → cS → Prop) (dp : Nat)  (x0 : Nat) (x1 : Int64) (x3 : Int32) (x4 : Int32) (S : cS) : Prop :=
  lfp (X := Nat × Int64 × Int32 × Int32 × cS) (fun P y => k_X9_placesOf_5 Q dp  (fun b0 b1 b2 b3 S => P (b0, b1, b2, b3, S)) y.1 y.2.1 y.2.2.1 y.2.2.2.1 y.2.2.2.2) (x0, x1, x3, x4, S)
def k_X9_placesOf (Q : Int32 → cS → Prop) (dp : Nat) (x0 : Nat) (x1 : Int64) (S : cS) : Prop :=
k_X9_placesOf_5L Q dp  x0 x1 (((nI 0))) (((nI 0))) S
section S_X9_placesOf
variable {p : Program} {l : Launch} {e : Env} {s : State} {m : MethodId} {args : Array Value} {below : List Frame} {meth : Method} {c : Code} {A : Nat → Prop} {D : va_G} {Y : cY} {tp dp : Nat}
set_option maxRecDepth 20000 in
theorem tb_X9_placesOf_58 (C : cC p s m args meth c cX9_placesOf 5 (some .int) A D Y tp dp RX9) {post : Int32 → cS → Prop} {R5 : Nat → Int64 → Int32 → Int32 → cS → Prop} (hR5 : ∀ (x0 : Nat) (x1 : Int64) (x3 : Int32) (x4 : Int32) (S : cS), R5 x0 x1 x3 x4 S → cG p l e (cRm 0 0 0 0) s m args below meth c A D Y 5 (MQ below (cQi post D Y A) args s 0 0 A) 0 0 5 [(0, .ref x0), (1, .long x1), (3, .int x3), (4, .int x4)] [] S) (x0 : Nat) (x1 : Int64) (x3 : Int32) (x4 : Int32) (S : cS) (h : k_X9_placesOf_58 post dp R5 x0 x1 x3 x4 S) : cG p l e (cRm 0 0 0 0) s m args below meth c A D Y 5 (MQ below (cQi post D Y A) args s 0 0 A) 0 0 58 [(0, .ref x0), (1, .long x1), (3, .int x3), (4, .int x4)] [] S := by
  unfold k_X9_placesOf_58 at h
  obtain ⟨x4_4, e_x4_4⟩ : ∃ z : Int32, z = x4 + nI 1 := ⟨_, rfl⟩
  have h := h x4_4 e_x4_4
  refine cg_iinc C (lv' := [(4, .int x4_4), (0, .ref x0), (1, .long x1), (3, .int x3)]) 3 rfl (by rw [e_x4_4]; rfl) (Nat.le_of_ble_eq_true rfl) rfl dX9_placesOf_58 ?_
  refine cg_goto C 5 (by decide) dX9_placesOf_61 ?_
  exact cg_sub [1, 2, 3, 0] rfl (hR5 x0 x1 x3 x4_4 S h)
set_option maxRecDepth 20000 in
theorem tb_X9_placesOf_5 (C : cC p s m args meth c cX9_placesOf 5 (some .int) A D Y tp dp RX9) {post : Int32 → cS → Prop} {R5 : Nat → Int64 → Int32 → Int32 → cS → Prop} (hR5 : ∀ (x0 : Nat) (x1 : Int64) (x3 : Int32) (x4 : Int32) (S : cS), R5 x0 x1 x3 x4 S → cG p l e (cRm 0 0 0 0) s m args below meth c A D Y 5 (MQ below (cQi post D Y A) args s 0 0 A) 0 0 5 [(0, .ref x0), (1, .long x1), (3, .int x3), (4, .int x4)] [] S) (x0 : Nat) (x1 : Int64) (x3 : Int32) (x4 : Int32) (S : cS) (h : k_X9_placesOf_5 post dp R5 x0 x1 x3 x4 S) : cG p l e (cRm 0 0 0 0) s m args below meth c A D Y 5 (MQ below (cQi post D Y A) args s 0 0 A) 0 0 5 [(0, .ref x0), (1, .long x1), (3, .int x3), (4, .int x4)] [] S := by
  unfold k_X9_placesOf_5 at h
  refine cg_iload C 3 rfl dX9_placesOf_5 ?_
  refine cg_aload_n C (i := 0) rfl 0 rfl dX9_placesOf_7 ?_
  obtain ⟨hc_8, h⟩ := h
  refine cg_get C (k := 9) (j := 4) (.int (ci S 292 x0)) hc_8.1 hc_8.2 (by decide) rfl (by decide) rfl rfl cWs_wsX90 cl_X9_26 rfl dX9_placesOf_8 ?_
  refine cg_icmp_ge C 64 (by decide) dX9_placesOf_11 (fun c_ => ?_) (fun c_ => ?_)
  · have h := h.1 c_
    refine cg_iload_n C (i := 3) rfl 2 rfl dX9_placesOf_64 ?_
    exact cg_iret C h dX9_placesOf_65 (by decide) (by decide)
  · have h := h.2 c_
    refine cg_iload C 3 rfl dX9_placesOf_14 ?_
    refine cg_aload_n C (i := 0) rfl 0 rfl dX9_placesOf_16 ?_
    obtain ⟨hc_17, h⟩ := h
    obtain ⟨b1, hb_b1, h⟩ := h
    refine cg_get C (k := 9) (j := 2) (.ref b1) hc_17.1 hc_17.2 (by decide) rfl (by decide) rfl (show cV _ 9 2 x0 = _ from congrArg va_rf hb_b1) cWs_wsX90 cl_X9_19 rfl dX9_placesOf_17 ?_
    obtain ⟨hc_20, h⟩ := h
    refine cg_alen C hc_20.1 hc_20.2 (by decide) (by decide) dX9_placesOf_20 ?_
    refine cg_icmp_ge C 64 (by decide) dX9_placesOf_21 (fun c_ => ?_) (fun c_ => ?_)
    · have h := h.1 c_
      refine cg_iload_n C (i := 3) rfl 2 rfl dX9_placesOf_64 ?_
      exact cg_iret C h dX9_placesOf_65 (by decide) (by decide)
    · have h := h.2 c_
      refine cg_iload C 3 rfl dX9_placesOf_24 ?_
      refine cg_aload_n C (i := 0) rfl 0 rfl dX9_placesOf_26 ?_
      obtain ⟨hc_27, h⟩ := h
      obtain ⟨b2, hb_b2, h⟩ := h
      refine cg_get C (k := 9) (j := 3) (.ref b2) hc_27.1 hc_27.2 (by decide) rfl (by decide) rfl (show cV _ 9 3 x0 = _ from congrArg va_rf hb_b2) cWs_wsX90 cl_X9_23 rfl dX9_placesOf_27 ?_
      obtain ⟨hc_30, h⟩ := h
      refine cg_alen C hc_30.1 hc_30.2 (by decide) (by decide) dX9_placesOf_30 ?_
      refine cg_icmp_ge C 64 (by decide) dX9_placesOf_31 (fun c_ => ?_) (fun c_ => ?_)
      · have h := h.1 c_
        refine cg_iload_n C (i := 3) rfl 2 rfl dX9_placesOf_64 ?_
        exact cg_iret C h dX9_placesOf_65 (by decide) (by decide)
      · have h := h.2 c_
        refine cg_aload_n C (i := 0) rfl 0 rfl dX9_placesOf_34 ?_
        obtain ⟨hc_35, h⟩ := h
        obtain ⟨b3, hb_b3, h⟩ := h
        refine cg_get C (k := 9) (j := 2) (.ref b3) hc_35.1 hc_35.2 (by decide) rfl (by decide) rfl (show cV _ 9 2 x0 = _ from congrArg va_rf hb_b3) cWs_wsX90 cl_X9_19 rfl dX9_placesOf_35 ?_
        refine cg_iload C 3 rfl dX9_placesOf_38 ?_
        obtain ⟨hc_40, h⟩ := h
        refine cg_laloadR C hc_40 dX9_placesOf_40 ?_
        refine cg_lload_n C (i := 1) rfl 1 rfl dX9_placesOf_41 ?_
        refine cg_lcmp C dX9_placesOf_42 ?_
        refine cg_if_neL C 58 (by decide) dX9_placesOf_43 (fun c_ => ?_) (fun c_ => ?_)
        · have h := h.1 c_
          exact cg_sub [0, 1, 2, 3] rfl (tb_X9_placesOf_58 C  hR5 x0 x1 x3 x4 S h)
        · have h := h.2 c_
          refine cg_iload_n C (i := 3) rfl 2 rfl dX9_placesOf_46 ?_
          refine cg_iconst C (x := nI 1) rfl dX9_placesOf_47 ?_
          refine cg_aload_n C (i := 0) rfl 0 rfl dX9_placesOf_48 ?_
          obtain ⟨hc_49, h⟩ := h
          obtain ⟨b5, hb_b5, h⟩ := h
          refine cg_get C (k := 9) (j := 3) (.ref b5) hc_49.1 hc_49.2 (by decide) rfl (by decide) rfl (show cV _ 9 3 x0 = _ from congrArg va_rf hb_b5) cWs_wsX90 cl_X9_23 rfl dX9_placesOf_49 ?_
          refine cg_iload C 3 rfl dX9_placesOf_52 ?_
          obtain ⟨hc_54, h⟩ := h
          refine cg_ialoadR C hc_54 dX9_placesOf_54 ?_
          refine cg_ishl C dX9_placesOf_55 ?_
          refine cg_ior C dX9_placesOf_56 ?_
          refine cg_nmI (fun x3_6 e_x3_6 => ?_)
          have h := h x3_6 e_x3_6
          refine cg_istore_n C (i := 3) (lv' := [(3, .int x3_6), (0, .ref x0), (1, .long x1), (4, .int x4)]) rfl (Nat.le_of_ble_eq_true rfl) rfl dX9_placesOf_57 ?_
          exact cg_sub [1, 2, 0, 3] rfl (tb_X9_placesOf_58 C  hR5 x0 x1 x3_6 x4 S h)
set_option maxRecDepth 20000 in
theorem tl_X9_placesOf_5 (C : cC p s m args meth c cX9_placesOf 5 (some .int) A D Y tp dp RX9) {post : Int32 → cS → Prop}   (x0 : Nat) (x1 : Int64) (x3 : Int32) (x4 : Int32) (S : cS) (h : k_X9_placesOf_5L post dp  x0 x1 x3 x4 S) : cG p l e (cRm 0 0 0 0) s m args below meth c A D Y 5 (MQ below (cQi post D Y A) args s 0 0 A) 0 0 5 [(0, .ref x0), (1, .long x1), (3, .int x3), (4, .int x4)] [] S :=
  h (fun y => cG p l e (cRm 0 0 0 0) s m args below meth c A D Y 5 (MQ below (cQi post D Y A) args s 0 0 A) 0 0 5 [(0, .ref (y.1)), (1, .long (y.2.1)), (3, .int (y.2.2.1)), (4, .int (y.2.2.2.1))] [] (y.2.2.2.2)) (fun y hy => tb_X9_placesOf_5 C   (fun b0 b1 b2 b3 S z => z) (y.1) (y.2.1) (y.2.2.1) (y.2.2.2.1) (y.2.2.2.2) hy)
end S_X9_placesOf
set_option maxHeartbeats 1000000 in
set_option maxRecDepth 20000 in
theorem t_X9_placesOf (l : Launch) (x0 : Nat) (x1 : Int64) (S : cS) (dp : Nat) {P : Int32 → cS → Prop} (h : k_X9_placesOf P dp x0 x1 S) : cMet (cQi P) l yX9_placesOf cX9_placesOf 5 (some .int) 0 0 0 0 [.ref x0, .long x1] S dp := by
  intro D Y tp sz
  refine cg_body (by decide +kernel) (Nat.le_of_ble_eq_true rfl) ?_
  intro p e s m args below meth c C
  generalize va_A (cWd Y S) sz = A at C ⊢
  have C : cC p s m args meth c cX9_placesOf 5 (some .int) A D Y tp dp RX9 := C
  refine cg_lv (lv' := [(0, .ref x0), (1, .long x1)]) rfl ?_
  unfold k_X9_placesOf at h
  refine cg_iconst C (x := nI 0) rfl dX9_placesOf_0 ?_
  refine cg_istore_n C (i := 3) (lv' := [(3, .int ((nI 0))), (0, .ref x0), (1, .long x1)]) rfl (Nat.le_of_ble_eq_true rfl) rfl dX9_placesOf_1 ?_
  refine cg_iconst C (x := nI 0) rfl dX9_placesOf_2 ?_
  refine cg_istore C (lv' := [(4, .int ((nI 0))), (3, .int ((nI 0))), (0, .ref x0), (1, .long x1)]) (Nat.le_of_ble_eq_true rfl) rfl dX9_placesOf_3 ?_
  exact cg_sub [2, 3, 1, 0] rfl (tl_X9_placesOf_5 C   x0 x1 (((nI 0))) (((nI 0))) S h)
def k_X7_scanCounted_40 (Q : Int32 → cS → Prop) (dp : Nat)  (x0 : Nat) (x1 : Nat) (S : cS) : Prop :=
cA S x0 7 ∧ ((∃ b2 : Nat, cr S 228 x0 = some b2 ∧ (cA S x1 4 ∧ (k_X4_countedPlaces (fun r_3 S_3 => 
Q r_3 S_3) dp x1 b2 S))))
def k_X7_scanCounted_2 (Q : Int32 → cS → Prop) (dp : Nat) (R2 : Nat → Nat → Nat → Int32 → cS → Prop) (x0 : Nat) (x1 : Nat) (x2 : Nat) (x3 : Int32) (S : cS) : Prop :=
cA S x1 4 ∧ (k_X4_tokenCount (fun r_1 S_1 => 
((r_1 ≤ x3 →
  k_X7_scanCounted_40 Q dp  x0 x1 S_1) ∧
 (¬ r_1 ≤ x3 →
  cA S_1 x0 7 ∧ ((∃ b4 : Nat, cr S_1 228 x0 = some b4 ∧ (cA S_1 b4 14 ∧ (((((nI (cn S_1 b4))) ≤ x3 →
    k_X7_scanCounted_40 Q dp  x0 x1 S_1) ∧
   (¬ ((nI (cn S_1 b4))) ≤ x3 →
    cA S_1 x0 7 ∧ ((∃ b5 : Nat, cr S_1 228 x0 = some b5 ∧ (cA S_1 x1 4 ∧ (k_X4_tokenAt (fun r_6 S_6 => 
    cA S_6 x2 9 ∧ (k_X9_placesOf (fun r_7 S_7 => 
    cX S_7 b5 14 x3 ∧ (∀ S8 : cS, S8 = cSI S_7 b5 (x3).toNatClampNeg r_7 → ∀ x3_9 : Int32, x3_9 = x3 + nI 1 → R2 x0 x1 x2 x3_9 S8)) dp x2 r_6 S_6)) dp x1 x3 S_1))))))))))))) dp x1 S)
def k_X7_scanCounted_2L (Q : Int32 → cS → Prop) (dp : Nat)  (x0 : Nat) (x1 : Nat) (x2 : Nat) (x3 : Int32) (S : cS) : Prop :=
  lfp (X := Nat × Nat × Nat × Int32 × cS) (fun P y => k_X7_scanCounted_2 Q dp  (fun b0 b1 b2 b3 S => P (b0, b1, b2, b3, S)) y.1 y.2.1 y.2.2.1 y.2.2.2.1 y.2.2.2.2) (x0, x1, x2, x3, S)
def k_X7_scanCounted (Q : Int32 → cS → Prop) (dp : Nat) (x0 : Nat) (x1 : Nat) (x2 : Nat) (S : cS) : Prop :=
k_X7_scanCounted_2L Q dp  x0 x1 x2 (((nI 0))) S
section S_X7_scanCounted
variable {p : Program} {l : Launch} {e : Env} {s : State} {m : MethodId} {args : Array Value} {below : List Frame} {meth : Method} {c : Code} {A : Nat → Prop} {D : va_G} {Y : cY} {tp dp : Nat}
set_option maxRecDepth 20000 in
theorem tb_X7_scanCounted_40 (C : cC p s m args meth c cX7_scanCounted 4 (some .int) A D Y tp dp RX7) {post : Int32 → cS → Prop}   (x0 : Nat) (x1 : Nat) (S : cS) (h : k_X7_scanCounted_40 post dp  x0 x1 S) : cG p l e (cRm 4 0 0 83) s m args below meth c A D Y 4 (MQ below (cQi post D Y A) args s 0 0 A) 0 0 40 [(0, .ref x0), (1, .ref x1)] [] S := by
  unfold k_X7_scanCounted_40 at h
  refine cg_aload_n C (i := 1) rfl 1 rfl dX7_scanCounted_40 ?_
  refine cg_aload_n C (i := 0) rfl 0 rfl dX7_scanCounted_41 ?_
  obtain ⟨hc_42, h⟩ := h
  obtain ⟨b2, hb_b2, h⟩ := h
  refine cg_get C (k := 7) (j := 4) (.ref b2) hc_42.1 hc_42.2 (by decide) rfl (by decide) rfl (show cV _ 7 4 x0 = _ from congrArg va_rf hb_b2) cWs_wsX70 cl_X7_26 rfl dX7_scanCounted_42 ?_
  obtain ⟨hc_45, h⟩ := h
  refine cg_calli C (t_X4_countedPlaces l x1 b2 S dp h) cc_X7_129 hc_45.1 hc_45.2 (by decide) rfl rfl ⟨by decide, by decide⟩ ⟨by decide, by decide⟩ rfl (Nat.le_of_ble_eq_true rfl) dX7_scanCounted_45 (fun r_3 S_3 h => ?_)
  exact cg_iret C h dX7_scanCounted_48 (by decide) (by decide)
set_option maxRecDepth 20000 in
theorem tb_X7_scanCounted_2 (C : cC p s m args meth c cX7_scanCounted 4 (some .int) A D Y tp dp RX7) {post : Int32 → cS → Prop} {R2 : Nat → Nat → Nat → Int32 → cS → Prop} (hR2 : ∀ (x0 : Nat) (x1 : Nat) (x2 : Nat) (x3 : Int32) (S : cS), R2 x0 x1 x2 x3 S → cG p l e (cRm 4 0 0 83) s m args below meth c A D Y 4 (MQ below (cQi post D Y A) args s 0 0 A) 0 0 2 [(0, .ref x0), (1, .ref x1), (2, .ref x2), (3, .int x3)] [] S) (x0 : Nat) (x1 : Nat) (x2 : Nat) (x3 : Int32) (S : cS) (h : k_X7_scanCounted_2 post dp R2 x0 x1 x2 x3 S) : cG p l e (cRm 4 0 0 83) s m args below meth c A D Y 4 (MQ below (cQi post D Y A) args s 0 0 A) 0 0 2 [(0, .ref x0), (1, .ref x1), (2, .ref x2), (3, .int x3)] [] S := by
  unfold k_X7_scanCounted_2 at h
  refine cg_iload_n C (i := 3) rfl 3 rfl dX7_scanCounted_2 ?_
  refine cg_aload_n C (i := 1) rfl 1 rfl dX7_scanCounted_3 ?_
  obtain ⟨hc_4, h⟩ := h
  refine cg_calli C (t_X4_tokenCount l x1 S dp h) cc_X7_58 hc_4.1 hc_4.2 (by decide) rfl rfl ⟨by decide, by decide⟩ ⟨by decide, by decide⟩ rfl (Nat.le_of_ble_eq_true rfl) dX7_scanCounted_4 (fun r_1 S_1 h => ?_)
  refine cg_icmp_ge C 40 (by decide) dX7_scanCounted_7 (fun c_ => ?_) (fun c_ => ?_)
  · have h := h.1 c_
    exact cg_sub [0, 1] rfl (tb_X7_scanCounted_40 C   x0 x1 S_1 h)
  · have h := h.2 c_
    refine cg_iload_n C (i := 3) rfl 3 rfl dX7_scanCounted_10 ?_
    refine cg_aload_n C (i := 0) rfl 0 rfl dX7_scanCounted_11 ?_
    obtain ⟨hc_12, h⟩ := h
    obtain ⟨b4, hb_b4, h⟩ := h
    refine cg_get C (k := 7) (j := 4) (.ref b4) hc_12.1 hc_12.2 (by decide) rfl (by decide) rfl (show cV _ 7 4 x0 = _ from congrArg va_rf hb_b4) cWs_wsX70 cl_X7_26 rfl dX7_scanCounted_12 ?_
    obtain ⟨hc_15, h⟩ := h
    refine cg_alen C hc_15.1 hc_15.2 (by decide) (by decide) dX7_scanCounted_15 ?_
    refine cg_icmp_ge C 40 (by decide) dX7_scanCounted_16 (fun c_ => ?_) (fun c_ => ?_)
    · have h := h.1 c_
      exact cg_sub [0, 1] rfl (tb_X7_scanCounted_40 C   x0 x1 S_1 h)
    · have h := h.2 c_
      refine cg_aload_n C (i := 0) rfl 0 rfl dX7_scanCounted_19 ?_
      obtain ⟨hc_20, h⟩ := h
      obtain ⟨b5, hb_b5, h⟩ := h
      refine cg_get C (k := 7) (j := 4) (.ref b5) hc_20.1 hc_20.2 (by decide) rfl (by decide) rfl (show cV _ 7 4 x0 = _ from congrArg va_rf hb_b5) cWs_wsX70 cl_X7_26 rfl dX7_scanCounted_20 ?_
      refine cg_iload_n C (i := 3) rfl 3 rfl dX7_scanCounted_23 ?_
      refine cg_aload_n C (i := 2) rfl 2 rfl dX7_scanCounted_24 ?_
      refine cg_aload_n C (i := 1) rfl 1 rfl dX7_scanCounted_25 ?_
      refine cg_iload_n C (i := 3) rfl 3 rfl dX7_scanCounted_26 ?_
      obtain ⟨hc_27, h⟩ := h
      refine cg_calll C (t_X4_tokenAt l x1 x3 S_1 dp h) cc_X7_65 hc_27.1 hc_27.2 (by decide) rfl rfl ⟨by decide, by decide⟩ ⟨by decide, by decide⟩ rfl (Nat.le_of_ble_eq_true rfl) dX7_scanCounted_27 (fun r_6 S_6 h => ?_)
      obtain ⟨hc_30, h⟩ := h
      refine cg_calli C (t_X9_placesOf l x2 r_6 S_6 dp h) cc_X7_173 hc_30.1 hc_30.2 (by decide) rfl rfl ⟨by decide, by decide⟩ ⟨by decide, by decide⟩ rfl (Nat.le_of_ble_eq_true rfl) dX7_scanCounted_30 (fun r_7 S_7 h => ?_)
      obtain ⟨hc_33, h⟩ := h
      refine cg_iastoreR C hc_33 dX7_scanCounted_33 ?_
      refine cg_nm (fun S8 e_S8 => ?_)
      have h := h S8 e_S8
      obtain ⟨x3_9, e_x3_9⟩ : ∃ z : Int32, z = x3 + nI 1 := ⟨_, rfl⟩
      have h := h x3_9 e_x3_9
      refine cg_iinc C (lv' := [(3, .int x3_9), (0, .ref x0), (1, .ref x1), (2, .ref x2)]) 3 rfl (by rw [e_x3_9]; rfl) (Nat.le_of_ble_eq_true rfl) rfl dX7_scanCounted_34 ?_
      refine cg_goto C 2 (by decide) dX7_scanCounted_37 ?_
      exact cg_sub [1, 2, 3, 0] rfl (hR2 x0 x1 x2 x3_9 S8 h)
set_option maxRecDepth 20000 in
theorem tl_X7_scanCounted_2 (C : cC p s m args meth c cX7_scanCounted 4 (some .int) A D Y tp dp RX7) {post : Int32 → cS → Prop}   (x0 : Nat) (x1 : Nat) (x2 : Nat) (x3 : Int32) (S : cS) (h : k_X7_scanCounted_2L post dp  x0 x1 x2 x3 S) : cG p l e (cRm 4 0 0 83) s m args below meth c A D Y 4 (MQ below (cQi post D Y A) args s 0 0 A) 0 0 2 [(0, .ref x0), (1, .ref x1), (2, .ref x2), (3, .int x3)] [] S :=
  h (fun y => cG p l e (cRm 4 0 0 83) s m args below meth c A D Y 4 (MQ below (cQi post D Y A) args s 0 0 A) 0 0 2 [(0, .ref (y.1)), (1, .ref (y.2.1)), (2, .ref (y.2.2.1)), (3, .int (y.2.2.2.1))] [] (y.2.2.2.2)) (fun y hy => tb_X7_scanCounted_2 C   (fun b0 b1 b2 b3 S z => z) (y.1) (y.2.1) (y.2.2.1) (y.2.2.2.1) (y.2.2.2.2) hy)
end S_X7_scanCounted
set_option maxHeartbeats 1000000 in
set_option maxRecDepth 20000 in
theorem t_X7_scanCounted (l : Launch) (x0 : Nat) (x1 : Nat) (x2 : Nat) (S : cS) (dp : Nat) {P : Int32 → cS → Prop} (h : k_X7_scanCounted P dp x0 x1 x2 S) : cMet (cQi P) l yX7_scanCounted cX7_scanCounted 4 (some .int) 4 0 0 83 [.ref x0, .ref x1, .ref x2] S dp := by
  intro D Y tp sz
  refine cg_body (by decide +kernel) (Nat.le_of_ble_eq_true rfl) ?_
  intro p e s m args below meth c C
  generalize va_A (cWd Y S) sz = A at C ⊢
  have C : cC p s m args meth c cX7_scanCounted 4 (some .int) A D Y tp dp RX7 := C
  refine cg_lv (lv' := [(0, .ref x0), (1, .ref x1), (2, .ref x2)]) rfl ?_
  unfold k_X7_scanCounted at h
  refine cg_iconst C (x := nI 0) rfl dX7_scanCounted_0 ?_
  refine cg_istore_n C (i := 3) (lv' := [(3, .int ((nI 0))), (0, .ref x0), (1, .ref x1), (2, .ref x2)]) rfl (Nat.le_of_ble_eq_true rfl) rfl dX7_scanCounted_1 ?_
  exact cg_sub [1, 2, 3, 0] rfl (tl_X7_scanCounted_2 C   x0 x1 x2 (((nI 0))) S h)
def k_X9_codeAt_21 (Q : Int64 → cS → Prop) (dp : Nat)   (S : cS) : Prop :=
Q 0 S
def k_X9_codeAt (Q : Int64 → cS → Prop) (dp : Nat) (x0 : Nat) (x1 : Int32) (S : cS) : Prop :=
((x1 < 0 →
  k_X9_codeAt_21 Q dp  S) ∧
 (¬ x1 < 0 →
  cA S x0 9 ∧ (((((ci S 292 x0)) ≤ x1 →
    k_X9_codeAt_21 Q dp  S) ∧
   (¬ ((ci S 292 x0)) ≤ x1 →
    cA S x0 9 ∧ ((∃ b1 : Nat, cr S 290 x0 = some b1 ∧ (cA S b1 15 ∧ (((x1 < ((nI (cn S b1))) →
      cA S x0 9 ∧ ((∃ b2 : Nat, cr S 290 x0 = some b2 ∧ (cX S b2 15 x1 ∧ (Q (cJ S b2 (x1).toNatClampNeg) S))))) ∧
     (¬ x1 < ((nI (cn S b1))) →
      k_X9_codeAt_21 Q dp  S)))))))))))
section S_X9_codeAt
variable {p : Program} {l : Launch} {e : Env} {s : State} {m : MethodId} {args : Array Value} {below : List Frame} {meth : Method} {c : Code} {A : Nat → Prop} {D : va_G} {Y : cY} {tp dp : Nat}
set_option maxRecDepth 20000 in
theorem tb_X9_codeAt_21 (C : cC p s m args meth c cX9_codeAt 2 (some .long) A D Y tp dp RX9) {post : Int64 → cS → Prop}    (S : cS) (h : k_X9_codeAt_21 post dp   S) : cG p l e (cRm 0 0 0 0) s m args below meth c A D Y 2 (MQ below (cQl post D Y A) args s 0 0 A) 0 0 21 [] [] S := by
  unfold k_X9_codeAt_21 at h
  refine cg_lconst C (x := 0) rfl dX9_codeAt_21 ?_
  refine cg_goto C 31 (by decide) dX9_codeAt_22 ?_
  exact cg_lret C h dX9_codeAt_31 (by decide) (by decide)
end S_X9_codeAt
set_option maxHeartbeats 1000000 in
set_option maxRecDepth 20000 in
theorem t_X9_codeAt (l : Launch) (x0 : Nat) (x1 : Int32) (S : cS) (dp : Nat) {P : Int64 → cS → Prop} (h : k_X9_codeAt P dp x0 x1 S) : cMet (cQl P) l yX9_codeAt cX9_codeAt 2 (some .long) 0 0 0 0 [.ref x0, .int x1] S dp := by
  intro D Y tp sz
  refine cg_body (by decide +kernel) (Nat.le_of_ble_eq_true rfl) ?_
  intro p e s m args below meth c C
  generalize va_A (cWd Y S) sz = A at C ⊢
  have C : cC p s m args meth c cX9_codeAt 2 (some .long) A D Y tp dp RX9 := C
  refine cg_lv (lv' := [(0, .ref x0), (1, .int x1)]) rfl ?_
  unfold k_X9_codeAt at h
  refine cg_iload_n C (i := 1) rfl 1 rfl dX9_codeAt_0 ?_
  refine cg_if_lt C 21 (by decide) dX9_codeAt_1 (fun c_ => ?_) (fun c_ => ?_)
  · have h := h.1 c_
    exact cg_sub [] rfl (tb_X9_codeAt_21 C   S h)
  · have h := h.2 c_
    refine cg_iload_n C (i := 1) rfl 1 rfl dX9_codeAt_4 ?_
    refine cg_aload_n C (i := 0) rfl 0 rfl dX9_codeAt_5 ?_
    obtain ⟨hc_6, h⟩ := h
    refine cg_get C (k := 9) (j := 4) (.int (ci S 292 x0)) hc_6.1 hc_6.2 (by decide) rfl (by decide) rfl rfl cWs_wsX90 cl_X9_26 rfl dX9_codeAt_6 ?_
    refine cg_icmp_ge C 21 (by decide) dX9_codeAt_9 (fun c_ => ?_) (fun c_ => ?_)
    · have h := h.1 c_
      exact cg_sub [] rfl (tb_X9_codeAt_21 C   S h)
    · have h := h.2 c_
      refine cg_iload_n C (i := 1) rfl 1 rfl dX9_codeAt_12 ?_
      refine cg_aload_n C (i := 0) rfl 0 rfl dX9_codeAt_13 ?_
      obtain ⟨hc_14, h⟩ := h
      obtain ⟨b1, hb_b1, h⟩ := h
      refine cg_get C (k := 9) (j := 2) (.ref b1) hc_14.1 hc_14.2 (by decide) rfl (by decide) rfl (show cV _ 9 2 x0 = _ from congrArg va_rf hb_b1) cWs_wsX90 cl_X9_19 rfl dX9_codeAt_14 ?_
      obtain ⟨hc_17, h⟩ := h
      refine cg_alen C hc_17.1 hc_17.2 (by decide) (by decide) dX9_codeAt_17 ?_
      refine cg_icmp_lt C 25 (by decide) dX9_codeAt_18 (fun c_ => ?_) (fun c_ => ?_)
      · have h := h.1 c_
        refine cg_aload_n C (i := 0) rfl 0 rfl dX9_codeAt_25 ?_
        obtain ⟨hc_26, h⟩ := h
        obtain ⟨b2, hb_b2, h⟩ := h
        refine cg_get C (k := 9) (j := 2) (.ref b2) hc_26.1 hc_26.2 (by decide) rfl (by decide) rfl (show cV _ 9 2 x0 = _ from congrArg va_rf hb_b2) cWs_wsX90 cl_X9_19 rfl dX9_codeAt_26 ?_
        refine cg_iload_n C (i := 1) rfl 1 rfl dX9_codeAt_29 ?_
        obtain ⟨hc_30, h⟩ := h
        refine cg_laloadR C hc_30 dX9_codeAt_30 ?_
        exact cg_lret C h dX9_codeAt_31 (by decide) (by decide)
      · have h := h.2 c_
        exact cg_sub [] rfl (tb_X9_codeAt_21 C   S h)
def k_X9_placeAt (Q : Int32 → cS → Prop) (dp : Nat) (x0 : Nat) (x1 : Int32) (S : cS) : Prop :=
((x1 < 0 →
  Q ((nI 0)) S) ∧
 (¬ x1 < 0 →
  cA S x0 9 ∧ (((((ci S 292 x0)) ≤ x1 →
    Q ((nI 0)) S) ∧
   (¬ ((ci S 292 x0)) ≤ x1 →
    cA S x0 9 ∧ ((∃ b1 : Nat, cr S 291 x0 = some b1 ∧ (cA S b1 14 ∧ (((x1 < ((nI (cn S b1))) →
      cA S x0 9 ∧ ((∃ b2 : Nat, cr S 291 x0 = some b2 ∧ (cX S b2 14 x1 ∧ (Q ((cI S b2 (x1).toNatClampNeg)) S))))) ∧
     (¬ x1 < ((nI (cn S b1))) →
      Q ((nI 0)) S)))))))))))
set_option maxHeartbeats 1000000 in
set_option maxRecDepth 20000 in
theorem t_X9_placeAt (l : Launch) (x0 : Nat) (x1 : Int32) (S : cS) (dp : Nat) {P : Int32 → cS → Prop} (h : k_X9_placeAt P dp x0 x1 S) : cMet (cQi P) l yX9_placeAt cX9_placeAt 2 (some .int) 0 0 0 0 [.ref x0, .int x1] S dp := by
  intro D Y tp sz
  refine cg_body (by decide +kernel) (Nat.le_of_ble_eq_true rfl) ?_
  intro p e s m args below meth c C
  generalize va_A (cWd Y S) sz = A at C ⊢
  have C : cC p s m args meth c cX9_placeAt 2 (some .int) A D Y tp dp RX9 := C
  refine cg_lv (lv' := [(0, .ref x0), (1, .int x1)]) rfl ?_
  unfold k_X9_placeAt at h
  refine cg_iload_n C (i := 1) rfl 1 rfl dX9_placeAt_0 ?_
  refine cg_if_lt C 21 (by decide) dX9_placeAt_1 (fun c_ => ?_) (fun c_ => ?_)
  · have h := h.1 c_
    refine cg_iconst C (x := nI 0) rfl dX9_placeAt_21 ?_
    refine cg_goto C 31 (by decide) dX9_placeAt_22 ?_
    exact cg_iret C h dX9_placeAt_31 (by decide) (by decide)
  · have h := h.2 c_
    refine cg_iload_n C (i := 1) rfl 1 rfl dX9_placeAt_4 ?_
    refine cg_aload_n C (i := 0) rfl 0 rfl dX9_placeAt_5 ?_
    obtain ⟨hc_6, h⟩ := h
    refine cg_get C (k := 9) (j := 4) (.int (ci S 292 x0)) hc_6.1 hc_6.2 (by decide) rfl (by decide) rfl rfl cWs_wsX90 cl_X9_26 rfl dX9_placeAt_6 ?_
    refine cg_icmp_ge C 21 (by decide) dX9_placeAt_9 (fun c_ => ?_) (fun c_ => ?_)
    · have h := h.1 c_
      refine cg_iconst C (x := nI 0) rfl dX9_placeAt_21 ?_
      refine cg_goto C 31 (by decide) dX9_placeAt_22 ?_
      exact cg_iret C h dX9_placeAt_31 (by decide) (by decide)
    · have h := h.2 c_
      refine cg_iload_n C (i := 1) rfl 1 rfl dX9_placeAt_12 ?_
      refine cg_aload_n C (i := 0) rfl 0 rfl dX9_placeAt_13 ?_
      obtain ⟨hc_14, h⟩ := h
      obtain ⟨b1, hb_b1, h⟩ := h
      refine cg_get C (k := 9) (j := 3) (.ref b1) hc_14.1 hc_14.2 (by decide) rfl (by decide) rfl (show cV _ 9 3 x0 = _ from congrArg va_rf hb_b1) cWs_wsX90 cl_X9_23 rfl dX9_placeAt_14 ?_
      obtain ⟨hc_17, h⟩ := h
      refine cg_alen C hc_17.1 hc_17.2 (by decide) (by decide) dX9_placeAt_17 ?_
      refine cg_icmp_lt C 25 (by decide) dX9_placeAt_18 (fun c_ => ?_) (fun c_ => ?_)
      · have h := h.1 c_
        refine cg_aload_n C (i := 0) rfl 0 rfl dX9_placeAt_25 ?_
        obtain ⟨hc_26, h⟩ := h
        obtain ⟨b2, hb_b2, h⟩ := h
        refine cg_get C (k := 9) (j := 3) (.ref b2) hc_26.1 hc_26.2 (by decide) rfl (by decide) rfl (show cV _ 9 3 x0 = _ from congrArg va_rf hb_b2) cWs_wsX90 cl_X9_23 rfl dX9_placeAt_26 ?_
        refine cg_iload_n C (i := 1) rfl 1 rfl dX9_placeAt_29 ?_
        obtain ⟨hc_30, h⟩ := h
        refine cg_ialoadR C hc_30 dX9_placeAt_30 ?_
        exact cg_iret C h dX9_placeAt_31 (by decide) (by decide)
      · have h := h.2 c_
        refine cg_iconst C (x := nI 0) rfl dX9_placeAt_21 ?_
        refine cg_goto C 31 (by decide) dX9_placeAt_22 ?_
        exact cg_iret C h dX9_placeAt_31 (by decide) (by decide)
def k_X7_scanTold_34 (Q : Int32 → cS → Prop) (dp : Nat) (R4 : Nat → Nat → Int32 → Int32 → cS → Prop) (x0 : Nat) (x1 : Nat) (x2 : Int32) (x3 : Int32) (S : cS) : Prop :=
∀ x3_3 : Int32, x3_3 = x3 + nI 1 → R4 x0 x1 x2 x3_3 S
def k_X7_scanTold_4 (Q : Int32 → cS → Prop) (dp : Nat) (R4 : Nat → Nat → Int32 → Int32 → cS → Prop) (x0 : Nat) (x1 : Nat) (x2 : Int32) (x3 : Int32) (S : cS) : Prop :=
cA S x1 9 ∧ (((((ci S 292 x1)) ≤ x3 →
  Q x2 S) ∧
 (¬ ((ci S 292 x1)) ≤ x3 →
  cA S x1 9 ∧ (k_X9_codeAt (fun r_1 S_1 => 
  cA S_1 x0 4 ∧ (k_X4_isTold (fun r_2 S_2 => 
  ((r_2 = 0 →
    k_X7_scanTold_34 Q dp R4 x0 x1 x2 x3 S_2) ∧
   (¬ r_2 = 0 →
    cA S_2 x1 9 ∧ (k_X9_placeAt (fun r_4 S_4 => 
    ∀ x2_5 : Int32, x2_5 = (x2 ||| ((((nI 1)) <<< (r_4 &&& 31)))) → k_X7_scanTold_34 Q dp R4 x0 x1 x2_5 x3 S_4) dp x1 x3 S_2)))) dp x0 r_1 S_1)) dp x1 x3 S))))
def k_X7_scanTold_4L (Q : Int32 → cS → Prop) (dp : Nat)  (x0 : Nat) (x1 : Nat) (x2 : Int32) (x3 : Int32) (S : cS) : Prop :=
  lfp (X := Nat × Nat × Int32 × Int32 × cS) (fun P y => k_X7_scanTold_4 Q dp  (fun b0 b1 b2 b3 S => P (b0, b1, b2, b3, S)) y.1 y.2.1 y.2.2.1 y.2.2.2.1 y.2.2.2.2) (x0, x1, x2, x3, S)
def k_X7_scanTold (Q : Int32 → cS → Prop) (dp : Nat) (x0 : Nat) (x1 : Nat) (S : cS) : Prop :=
k_X7_scanTold_4L Q dp  x0 x1 (((nI 0))) (((nI 0))) S
section S_X7_scanTold
variable {p : Program} {l : Launch} {e : Env} {s : State} {m : MethodId} {args : Array Value} {below : List Frame} {meth : Method} {c : Code} {A : Nat → Prop} {D : va_G} {Y : cY} {tp dp : Nat}
set_option maxRecDepth 20000 in
theorem tb_X7_scanTold_34 (C : cC p s m args meth c cX7_scanTold 4 (some .int) A D Y tp dp RX7) {post : Int32 → cS → Prop} {R4 : Nat → Nat → Int32 → Int32 → cS → Prop} (hR4 : ∀ (x0 : Nat) (x1 : Nat) (x2 : Int32) (x3 : Int32) (S : cS), R4 x0 x1 x2 x3 S → cG p l e (cRm 3 0 0 74) s m args below meth c A D Y 4 (MQ below (cQi post D Y A) args s 0 0 A) 0 0 4 [(0, .ref x0), (1, .ref x1), (2, .int x2), (3, .int x3)] [] S) (x0 : Nat) (x1 : Nat) (x2 : Int32) (x3 : Int32) (S : cS) (h : k_X7_scanTold_34 post dp R4 x0 x1 x2 x3 S) : cG p l e (cRm 3 0 0 74) s m args below meth c A D Y 4 (MQ below (cQi post D Y A) args s 0 0 A) 0 0 34 [(0, .ref x0), (1, .ref x1), (2, .int x2), (3, .int x3)] [] S := by
  unfold k_X7_scanTold_34 at h
  obtain ⟨x3_3, e_x3_3⟩ : ∃ z : Int32, z = x3 + nI 1 := ⟨_, rfl⟩
  have h := h x3_3 e_x3_3
  refine cg_iinc C (lv' := [(3, .int x3_3), (0, .ref x0), (1, .ref x1), (2, .int x2)]) 3 rfl (by rw [e_x3_3]; rfl) (Nat.le_of_ble_eq_true rfl) rfl dX7_scanTold_34 ?_
  refine cg_goto C 4 (by decide) dX7_scanTold_37 ?_
  exact cg_sub [1, 2, 3, 0] rfl (hR4 x0 x1 x2 x3_3 S h)
set_option maxRecDepth 20000 in
theorem tb_X7_scanTold_4 (C : cC p s m args meth c cX7_scanTold 4 (some .int) A D Y tp dp RX7) {post : Int32 → cS → Prop} {R4 : Nat → Nat → Int32 → Int32 → cS → Prop} (hR4 : ∀ (x0 : Nat) (x1 : Nat) (x2 : Int32) (x3 : Int32) (S : cS), R4 x0 x1 x2 x3 S → cG p l e (cRm 3 0 0 74) s m args below meth c A D Y 4 (MQ below (cQi post D Y A) args s 0 0 A) 0 0 4 [(0, .ref x0), (1, .ref x1), (2, .int x2), (3, .int x3)] [] S) (x0 : Nat) (x1 : Nat) (x2 : Int32) (x3 : Int32) (S : cS) (h : k_X7_scanTold_4 post dp R4 x0 x1 x2 x3 S) : cG p l e (cRm 3 0 0 74) s m args below meth c A D Y 4 (MQ below (cQi post D Y A) args s 0 0 A) 0 0 4 [(0, .ref x0), (1, .ref x1), (2, .int x2), (3, .int x3)] [] S := by
  unfold k_X7_scanTold_4 at h
  refine cg_iload_n C (i := 3) rfl 3 rfl dX7_scanTold_4 ?_
  refine cg_aload_n C (i := 1) rfl 1 rfl dX7_scanTold_5 ?_
  obtain ⟨hc_6, h⟩ := h
  refine cg_get C (k := 9) (j := 4) (.int (ci S 292 x1)) hc_6.1 hc_6.2 (by decide) rfl (by decide) rfl rfl cWs_wsX90 cl_X7_186 rfl dX7_scanTold_6 ?_
  refine cg_icmp_ge C 40 (by decide) dX7_scanTold_9 (fun c_ => ?_) (fun c_ => ?_)
  · have h := h.1 c_
    refine cg_iload_n C (i := 2) rfl 2 rfl dX7_scanTold_40 ?_
    exact cg_iret C h dX7_scanTold_41 (by decide) (by decide)
  · have h := h.2 c_
    refine cg_aload_n C (i := 0) rfl 0 rfl dX7_scanTold_12 ?_
    refine cg_aload_n C (i := 1) rfl 1 rfl dX7_scanTold_13 ?_
    refine cg_iload_n C (i := 3) rfl 3 rfl dX7_scanTold_14 ?_
    obtain ⟨hc_15, h⟩ := h
    refine cg_calll C (t_X9_codeAt l x1 x3 S dp h) cc_X7_189 hc_15.1 hc_15.2 (by decide) rfl rfl ⟨by decide, by decide⟩ ⟨by decide, by decide⟩ rfl (Nat.le_of_ble_eq_true rfl) dX7_scanTold_15 (fun r_1 S_1 h => ?_)
    obtain ⟨hc_18, h⟩ := h
    refine cg_calli C (t_X4_isTold l x0 r_1 S_1 dp h) cc_X7_140 hc_18.1 hc_18.2 (by decide) rfl rfl ⟨by decide, by decide⟩ ⟨by decide, by decide⟩ rfl (Nat.le_of_ble_eq_true rfl) dX7_scanTold_18 (fun r_2 S_2 h => ?_)
    refine cg_if_eq C 34 (by decide) dX7_scanTold_21 (fun c_ => ?_) (fun c_ => ?_)
    · have h := h.1 c_
      exact cg_sub [0, 1, 2, 3] rfl (tb_X7_scanTold_34 C  hR4 x0 x1 x2 x3 S_2 h)
    · have h := h.2 c_
      refine cg_iload_n C (i := 2) rfl 2 rfl dX7_scanTold_24 ?_
      refine cg_iconst C (x := nI 1) rfl dX7_scanTold_25 ?_
      refine cg_aload_n C (i := 1) rfl 1 rfl dX7_scanTold_26 ?_
      refine cg_iload_n C (i := 3) rfl 3 rfl dX7_scanTold_27 ?_
      obtain ⟨hc_28, h⟩ := h
      refine cg_calli C (t_X9_placeAt l x1 x3 S_2 dp h) cc_X7_192 hc_28.1 hc_28.2 (by decide) rfl rfl ⟨by decide, by decide⟩ ⟨by decide, by decide⟩ rfl (Nat.le_of_ble_eq_true rfl) dX7_scanTold_28 (fun r_4 S_4 h => ?_)
      refine cg_ishl C dX7_scanTold_31 ?_
      refine cg_ior C dX7_scanTold_32 ?_
      refine cg_nmI (fun x2_5 e_x2_5 => ?_)
      have h := h x2_5 e_x2_5
      refine cg_istore_n C (i := 2) (lv' := [(2, .int x2_5), (0, .ref x0), (1, .ref x1), (3, .int x3)]) rfl (Nat.le_of_ble_eq_true rfl) rfl dX7_scanTold_33 ?_
      exact cg_sub [1, 2, 0, 3] rfl (tb_X7_scanTold_34 C  hR4 x0 x1 x2_5 x3 S_4 h)
set_option maxRecDepth 20000 in
theorem tl_X7_scanTold_4 (C : cC p s m args meth c cX7_scanTold 4 (some .int) A D Y tp dp RX7) {post : Int32 → cS → Prop}   (x0 : Nat) (x1 : Nat) (x2 : Int32) (x3 : Int32) (S : cS) (h : k_X7_scanTold_4L post dp  x0 x1 x2 x3 S) : cG p l e (cRm 3 0 0 74) s m args below meth c A D Y 4 (MQ below (cQi post D Y A) args s 0 0 A) 0 0 4 [(0, .ref x0), (1, .ref x1), (2, .int x2), (3, .int x3)] [] S :=
  h (fun y => cG p l e (cRm 3 0 0 74) s m args below meth c A D Y 4 (MQ below (cQi post D Y A) args s 0 0 A) 0 0 4 [(0, .ref (y.1)), (1, .ref (y.2.1)), (2, .int (y.2.2.1)), (3, .int (y.2.2.2.1))] [] (y.2.2.2.2)) (fun y hy => tb_X7_scanTold_4 C   (fun b0 b1 b2 b3 S z => z) (y.1) (y.2.1) (y.2.2.1) (y.2.2.2.1) (y.2.2.2.2) hy)
end S_X7_scanTold
set_option maxHeartbeats 1000000 in
set_option maxRecDepth 20000 in
theorem t_X7_scanTold (l : Launch) (x0 : Nat) (x1 : Nat) (S : cS) (dp : Nat) {P : Int32 → cS → Prop} (h : k_X7_scanTold P dp x0 x1 S) : cMet (cQi P) l yX7_scanTold cX7_scanTold 4 (some .int) 3 0 0 74 [.ref x0, .ref x1] S dp := by
  intro D Y tp sz
  refine cg_body (by decide +kernel) (Nat.le_of_ble_eq_true rfl) ?_
  intro p e s m args below meth c C
  generalize va_A (cWd Y S) sz = A at C ⊢
  have C : cC p s m args meth c cX7_scanTold 4 (some .int) A D Y tp dp RX7 := C
  refine cg_lv (lv' := [(0, .ref x0), (1, .ref x1)]) rfl ?_
  unfold k_X7_scanTold at h
  refine cg_iconst C (x := nI 0) rfl dX7_scanTold_0 ?_
  refine cg_istore_n C (i := 2) (lv' := [(2, .int ((nI 0))), (0, .ref x0), (1, .ref x1)]) rfl (Nat.le_of_ble_eq_true rfl) rfl dX7_scanTold_1 ?_
  refine cg_iconst C (x := nI 0) rfl dX7_scanTold_2 ?_
  refine cg_istore_n C (i := 3) (lv' := [(3, .int ((nI 0))), (2, .int ((nI 0))), (0, .ref x0), (1, .ref x1)]) rfl (Nat.le_of_ble_eq_true rfl) rfl dX7_scanTold_3 ?_
  exact cg_sub [2, 3, 1, 0] rfl (tl_X7_scanTold_4 C   x0 x1 (((nI 0))) (((nI 0))) S h)
def k_X7_scanDocument_76 (Q : cS → Prop) (dp : Nat) (R2 : Nat → Nat → Nat → Int32 → cS → Prop) (x0 : Nat) (x1 : Nat) (x2 : Nat) (x3 : Int32) (t0 : Int32) (t1 : Int32) (t2 : Nat) (S : cS) : Prop :=
cX S t2 14 t1 ∧ (∀ S10 : cS, S10 = cSI S t2 (t1).toNatClampNeg t0 → ∀ x3_11 : Int32, x3_11 = x3 + nI 1 → R2 x0 x1 x2 x3_11 S10)
def k_X7_scanDocument_2 (Q : cS → Prop) (dp : Nat) (R2 : Nat → Nat → Nat → Int32 → cS → Prop) (x0 : Nat) (x1 : Nat) (x2 : Nat) (x3 : Int32) (S : cS) : Prop :=
cA S x1 6 ∧ ((∃ b1 : Nat, cr S 193 x1 = some b1 ∧ (cA S b1 12 ∧ (k_Jx4a65c_size_8abf5 (fun r_2 S_2 => 
((r_2 ≤ x3 →
  Q S_2) ∧
 (¬ r_2 ≤ x3 →
  ((((nI 24)) ≤ x3 →
    Q S_2) ∧
   (¬ ((nI 24)) ≤ x3 →
    cA S_2 x1 6 ∧ ((∃ b3 : Nat, cr S_2 193 x1 = some b3 ∧ (cA S_2 b3 12 ∧ (k_Jx4a65c_get_915e3 (fun r_4 S_4 => 
    cA S_4 r_4 4 ∧ (cA S_4 r_4 4 ∧ (cA S_4 x2 0 ∧ (k_X0_textOf (fun r_5 S_5 => 
    cA S_5 x0 7 ∧ ((∃ b6 : Nat, cr S_5 225 x0 = some b6 ∧ (cX S_5 b6 18 x3 ∧ ((∃ b7 : Nat, cO S_5 b6 (x3).toNatClampNeg = some b7 ∧ (cA S_5 r_4 4 ∧ (k_X4_isCounted (fun r_8 S_8 => 
    ((r_8 = 0 →
      k_X7_scanTold (fun r_9 S_9 => 
      k_X7_scanDocument_76 Q dp R2 x0 x1 x2 x3 r_9 ((nI 0)) b7 S_9) dp r_4 r_5 S_8) ∧
     (¬ r_8 = 0 →
      cA S_8 x0 7 ∧ (k_X7_scanCounted (fun r_12 S_12 => 
      k_X7_scanDocument_76 Q dp R2 x0 x1 x2 x3 r_12 ((nI 0)) b7 S_12) dp x0 r_4 r_5 S_8)))) dp r_4 S_5)))))))) dp x2 ((ci S_4 129 r_4)) S_4)))) dp b3 x3 S_2))))))))) dp b1 S))))
def k_X7_scanDocument_2L (Q : cS → Prop) (dp : Nat)  (x0 : Nat) (x1 : Nat) (x2 : Nat) (x3 : Int32) (S : cS) : Prop :=
  lfp (X := Nat × Nat × Nat × Int32 × cS) (fun P y => k_X7_scanDocument_2 Q dp  (fun b0 b1 b2 b3 S => P (b0, b1, b2, b3, S)) y.1 y.2.1 y.2.2.1 y.2.2.2.1 y.2.2.2.2) (x0, x1, x2, x3, S)
def k_X7_scanDocument (Q : cS → Prop) (dp : Nat) (x0 : Nat) (x1 : Nat) (x2 : Nat) (S : cS) : Prop :=
k_X7_scanDocument_2L Q dp  x0 x1 x2 (((nI 0))) S
section S_X7_scanDocument
variable {p : Program} {l : Launch} {e : Env} {s : State} {m : MethodId} {args : Array Value} {below : List Frame} {meth : Method} {c : Code} {A : Nat → Prop} {D : va_G} {Y : cY} {tp dp : Nat}
set_option maxRecDepth 20000 in
theorem tb_X7_scanDocument_76 (C : cC p s m args meth c cX7_scanDocument 6 none A D Y tp dp RX7) {post : cS → Prop} {R2 : Nat → Nat → Nat → Int32 → cS → Prop} (hR2 : ∀ (x0 : Nat) (x1 : Nat) (x2 : Nat) (x3 : Int32) (S : cS), R2 x0 x1 x2 x3 S → cG p l e (cRm 5 0 0 106) s m args below meth c A D Y 6 (MQ below (cQv post D Y A) args s 0 0 A) 0 0 2 [(0, .ref x0), (1, .ref x1), (2, .ref x2), (3, .int x3)] [] S) (x0 : Nat) (x1 : Nat) (x2 : Nat) (x3 : Int32) (t0 : Int32) (t1 : Int32) (t2 : Nat) (S : cS) (h : k_X7_scanDocument_76 post dp R2 x0 x1 x2 x3 t0 t1 t2 S) : cG p l e (cRm 5 0 0 106) s m args below meth c A D Y 6 (MQ below (cQv post D Y A) args s 0 0 A) 0 0 76 [(0, .ref x0), (1, .ref x1), (2, .ref x2), (3, .int x3)] [.int t0, .int t1, .ref t2] S := by
  unfold k_X7_scanDocument_76 at h
  obtain ⟨hc_76, h⟩ := h
  refine cg_iastoreR C hc_76 dX7_scanDocument_76 ?_
  refine cg_nm (fun S10 e_S10 => ?_)
  have h := h S10 e_S10
  obtain ⟨x3_11, e_x3_11⟩ : ∃ z : Int32, z = x3 + nI 1 := ⟨_, rfl⟩
  have h := h x3_11 e_x3_11
  refine cg_iinc C (lv' := [(3, .int x3_11), (0, .ref x0), (1, .ref x1), (2, .ref x2)]) 3 rfl (by rw [e_x3_11]; rfl) (Nat.le_of_ble_eq_true rfl) rfl dX7_scanDocument_77 ?_
  refine cg_goto C 2 (by decide) dX7_scanDocument_80 ?_
  exact cg_sub [1, 2, 3, 0] rfl (hR2 x0 x1 x2 x3_11 S10 h)
set_option maxRecDepth 20000 in
theorem tb_X7_scanDocument_2 (C : cC p s m args meth c cX7_scanDocument 6 none A D Y tp dp RX7) {post : cS → Prop} {R2 : Nat → Nat → Nat → Int32 → cS → Prop} (hR2 : ∀ (x0 : Nat) (x1 : Nat) (x2 : Nat) (x3 : Int32) (S : cS), R2 x0 x1 x2 x3 S → cG p l e (cRm 5 0 0 106) s m args below meth c A D Y 6 (MQ below (cQv post D Y A) args s 0 0 A) 0 0 2 [(0, .ref x0), (1, .ref x1), (2, .ref x2), (3, .int x3)] [] S) (x0 : Nat) (x1 : Nat) (x2 : Nat) (x3 : Int32) (S : cS) (h : k_X7_scanDocument_2 post dp R2 x0 x1 x2 x3 S) : cG p l e (cRm 5 0 0 106) s m args below meth c A D Y 6 (MQ below (cQv post D Y A) args s 0 0 A) 0 0 2 [(0, .ref x0), (1, .ref x1), (2, .ref x2), (3, .int x3)] [] S := by
  unfold k_X7_scanDocument_2 at h
  refine cg_iload_n C (i := 3) rfl 3 rfl dX7_scanDocument_2 ?_
  refine cg_aload_n C (i := 1) rfl 1 rfl dX7_scanDocument_3 ?_
  obtain ⟨hc_4, h⟩ := h
  obtain ⟨b1, hb_b1, h⟩ := h
  refine cg_get C (k := 6) (j := 1) (.ref b1) hc_4.1 hc_4.2 (by decide) rfl (by decide) rfl (show cV _ 6 1 x1 = _ from congrArg va_rf hb_b1) cWs_wsX60 cl_X7_41 rfl dX7_scanDocument_4 ?_
  obtain ⟨hc_7, h⟩ := h
  refine cg_calli C (t_Jx4a65c_size_8abf5 l b1 S dp h) cc_X7_47 hc_7.1 hc_7.2 (by decide) rfl rfl ⟨by decide, by decide⟩ ⟨by decide, by decide⟩ rfl (Nat.le_of_ble_eq_true rfl) dX7_scanDocument_7 (fun r_2 S_2 h => ?_)
  refine cg_icmp_ge C 83 (by decide) dX7_scanDocument_10 (fun c_ => ?_) (fun c_ => ?_)
  · have h := h.1 c_
    exact cg_vret C h dX7_scanDocument_83 (by decide) (by decide)
  · have h := h.2 c_
    refine cg_iload_n C (i := 3) rfl 3 rfl dX7_scanDocument_13 ?_
    refine cg_bipush C (x := nI 24) rfl dX7_scanDocument_14 ?_
    refine cg_icmp_ge C 83 (by decide) dX7_scanDocument_16 (fun c_ => ?_) (fun c_ => ?_)
    · have h := h.1 c_
      exact cg_vret C h dX7_scanDocument_83 (by decide) (by decide)
    · have h := h.2 c_
      refine cg_aload_n C (i := 1) rfl 1 rfl dX7_scanDocument_19 ?_
      obtain ⟨hc_20, h⟩ := h
      obtain ⟨b3, hb_b3, h⟩ := h
      refine cg_get C (k := 6) (j := 1) (.ref b3) hc_20.1 hc_20.2 (by decide) rfl (by decide) rfl (show cV _ 6 1 x1 = _ from congrArg va_rf hb_b3) cWs_wsX60 cl_X7_41 rfl dX7_scanDocument_20 ?_
      refine cg_iload_n C (i := 3) rfl 3 rfl dX7_scanDocument_23 ?_
      obtain ⟨hc_24, h⟩ := h
      refine cg_callr C (t_Jx4a65c_get_915e3 l b3 x3 S_2 dp h) cc_X7_52 hc_24.1 hc_24.2 (by decide) rfl rfl ⟨by decide, by decide⟩ ⟨by decide, by decide⟩ rfl (Nat.le_of_ble_eq_true rfl) dX7_scanDocument_24 (fun r_4 S_4 h => ?_)
      obtain ⟨hc_27, h⟩ := h
      refine cg_ccast C (k := 4) hc_27.1 hc_27.2 (by decide) rfl cnc_X7_56 dX7_scanDocument_27 ?_
      refine cg_astore (lv' := [(4, .ref r_4), (0, .ref x0), (1, .ref x1), (2, .ref x2), (3, .int x3)]) C (Nat.le_of_ble_eq_true rfl) rfl dX7_scanDocument_30 ?_
      refine cg_aload_n C (i := 2) rfl 3 rfl dX7_scanDocument_32 ?_
      refine cg_aload C 0 rfl dX7_scanDocument_33 ?_
      obtain ⟨hc_35, h⟩ := h
      refine cg_get C (k := 4) (j := 1) (.int (ci S_4 129 r_4)) hc_35.1 hc_35.2 (by decide) rfl (by decide) rfl rfl cWs_wsX40 cl_X7_61 rfl dX7_scanDocument_35 ?_
      obtain ⟨hc_38, h⟩ := h
      refine cg_callr C (t_X0_textOf l x2 ((ci S_4 129 r_4)) S_4 dp h) cc_X7_169 hc_38.1 hc_38.2 (by decide) rfl rfl ⟨by decide, by decide⟩ ⟨by decide, by decide⟩ rfl (Nat.le_of_ble_eq_true rfl) dX7_scanDocument_38 (fun r_5 S_5 h => ?_)
      refine cg_astore (lv' := [(5, .ref r_5), (4, .ref r_4), (0, .ref x0), (1, .ref x1), (2, .ref x2), (3, .int x3)]) C (Nat.le_of_ble_eq_true rfl) rfl dX7_scanDocument_41 ?_
      refine cg_aload_n C (i := 0) rfl 2 rfl dX7_scanDocument_43 ?_
      obtain ⟨hc_44, h⟩ := h
      obtain ⟨b6, hb_b6, h⟩ := h
      refine cg_get C (k := 7) (j := 1) (.ref b6) hc_44.1 hc_44.2 (by decide) rfl (by decide) rfl (show cV _ 7 1 x0 = _ from congrArg va_rf hb_b6) cWs_wsX70 cl_X7_17 rfl dX7_scanDocument_44 ?_
      refine cg_iload_n C (i := 3) rfl 5 rfl dX7_scanDocument_47 ?_
      obtain ⟨hc_48, h⟩ := h
      obtain ⟨b7, hb_b7, h⟩ := h
      refine cg_aaload2R C hc_48 hb_b7 dX7_scanDocument_48 ?_
      refine cg_iconst C (x := nI 0) rfl dX7_scanDocument_49 ?_
      refine cg_aload C 1 rfl dX7_scanDocument_50 ?_
      obtain ⟨hc_52, h⟩ := h
      refine cg_calli C (t_X4_isCounted l r_4 S_5 dp h) cc_X7_110 hc_52.1 hc_52.2 (by decide) rfl rfl ⟨by decide, by decide⟩ ⟨by decide, by decide⟩ rfl (Nat.le_of_ble_eq_true rfl) dX7_scanDocument_52 (fun r_8 S_8 h => ?_)
      refine cg_if_eq C 69 (by decide) dX7_scanDocument_55 (fun c_ => ?_) (fun c_ => ?_)
      · have h := h.1 c_
        refine cg_aload C 1 rfl dX7_scanDocument_69 ?_
        refine cg_aload C 0 rfl dX7_scanDocument_71 ?_
        refine cg_callsi C (t_X7_scanTold l r_4 r_5 S_8 dp h) cc_X7_183 rfl ⟨by decide, by decide⟩ ⟨by decide, by decide⟩ rfl (Nat.le_of_ble_eq_true rfl) dX7_scanDocument_73 (fun r_9 S_9 h => ?_)
        exact cg_sub [2, 3, 4, 5] rfl (tb_X7_scanDocument_76 C  hR2 x0 x1 x2 x3 r_9 ((nI 0)) b7 S_9 h)
      · have h := h.2 c_
        refine cg_aload_n C (i := 0) rfl 2 rfl dX7_scanDocument_58 ?_
        refine cg_aload C 1 rfl dX7_scanDocument_59 ?_
        refine cg_aload C 0 rfl dX7_scanDocument_61 ?_
        obtain ⟨hc_63, h⟩ := h
        refine cg_calli C (t_X7_scanCounted l x0 r_4 r_5 S_8 dp h) cc_X7_179 hc_63.1 hc_63.2 (by decide) rfl rfl ⟨by decide, by decide⟩ ⟨by decide, by decide⟩ rfl (Nat.le_of_ble_eq_true rfl) dX7_scanDocument_63 (fun r_12 S_12 h => ?_)
        refine cg_goto C 76 (by decide) dX7_scanDocument_66 ?_
        exact cg_sub [2, 3, 4, 5] rfl (tb_X7_scanDocument_76 C  hR2 x0 x1 x2 x3 r_12 ((nI 0)) b7 S_12 h)
set_option maxRecDepth 20000 in
theorem tl_X7_scanDocument_2 (C : cC p s m args meth c cX7_scanDocument 6 none A D Y tp dp RX7) {post : cS → Prop}   (x0 : Nat) (x1 : Nat) (x2 : Nat) (x3 : Int32) (S : cS) (h : k_X7_scanDocument_2L post dp  x0 x1 x2 x3 S) : cG p l e (cRm 5 0 0 106) s m args below meth c A D Y 6 (MQ below (cQv post D Y A) args s 0 0 A) 0 0 2 [(0, .ref x0), (1, .ref x1), (2, .ref x2), (3, .int x3)] [] S :=
  h (fun y => cG p l e (cRm 5 0 0 106) s m args below meth c A D Y 6 (MQ below (cQv post D Y A) args s 0 0 A) 0 0 2 [(0, .ref (y.1)), (1, .ref (y.2.1)), (2, .ref (y.2.2.1)), (3, .int (y.2.2.2.1))] [] (y.2.2.2.2)) (fun y hy => tb_X7_scanDocument_2 C   (fun b0 b1 b2 b3 S z => z) (y.1) (y.2.1) (y.2.2.1) (y.2.2.2.1) (y.2.2.2.2) hy)
end S_X7_scanDocument
set_option maxHeartbeats 1000000 in
set_option maxRecDepth 20000 in
theorem t_X7_scanDocument (l : Launch) (x0 : Nat) (x1 : Nat) (x2 : Nat) (S : cS) (dp : Nat) {P : cS → Prop} (h : k_X7_scanDocument P dp x0 x1 x2 S) : cMet (cQv P) l yX7_scanDocument cX7_scanDocument 6 none 5 0 0 106 [.ref x0, .ref x1, .ref x2] S dp := by
  intro D Y tp sz
  refine cg_body (by decide +kernel) (Nat.le_of_ble_eq_true rfl) ?_
  intro p e s m args below meth c C
  generalize va_A (cWd Y S) sz = A at C ⊢
  have C : cC p s m args meth c cX7_scanDocument 6 none A D Y tp dp RX7 := C
  refine cg_lv (lv' := [(0, .ref x0), (1, .ref x1), (2, .ref x2)]) rfl ?_
  unfold k_X7_scanDocument at h
  refine cg_iconst C (x := nI 0) rfl dX7_scanDocument_0 ?_
  refine cg_istore_n C (i := 3) (lv' := [(3, .int ((nI 0))), (0, .ref x0), (1, .ref x1), (2, .ref x2)]) rfl (Nat.le_of_ble_eq_true rfl) rfl dX7_scanDocument_1 ?_
  exact cg_sub [1, 2, 3, 0] rfl (tl_X7_scanDocument_2 C   x0 x1 x2 (((nI 0))) S h)
def k_X1_readSpots_112 (Q : Int32 → cS → Prop) (dp : Nat) (R28 : Nat → Nat → Int32 → Int32 → Int32 → cS → Prop) (x0 : Nat) (x1 : Nat) (x2 : Int32) (x3 : Int32) (x4 : Int32) (S : cS) : Prop :=
∀ x4_12 : Int32, x4_12 = x4 + nI 1 → R28 x0 x1 x2 x3 x4_12 S
def k_X1_readSpots_28 (Q : Int32 → cS → Prop) (dp : Nat) (R28 : Nat → Nat → Int32 → Int32 → Int32 → cS → Prop) (x0 : Nat) (x1 : Nat) (x2 : Int32) (x3 : Int32) (x4 : Int32) (S : cS) : Prop :=
cA S x1 6 ∧ ((∃ b5 : Nat, cr S 193 x1 = some b5 ∧ (cA S b5 12 ∧ (k_Jx4a65c_size_8abf5 (fun r_6 S_6 => 
((r_6 ≤ x4 →
  Q x3 S_6) ∧
 (¬ r_6 ≤ x4 →
  cA S_6 x0 1 ∧ ((∃ b7 : Nat, cr S_6 45 x0 = some b7 ∧ (cA S_6 b7 14 ∧ (((((nI (cn S_6 b7))) ≤ x4 →
    Q x3 S_6) ∧
   (¬ ((nI (cn S_6 b7))) ≤ x4 →
    cA S_6 x1 6 ∧ ((∃ b8 : Nat, cr S_6 193 x1 = some b8 ∧ (cA S_6 b8 12 ∧ (k_Jx4a65c_get_915e3 (fun r_9 S_9 => 
    cA S_9 r_9 4 ∧ (cA S_9 x0 1 ∧ ((∃ b10 : Nat, cr S_9 32 x0 = some b10 ∧ (cA S_9 b10 7 ∧ (k_X7_markAt (fun r_11 S_11 => 
    cA S_11 r_9 4 ∧ (((¬ ((ci S_11 133 r_9)) = 0 →
      k_X1_readSpots_112 Q dp R28 x0 x1 x2 x3 x4 S_11) ∧
     (((ci S_11 133 r_9)) = 0 →
      cA S_11 r_9 4 ∧ (((¬ ((ci S_11 129 r_9)) = x2 →
        k_X1_readSpots_112 Q dp R28 x0 x1 x2 x3 x4 S_11) ∧
       (((ci S_11 129 r_9)) = x2 →
        ((r_11 = 0 →
          k_X1_readSpots_112 Q dp R28 x0 x1 x2 x3 x4 S_11) ∧
         (¬ r_11 = 0 →
          cA S_11 x0 1 ∧ ((∃ b13 : Nat, cr S_11 45 x0 = some b13 ∧ (cX S_11 b13 14 x4 ∧ (∀ S14 : cS, S14 = cSI S_11 b13 (x4).toNatClampNeg r_11 → ∀ x3_15 : Int32, x3_15 = (x3 ||| r_11) → k_X1_readSpots_112 Q dp R28 x0 x1 x2 x3_15 x4 S14))))))))))))) dp b10 x4 ((nI 0)) S_9)))))) dp b8 x4 S_6))))))))))))) dp b5 S))))
def k_X1_readSpots_28L (Q : Int32 → cS → Prop) (dp : Nat)  (x0 : Nat) (x1 : Nat) (x2 : Int32) (x3 : Int32) (x4 : Int32) (S : cS) : Prop :=
  lfp (X := Nat × Nat × Int32 × Int32 × Int32 × cS) (fun P y => k_X1_readSpots_28 Q dp  (fun b0 b1 b2 b3 b4 S => P (b0, b1, b2, b3, b4, S)) y.1 y.2.1 y.2.2.1 y.2.2.2.1 y.2.2.2.2.1 y.2.2.2.2.2) (x0, x1, x2, x3, x4, S)
def k_X1_readSpots (Q : Int32 → cS → Prop) (dp : Nat) (x0 : Nat) (x1 : Nat) (x2 : Int32) (S : cS) : Prop :=
cA S x0 1 ∧ ((∃ b1 : Nat, cr S 45 x0 = some b1 ∧ (k_J7_fill_53178 (fun S_2 => 
cA S_2 x0 1 ∧ ((∃ b3 : Nat, cr S_2 32 x0 = some b3 ∧ (cA S_2 b3 7 ∧ (k_X7_valueAt (fun r_4 S_4 => 
((¬ r_4 = (((-1))) →
  k_X1_readSpots_28L Q dp  x0 x1 x2 (((nI 0))) (((nI 0))) S_4) ∧
 (r_4 = (((-1))) →
  Q ((nI 0)) S_4))) dp b3 x1 ((nI 0)) S_2))))) dp b1 (((-1))) S)))
section S_X1_readSpots
variable {p : Program} {l : Launch} {e : Env} {s : State} {m : MethodId} {args : Array Value} {below : List Frame} {meth : Method} {c : Code} {A : Nat → Prop} {D : va_G} {Y : cY} {tp dp : Nat}
set_option maxRecDepth 20000 in
theorem tb_X1_readSpots_112 (C : cC p s m args meth c cX1_readSpots 7 (some .int) A D Y tp dp RX1) {post : Int32 → cS → Prop} {R28 : Nat → Nat → Int32 → Int32 → Int32 → cS → Prop} (hR28 : ∀ (x0 : Nat) (x1 : Nat) (x2 : Int32) (x3 : Int32) (x4 : Int32) (S : cS), R28 x0 x1 x2 x3 x4 S → cG p l e (cRm 5 0 0 113) s m args below meth c A D Y 7 (MQ below (cQi post D Y A) args s 0 0 A) 0 0 28 [(0, .ref x0), (1, .ref x1), (2, .int x2), (3, .int x3), (4, .int x4)] [] S) (x0 : Nat) (x1 : Nat) (x2 : Int32) (x3 : Int32) (x4 : Int32) (S : cS) (h : k_X1_readSpots_112 post dp R28 x0 x1 x2 x3 x4 S) : cG p l e (cRm 5 0 0 113) s m args below meth c A D Y 7 (MQ below (cQi post D Y A) args s 0 0 A) 0 0 112 [(0, .ref x0), (1, .ref x1), (2, .int x2), (3, .int x3), (4, .int x4)] [] S := by
  unfold k_X1_readSpots_112 at h
  obtain ⟨x4_12, e_x4_12⟩ : ∃ z : Int32, z = x4 + nI 1 := ⟨_, rfl⟩
  have h := h x4_12 e_x4_12
  refine cg_iinc C (lv' := [(4, .int x4_12), (0, .ref x0), (1, .ref x1), (2, .int x2), (3, .int x3)]) 4 rfl (by rw [e_x4_12]; rfl) (Nat.le_of_ble_eq_true rfl) rfl dX1_readSpots_112 ?_
  refine cg_goto C 28 (by decide) dX1_readSpots_115 ?_
  exact cg_sub [1, 2, 3, 4, 0] rfl (hR28 x0 x1 x2 x3 x4_12 S h)
set_option maxRecDepth 20000 in
theorem tb_X1_readSpots_28 (C : cC p s m args meth c cX1_readSpots 7 (some .int) A D Y tp dp RX1) {post : Int32 → cS → Prop} {R28 : Nat → Nat → Int32 → Int32 → Int32 → cS → Prop} (hR28 : ∀ (x0 : Nat) (x1 : Nat) (x2 : Int32) (x3 : Int32) (x4 : Int32) (S : cS), R28 x0 x1 x2 x3 x4 S → cG p l e (cRm 5 0 0 113) s m args below meth c A D Y 7 (MQ below (cQi post D Y A) args s 0 0 A) 0 0 28 [(0, .ref x0), (1, .ref x1), (2, .int x2), (3, .int x3), (4, .int x4)] [] S) (x0 : Nat) (x1 : Nat) (x2 : Int32) (x3 : Int32) (x4 : Int32) (S : cS) (h : k_X1_readSpots_28 post dp R28 x0 x1 x2 x3 x4 S) : cG p l e (cRm 5 0 0 113) s m args below meth c A D Y 7 (MQ below (cQi post D Y A) args s 0 0 A) 0 0 28 [(0, .ref x0), (1, .ref x1), (2, .int x2), (3, .int x3), (4, .int x4)] [] S := by
  unfold k_X1_readSpots_28 at h
  refine cg_iload C 4 rfl dX1_readSpots_28 ?_
  refine cg_aload_n C (i := 1) rfl 1 rfl dX1_readSpots_30 ?_
  obtain ⟨hc_31, h⟩ := h
  obtain ⟨b5, hb_b5, h⟩ := h
  refine cg_get C (k := 6) (j := 1) (.ref b5) hc_31.1 hc_31.2 (by decide) rfl (by decide) rfl (show cV _ 6 1 x1 = _ from congrArg va_rf hb_b5) cWs_wsX60 cl_X1_155 rfl dX1_readSpots_31 ?_
  obtain ⟨hc_34, h⟩ := h
  refine cg_calli C (t_Jx4a65c_size_8abf5 l b5 S dp h) cc_X1_160 hc_34.1 hc_34.2 (by decide) rfl rfl ⟨by decide, by decide⟩ ⟨by decide, by decide⟩ rfl (Nat.le_of_ble_eq_true rfl) dX1_readSpots_34 (fun r_6 S_6 h => ?_)
  refine cg_icmp_ge C 118 (by decide) dX1_readSpots_37 (fun c_ => ?_) (fun c_ => ?_)
  · have h := h.1 c_
    refine cg_iload_n C (i := 3) rfl 3 rfl dX1_readSpots_118 ?_
    exact cg_iret C h dX1_readSpots_119 (by decide) (by decide)
  · have h := h.2 c_
    refine cg_iload C 4 rfl dX1_readSpots_40 ?_
    refine cg_aload_n C (i := 0) rfl 0 rfl dX1_readSpots_42 ?_
    obtain ⟨hc_43, h⟩ := h
    obtain ⟨b7, hb_b7, h⟩ := h
    refine cg_get C (k := 1) (j := 13) (.ref b7) hc_43.1 hc_43.2 (by decide) rfl (by decide) rfl (show cV _ 1 13 x0 = _ from congrArg va_rf hb_b7) cWs_wsX10 cl_X1_51 rfl dX1_readSpots_43 ?_
    obtain ⟨hc_46, h⟩ := h
    refine cg_alen C hc_46.1 hc_46.2 (by decide) (by decide) dX1_readSpots_46 ?_
    refine cg_icmp_ge C 118 (by decide) dX1_readSpots_47 (fun c_ => ?_) (fun c_ => ?_)
    · have h := h.1 c_
      refine cg_iload_n C (i := 3) rfl 3 rfl dX1_readSpots_118 ?_
      exact cg_iret C h dX1_readSpots_119 (by decide) (by decide)
    · have h := h.2 c_
      refine cg_aload_n C (i := 1) rfl 1 rfl dX1_readSpots_50 ?_
      obtain ⟨hc_51, h⟩ := h
      obtain ⟨b8, hb_b8, h⟩ := h
      refine cg_get C (k := 6) (j := 1) (.ref b8) hc_51.1 hc_51.2 (by decide) rfl (by decide) rfl (show cV _ 6 1 x1 = _ from congrArg va_rf hb_b8) cWs_wsX60 cl_X1_155 rfl dX1_readSpots_51 ?_
      refine cg_iload C 4 rfl dX1_readSpots_54 ?_
      obtain ⟨hc_56, h⟩ := h
      refine cg_callr C (t_Jx4a65c_get_915e3 l b8 x4 S_6 dp h) cc_X1_113 hc_56.1 hc_56.2 (by decide) rfl rfl ⟨by decide, by decide⟩ ⟨by decide, by decide⟩ rfl (Nat.le_of_ble_eq_true rfl) dX1_readSpots_56 (fun r_9 S_9 h => ?_)
      obtain ⟨hc_59, h⟩ := h
      refine cg_ccast C (k := 4) hc_59.1 hc_59.2 (by decide) rfl cnc_X1_161 dX1_readSpots_59 ?_
      refine cg_astore (lv' := [(5, .ref r_9), (0, .ref x0), (1, .ref x1), (2, .int x2), (3, .int x3), (4, .int x4)]) C (Nat.le_of_ble_eq_true rfl) rfl dX1_readSpots_62 ?_
      refine cg_aload_n C (i := 0) rfl 1 rfl dX1_readSpots_64 ?_
      obtain ⟨hc_65, h⟩ := h
      obtain ⟨b10, hb_b10, h⟩ := h
      refine cg_get C (k := 1) (j := 0) (.ref b10) hc_65.1 hc_65.2 (by decide) rfl (by decide) rfl (show cV _ 1 0 x0 = _ from congrArg va_rf hb_b10) cWs_wsX10 cl_X1_54 rfl dX1_readSpots_65 ?_
      refine cg_iload C 5 rfl dX1_readSpots_68 ?_
      refine cg_iconst C (x := nI 0) rfl dX1_readSpots_70 ?_
      obtain ⟨hc_71, h⟩ := h
      refine cg_calli C (t_X7_markAt l b10 x4 ((nI 0)) S_9 dp h) cc_X1_163 hc_71.1 hc_71.2 (by decide) rfl rfl ⟨by decide, by decide⟩ ⟨by decide, by decide⟩ rfl (Nat.le_of_ble_eq_true rfl) dX1_readSpots_71 (fun r_11 S_11 h => ?_)
      refine cg_istore C (lv' := [(6, .int r_11), (5, .ref r_9), (0, .ref x0), (1, .ref x1), (2, .int x2), (3, .int x3), (4, .int x4)]) (Nat.le_of_ble_eq_true rfl) rfl dX1_readSpots_74 ?_
      refine cg_aload C 1 rfl dX1_readSpots_76 ?_
      obtain ⟨hc_78, h⟩ := h
      refine cg_get C (k := 4) (j := 5) (.int (ci S_11 133 r_9)) hc_78.1 hc_78.2 (by decide) rfl (by decide) rfl rfl cWs_wsX40 cl_X1_166 rfl dX1_readSpots_78 ?_
      refine cg_if_ne C 112 (by decide) dX1_readSpots_81 (fun c_ => ?_) (fun c_ => ?_)
      · have h := h.1 c_
        exact cg_sub [2, 3, 4, 5, 6] rfl (tb_X1_readSpots_112 C  hR28 x0 x1 x2 x3 x4 S_11 h)
      · have h := h.2 c_
        refine cg_aload C 1 rfl dX1_readSpots_84 ?_
        obtain ⟨hc_86, h⟩ := h
        refine cg_get C (k := 4) (j := 1) (.int (ci S_11 129 r_9)) hc_86.1 hc_86.2 (by decide) rfl (by decide) rfl rfl cWs_wsX40 cl_X1_170 rfl dX1_readSpots_86 ?_
        refine cg_iload_n C (i := 2) rfl 4 rfl dX1_readSpots_89 ?_
        refine cg_icmp_ne C 112 (by decide) dX1_readSpots_90 (fun c_ => ?_) (fun c_ => ?_)
        · have h := h.1 c_
          exact cg_sub [2, 3, 4, 5, 6] rfl (tb_X1_readSpots_112 C  hR28 x0 x1 x2 x3 x4 S_11 h)
        · have h := h.2 c_
          refine cg_iload C 0 rfl dX1_readSpots_93 ?_
          refine cg_if_eq C 112 (by decide) dX1_readSpots_95 (fun c_ => ?_) (fun c_ => ?_)
          · have h := h.1 c_
            exact cg_sub [2, 3, 4, 5, 6] rfl (tb_X1_readSpots_112 C  hR28 x0 x1 x2 x3 x4 S_11 h)
          · have h := h.2 c_
            refine cg_aload_n C (i := 0) rfl 2 rfl dX1_readSpots_98 ?_
            obtain ⟨hc_99, h⟩ := h
            obtain ⟨b13, hb_b13, h⟩ := h
            refine cg_get C (k := 1) (j := 13) (.ref b13) hc_99.1 hc_99.2 (by decide) rfl (by decide) rfl (show cV _ 1 13 x0 = _ from congrArg va_rf hb_b13) cWs_wsX10 cl_X1_51 rfl dX1_readSpots_99 ?_
            refine cg_iload C 6 rfl dX1_readSpots_102 ?_
            refine cg_iload C 0 rfl dX1_readSpots_104 ?_
            obtain ⟨hc_106, h⟩ := h
            refine cg_iastoreR C hc_106 dX1_readSpots_106 ?_
            refine cg_nm (fun S14 e_S14 => ?_)
            have h := h S14 e_S14
            refine cg_iload_n C (i := 3) rfl 5 rfl dX1_readSpots_107 ?_
            refine cg_iload C 0 rfl dX1_readSpots_108 ?_
            refine cg_ior C dX1_readSpots_110 ?_
            refine cg_nmI (fun x3_15 e_x3_15 => ?_)
            have h := h x3_15 e_x3_15
            refine cg_istore_n C (i := 3) (lv' := [(3, .int x3_15), (6, .int r_11), (5, .ref r_9), (0, .ref x0), (1, .ref x1), (2, .int x2), (4, .int x4)]) rfl (Nat.le_of_ble_eq_true rfl) rfl dX1_readSpots_111 ?_
            exact cg_sub [3, 4, 5, 0, 6] rfl (tb_X1_readSpots_112 C  hR28 x0 x1 x2 x3_15 x4 S14 h)
set_option maxRecDepth 20000 in
theorem tl_X1_readSpots_28 (C : cC p s m args meth c cX1_readSpots 7 (some .int) A D Y tp dp RX1) {post : Int32 → cS → Prop}   (x0 : Nat) (x1 : Nat) (x2 : Int32) (x3 : Int32) (x4 : Int32) (S : cS) (h : k_X1_readSpots_28L post dp  x0 x1 x2 x3 x4 S) : cG p l e (cRm 5 0 0 113) s m args below meth c A D Y 7 (MQ below (cQi post D Y A) args s 0 0 A) 0 0 28 [(0, .ref x0), (1, .ref x1), (2, .int x2), (3, .int x3), (4, .int x4)] [] S :=
  h (fun y => cG p l e (cRm 5 0 0 113) s m args below meth c A D Y 7 (MQ below (cQi post D Y A) args s 0 0 A) 0 0 28 [(0, .ref (y.1)), (1, .ref (y.2.1)), (2, .int (y.2.2.1)), (3, .int (y.2.2.2.1)), (4, .int (y.2.2.2.2.1))] [] (y.2.2.2.2.2)) (fun y hy => tb_X1_readSpots_28 C   (fun b0 b1 b2 b3 b4 S z => z) (y.1) (y.2.1) (y.2.2.1) (y.2.2.2.1) (y.2.2.2.2.1) (y.2.2.2.2.2) hy)
end S_X1_readSpots
set_option maxHeartbeats 1000000 in
set_option maxRecDepth 20000 in
theorem t_X1_readSpots (l : Launch) (x0 : Nat) (x1 : Nat) (x2 : Int32) (S : cS) (dp : Nat) {P : Int32 → cS → Prop} (h : k_X1_readSpots P dp x0 x1 x2 S) : cMet (cQi P) l yX1_readSpots cX1_readSpots 7 (some .int) 5 0 0 113 [.ref x0, .ref x1, .int x2] S dp := by
  intro D Y tp sz
  refine cg_body (by decide +kernel) (Nat.le_of_ble_eq_true rfl) ?_
  intro p e s m args below meth c C
  generalize va_A (cWd Y S) sz = A at C ⊢
  have C : cC p s m args meth c cX1_readSpots 7 (some .int) A D Y tp dp RX1 := C
  refine cg_lv (lv' := [(0, .ref x0), (1, .ref x1), (2, .int x2)]) rfl ?_
  unfold k_X1_readSpots at h
  refine cg_aload_n C (i := 0) rfl 0 rfl dX1_readSpots_0 ?_
  obtain ⟨hc_1, h⟩ := h
  obtain ⟨b1, hb_b1, h⟩ := h
  refine cg_get C (k := 1) (j := 13) (.ref b1) hc_1.1 hc_1.2 (by decide) rfl (by decide) rfl (show cV _ 1 13 x0 = _ from congrArg va_rf hb_b1) cWs_wsX10 cl_X1_51 rfl dX1_readSpots_1 ?_
  refine cg_iconst C (x := (-1)) rfl dX1_readSpots_4 ?_
  refine cg_callsv C (t_J7_fill_53178 l b1 (((-1))) S dp h) cc_X1_149 rfl ⟨by decide, by decide⟩ ⟨by decide, by decide⟩ rfl (Nat.le_of_ble_eq_true rfl) dX1_readSpots_5 (fun S_2 h => ?_)
  refine cg_aload_n C (i := 0) rfl 0 rfl dX1_readSpots_8 ?_
  obtain ⟨hc_9, h⟩ := h
  obtain ⟨b3, hb_b3, h⟩ := h
  refine cg_get C (k := 1) (j := 0) (.ref b3) hc_9.1 hc_9.2 (by decide) rfl (by decide) rfl (show cV _ 1 0 x0 = _ from congrArg va_rf hb_b3) cWs_wsX10 cl_X1_54 rfl dX1_readSpots_9 ?_
  refine cg_aload_n C (i := 1) rfl 1 rfl dX1_readSpots_12 ?_
  refine cg_iconst C (x := nI 0) rfl dX1_readSpots_13 ?_
  obtain ⟨hc_14, h⟩ := h
  refine cg_calli C (t_X7_valueAt l b3 x1 ((nI 0)) S_2 dp h) cc_X1_124 hc_14.1 hc_14.2 (by decide) rfl rfl ⟨by decide, by decide⟩ ⟨by decide, by decide⟩ rfl (Nat.le_of_ble_eq_true rfl) dX1_readSpots_14 (fun r_4 S_4 h => ?_)
  refine cg_iconst C (x := (-1)) rfl dX1_readSpots_17 ?_
  refine cg_icmp_ne C 23 (by decide) dX1_readSpots_18 (fun c_ => ?_) (fun c_ => ?_)
  · have h := h.1 c_
    refine cg_iconst C (x := nI 0) rfl dX1_readSpots_23 ?_
    refine cg_istore_n C (i := 3) (lv' := [(3, .int ((nI 0))), (0, .ref x0), (1, .ref x1), (2, .int x2)]) rfl (Nat.le_of_ble_eq_true rfl) rfl dX1_readSpots_24 ?_
    refine cg_iconst C (x := nI 0) rfl dX1_readSpots_25 ?_
    refine cg_istore C (lv' := [(4, .int ((nI 0))), (3, .int ((nI 0))), (0, .ref x0), (1, .ref x1), (2, .int x2)]) (Nat.le_of_ble_eq_true rfl) rfl dX1_readSpots_26 ?_
    exact cg_sub [2, 3, 4, 1, 0] rfl (tl_X1_readSpots_28 C   x0 x1 x2 (((nI 0))) (((nI 0))) S_4 h)
  · have h := h.2 c_
    refine cg_iconst C (x := nI 0) rfl dX1_readSpots_21 ?_
    exact cg_iret C h dX1_readSpots_22 (by decide) (by decide)
def k_X1_areSpotsIn_37 (Q : Int32 → cS → Prop) (dp : Nat) (R37 : Nat → Int32 → Int32 → cS → Prop) (x0 : Nat) (x3 : Int32) (x4 : Int32) (S : cS) : Prop :=
cA S x0 14 ∧ (((((nI (cn S x0))) ≤ x4 →
  Q ((bI true)) S) ∧
 (¬ ((nI (cn S x0))) ≤ x4 →
  cX S x0 14 x4 ∧ (((¬ ((((cI S x0 (x4).toNatClampNeg)) &&& x3)) = 0 →
    ∀ x4_1 : Int32, x4_1 = x4 + nI 1 → R37 x0 x3 x4_1 S) ∧
   (((((cI S x0 (x4).toNatClampNeg)) &&& x3)) = 0 →
    Q ((bI false)) S))))))
def k_X1_areSpotsIn_37L (Q : Int32 → cS → Prop) (dp : Nat)  (x0 : Nat) (x3 : Int32) (x4 : Int32) (S : cS) : Prop :=
  lfp (X := Nat × Int32 × Int32 × cS) (fun P y => k_X1_areSpotsIn_37 Q dp  (fun b0 b1 b2 S => P (b0, b1, b2, S)) y.1 y.2.1 y.2.2.1 y.2.2.2) (x0, x3, x4, S)
def k_X1_areSpotsIn_34 (Q : Int32 → cS → Prop) (dp : Nat)  (x0 : Nat) (x3 : Int32) (S : cS) : Prop :=
k_X1_areSpotsIn_37L Q dp  x0 x3 (((nI 0))) S
def k_X1_areSpotsIn_5 (Q : Int32 → cS → Prop) (dp : Nat) (R5 : Nat → Nat → Int32 → Int32 → Int32 → cS → Prop) (x0 : Nat) (x1 : Nat) (x2 : Int32) (x3 : Int32) (x4 : Int32) (S : cS) : Prop :=
((x2 ≤ x4 →
  k_X1_areSpotsIn_34 Q dp  x0 x3 S) ∧
 (¬ x2 ≤ x4 →
  cA S x1 14 ∧ (((((nI (cn S x1))) ≤ x4 →
    k_X1_areSpotsIn_34 Q dp  x0 x3 S) ∧
   (¬ ((nI (cn S x1))) ≤ x4 →
    cX S x1 14 x4 ∧ (∀ x3_2 : Int32, x3_2 = (x3 ||| ((((nI 63)) <<< (((cI S x1 (x4).toNatClampNeg)) &&& 31)))) → ∀ x4_3 : Int32, x4_3 = x4 + nI 1 → R5 x0 x1 x2 x3_2 x4_3 S))))))
def k_X1_areSpotsIn_5L (Q : Int32 → cS → Prop) (dp : Nat)  (x0 : Nat) (x1 : Nat) (x2 : Int32) (x3 : Int32) (x4 : Int32) (S : cS) : Prop :=
  lfp (X := Nat × Nat × Int32 × Int32 × Int32 × cS) (fun P y => k_X1_areSpotsIn_5 Q dp  (fun b0 b1 b2 b3 b4 S => P (b0, b1, b2, b3, b4, S)) y.1 y.2.1 y.2.2.1 y.2.2.2.1 y.2.2.2.2.1 y.2.2.2.2.2) (x0, x1, x2, x3, x4, S)
def k_X1_areSpotsIn (Q : Int32 → cS → Prop) (dp : Nat) (x0 : Nat) (x1 : Nat) (x2 : Int32) (S : cS) : Prop :=
k_X1_areSpotsIn_5L Q dp  x0 x1 x2 (((nI 0))) (((nI 0))) S
section S_X1_areSpotsIn
variable {p : Program} {l : Launch} {e : Env} {s : State} {m : MethodId} {args : Array Value} {below : List Frame} {meth : Method} {c : Code} {A : Nat → Prop} {D : va_G} {Y : cY} {tp dp : Nat}
set_option maxRecDepth 20000 in
theorem tb_X1_areSpotsIn_37 (C : cC p s m args meth c cX1_areSpotsIn 5 (some .boolean) A D Y tp dp RX1) {post : Int32 → cS → Prop} {R37 : Nat → Int32 → Int32 → cS → Prop} (hR37 : ∀ (x0 : Nat) (x3 : Int32) (x4 : Int32) (S : cS), R37 x0 x3 x4 S → cG p l e (cRm 0 0 0 0) s m args below meth c A D Y 5 (MQ below (cQi post D Y A) args s 0 0 A) 0 0 37 [(0, .ref x0), (3, .int x3), (4, .int x4)] [] S) (x0 : Nat) (x3 : Int32) (x4 : Int32) (S : cS) (h : k_X1_areSpotsIn_37 post dp R37 x0 x3 x4 S) : cG p l e (cRm 0 0 0 0) s m args below meth c A D Y 5 (MQ below (cQi post D Y A) args s 0 0 A) 0 0 37 [(0, .ref x0), (3, .int x3), (4, .int x4)] [] S := by
  unfold k_X1_areSpotsIn_37 at h
  refine cg_iload C 2 rfl dX1_areSpotsIn_37 ?_
  refine cg_aload_n C (i := 0) rfl 0 rfl dX1_areSpotsIn_39 ?_
  obtain ⟨hc_40, h⟩ := h
  refine cg_alen C hc_40.1 hc_40.2 (by decide) (by decide) dX1_areSpotsIn_40 ?_
  refine cg_icmp_ge C 61 (by decide) dX1_areSpotsIn_41 (fun c_ => ?_) (fun c_ => ?_)
  · have h := h.1 c_
    refine cg_iconst C (x := nI 1) rfl dX1_areSpotsIn_61 ?_
    refine cg_cast (.int (bI true)) rfl ?_
    exact cg_zret C (bI_nar _) h dX1_areSpotsIn_62 (by decide) (by decide)
  · have h := h.2 c_
    refine cg_aload_n C (i := 0) rfl 0 rfl dX1_areSpotsIn_44 ?_
    refine cg_iload C 2 rfl dX1_areSpotsIn_45 ?_
    obtain ⟨hc_47, h⟩ := h
    refine cg_ialoadR C hc_47 dX1_areSpotsIn_47 ?_
    refine cg_iload_n C (i := 3) rfl 1 rfl dX1_areSpotsIn_48 ?_
    refine cg_iand C dX1_areSpotsIn_49 ?_
    refine cg_if_ne C 55 (by decide) dX1_areSpotsIn_50 (fun c_ => ?_) (fun c_ => ?_)
    · have h := h.1 c_
      obtain ⟨x4_1, e_x4_1⟩ : ∃ z : Int32, z = x4 + nI 1 := ⟨_, rfl⟩
      have h := h x4_1 e_x4_1
      refine cg_iinc C (lv' := [(4, .int x4_1), (0, .ref x0), (3, .int x3)]) 2 rfl (by rw [e_x4_1]; rfl) (Nat.le_of_ble_eq_true rfl) rfl dX1_areSpotsIn_55 ?_
      refine cg_goto C 37 (by decide) dX1_areSpotsIn_58 ?_
      exact cg_sub [1, 2, 0] rfl (hR37 x0 x3 x4_1 S h)
    · have h := h.2 c_
      refine cg_iconst C (x := nI 0) rfl dX1_areSpotsIn_53 ?_
      refine cg_cast (.int (bI false)) rfl ?_
      exact cg_zret C (bI_nar _) h dX1_areSpotsIn_54 (by decide) (by decide)
set_option maxRecDepth 20000 in
theorem tl_X1_areSpotsIn_37 (C : cC p s m args meth c cX1_areSpotsIn 5 (some .boolean) A D Y tp dp RX1) {post : Int32 → cS → Prop}   (x0 : Nat) (x3 : Int32) (x4 : Int32) (S : cS) (h : k_X1_areSpotsIn_37L post dp  x0 x3 x4 S) : cG p l e (cRm 0 0 0 0) s m args below meth c A D Y 5 (MQ below (cQi post D Y A) args s 0 0 A) 0 0 37 [(0, .ref x0), (3, .int x3), (4, .int x4)] [] S :=
  h (fun y => cG p l e (cRm 0 0 0 0) s m args below meth c A D Y 5 (MQ below (cQi post D Y A) args s 0 0 A) 0 0 37 [(0, .ref (y.1)), (3, .int (y.2.1)), (4, .int (y.2.2.1))] [] (y.2.2.2)) (fun y hy => tb_X1_areSpotsIn_37 C   (fun b0 b1 b2 S z => z) (y.1) (y.2.1) (y.2.2.1) (y.2.2.2) hy)
set_option maxRecDepth 20000 in
theorem tb_X1_areSpotsIn_34 (C : cC p s m args meth c cX1_areSpotsIn 5 (some .boolean) A D Y tp dp RX1) {post : Int32 → cS → Prop}   (x0 : Nat) (x3 : Int32) (S : cS) (h : k_X1_areSpotsIn_34 post dp  x0 x3 S) : cG p l e (cRm 0 0 0 0) s m args below meth c A D Y 5 (MQ below (cQi post D Y A) args s 0 0 A) 0 0 34 [(0, .ref x0), (3, .int x3)] [] S := by
  unfold k_X1_areSpotsIn_34 at h
  refine cg_iconst C (x := nI 0) rfl dX1_areSpotsIn_34 ?_
  refine cg_istore C (lv' := [(4, .int ((nI 0))), (0, .ref x0), (3, .int x3)]) (Nat.le_of_ble_eq_true rfl) rfl dX1_areSpotsIn_35 ?_
  exact cg_sub [1, 2, 0] rfl (tl_X1_areSpotsIn_37 C   x0 x3 (((nI 0))) S h)
set_option maxRecDepth 20000 in
theorem tb_X1_areSpotsIn_5 (C : cC p s m args meth c cX1_areSpotsIn 5 (some .boolean) A D Y tp dp RX1) {post : Int32 → cS → Prop} {R5 : Nat → Nat → Int32 → Int32 → Int32 → cS → Prop} (hR5 : ∀ (x0 : Nat) (x1 : Nat) (x2 : Int32) (x3 : Int32) (x4 : Int32) (S : cS), R5 x0 x1 x2 x3 x4 S → cG p l e (cRm 0 0 0 0) s m args below meth c A D Y 5 (MQ below (cQi post D Y A) args s 0 0 A) 0 0 5 [(0, .ref x0), (1, .ref x1), (2, .int x2), (3, .int x3), (4, .int x4)] [] S) (x0 : Nat) (x1 : Nat) (x2 : Int32) (x3 : Int32) (x4 : Int32) (S : cS) (h : k_X1_areSpotsIn_5 post dp R5 x0 x1 x2 x3 x4 S) : cG p l e (cRm 0 0 0 0) s m args below meth c A D Y 5 (MQ below (cQi post D Y A) args s 0 0 A) 0 0 5 [(0, .ref x0), (1, .ref x1), (2, .int x2), (3, .int x3), (4, .int x4)] [] S := by
  unfold k_X1_areSpotsIn_5 at h
  refine cg_iload C 4 rfl dX1_areSpotsIn_5 ?_
  refine cg_iload_n C (i := 2) rfl 2 rfl dX1_areSpotsIn_7 ?_
  refine cg_icmp_ge C 34 (by decide) dX1_areSpotsIn_8 (fun c_ => ?_) (fun c_ => ?_)
  · have h := h.1 c_
    exact cg_sub [0, 3] rfl (tb_X1_areSpotsIn_34 C   x0 x3 S h)
  · have h := h.2 c_
    refine cg_iload C 4 rfl dX1_areSpotsIn_11 ?_
    refine cg_aload_n C (i := 1) rfl 1 rfl dX1_areSpotsIn_13 ?_
    obtain ⟨hc_14, h⟩ := h
    refine cg_alen C hc_14.1 hc_14.2 (by decide) (by decide) dX1_areSpotsIn_14 ?_
    refine cg_icmp_ge C 34 (by decide) dX1_areSpotsIn_15 (fun c_ => ?_) (fun c_ => ?_)
    · have h := h.1 c_
      exact cg_sub [0, 3] rfl (tb_X1_areSpotsIn_34 C   x0 x3 S h)
    · have h := h.2 c_
      refine cg_iload_n C (i := 3) rfl 3 rfl dX1_areSpotsIn_18 ?_
      refine cg_bipush C (x := nI 63) rfl dX1_areSpotsIn_19 ?_
      refine cg_aload_n C (i := 1) rfl 1 rfl dX1_areSpotsIn_21 ?_
      refine cg_iload C 4 rfl dX1_areSpotsIn_22 ?_
      obtain ⟨hc_24, h⟩ := h
      refine cg_ialoadR C hc_24 dX1_areSpotsIn_24 ?_
      refine cg_ishl C dX1_areSpotsIn_25 ?_
      refine cg_ior C dX1_areSpotsIn_26 ?_
      refine cg_nmI (fun x3_2 e_x3_2 => ?_)
      have h := h x3_2 e_x3_2
      refine cg_istore_n C (i := 3) (lv' := [(3, .int x3_2), (0, .ref x0), (1, .ref x1), (2, .int x2), (4, .int x4)]) rfl (Nat.le_of_ble_eq_true rfl) rfl dX1_areSpotsIn_27 ?_
      obtain ⟨x4_3, e_x4_3⟩ : ∃ z : Int32, z = x4 + nI 1 := ⟨_, rfl⟩
      have h := h x4_3 e_x4_3
      refine cg_iinc C (lv' := [(4, .int x4_3), (3, .int x3_2), (0, .ref x0), (1, .ref x1), (2, .int x2)]) 4 rfl (by rw [e_x4_3]; rfl) (Nat.le_of_ble_eq_true rfl) rfl dX1_areSpotsIn_28 ?_
      refine cg_goto C 5 (by decide) dX1_areSpotsIn_31 ?_
      exact cg_sub [2, 3, 4, 1, 0] rfl (hR5 x0 x1 x2 x3_2 x4_3 S h)
set_option maxRecDepth 20000 in
theorem tl_X1_areSpotsIn_5 (C : cC p s m args meth c cX1_areSpotsIn 5 (some .boolean) A D Y tp dp RX1) {post : Int32 → cS → Prop}   (x0 : Nat) (x1 : Nat) (x2 : Int32) (x3 : Int32) (x4 : Int32) (S : cS) (h : k_X1_areSpotsIn_5L post dp  x0 x1 x2 x3 x4 S) : cG p l e (cRm 0 0 0 0) s m args below meth c A D Y 5 (MQ below (cQi post D Y A) args s 0 0 A) 0 0 5 [(0, .ref x0), (1, .ref x1), (2, .int x2), (3, .int x3), (4, .int x4)] [] S :=
  h (fun y => cG p l e (cRm 0 0 0 0) s m args below meth c A D Y 5 (MQ below (cQi post D Y A) args s 0 0 A) 0 0 5 [(0, .ref (y.1)), (1, .ref (y.2.1)), (2, .int (y.2.2.1)), (3, .int (y.2.2.2.1)), (4, .int (y.2.2.2.2.1))] [] (y.2.2.2.2.2)) (fun y hy => tb_X1_areSpotsIn_5 C   (fun b0 b1 b2 b3 b4 S z => z) (y.1) (y.2.1) (y.2.2.1) (y.2.2.2.1) (y.2.2.2.2.1) (y.2.2.2.2.2) hy)
end S_X1_areSpotsIn
set_option maxHeartbeats 1000000 in
set_option maxRecDepth 20000 in
theorem t_X1_areSpotsIn (l : Launch) (x0 : Nat) (x1 : Nat) (x2 : Int32) (S : cS) (dp : Nat) {P : Int32 → cS → Prop} (h : k_X1_areSpotsIn P dp x0 x1 x2 S) : cMet (cQi P) l yX1_areSpotsIn cX1_areSpotsIn 5 (some .boolean) 0 0 0 0 [.ref x0, .ref x1, .int x2] S dp := by
  intro D Y tp sz
  refine cg_body (by decide +kernel) (Nat.le_of_ble_eq_true rfl) ?_
  intro p e s m args below meth c C
  generalize va_A (cWd Y S) sz = A at C ⊢
  have C : cC p s m args meth c cX1_areSpotsIn 5 (some .boolean) A D Y tp dp RX1 := C
  refine cg_lv (lv' := [(0, .ref x0), (1, .ref x1), (2, .int x2)]) rfl ?_
  unfold k_X1_areSpotsIn at h
  refine cg_iconst C (x := nI 0) rfl dX1_areSpotsIn_0 ?_
  refine cg_istore_n C (i := 3) (lv' := [(3, .int ((nI 0))), (0, .ref x0), (1, .ref x1), (2, .int x2)]) rfl (Nat.le_of_ble_eq_true rfl) rfl dX1_areSpotsIn_1 ?_
  refine cg_iconst C (x := nI 0) rfl dX1_areSpotsIn_2 ?_
  refine cg_istore C (lv' := [(4, .int ((nI 0))), (3, .int ((nI 0))), (0, .ref x0), (1, .ref x1), (2, .int x2)]) (Nat.le_of_ble_eq_true rfl) rfl dX1_areSpotsIn_3 ?_
  exact cg_sub [2, 3, 4, 1, 0] rfl (tl_X1_areSpotsIn_5 C   x0 x1 x2 (((nI 0))) (((nI 0))) S h)
def k_X1_isCovered_v0_16 (Q : Int32 → cS → Prop) (dp : Nat)  (x0 : Nat) (x1 : Nat) (x4 : Int32) (S : cS) : Prop :=
k_X1_areSpotsIn (fun r_1 S_1 => 
isZ r_1 ∧ (Q r_1 S_1)) dp x0 x1 x4 S
def k_X1_isCovered_v0_78 (Q : Int32 → cS → Prop) (dp : Nat) (R41 : Nat → Nat → Int32 → Int32 → Int32 → Int32 → cS → Prop) (x0 : Nat) (x1 : Nat) (x2 : Int32) (x3 : Int32) (x4 : Int32) (x5 : Int32) (S : cS) : Prop :=
∀ x5_2 : Int32, x5_2 = x5 + nI 1 → R41 x0 x1 x2 x3 x4 x5_2 S
def k_X1_isCovered_v0_41 (Q : Int32 → cS → Prop) (dp : Nat) (R41 : Nat → Nat → Int32 → Int32 → Int32 → Int32 → cS → Prop) (x0 : Nat) (x1 : Nat) (x2 : Int32) (x3 : Int32) (x4 : Int32) (x5 : Int32) (S : cS) : Prop :=
((((nI 20)) ≤ x5 →
  Q ((bI false)) S) ∧
 (¬ ((nI 20)) ≤ x5 →
  ((((((x2 >>> (x5 &&& 31))) &&& ((nI 1)))) = 0 →
    k_X1_isCovered_v0_78 Q dp R41 x0 x1 x2 x3 x4 x5 S) ∧
   (¬ ((((x2 >>> (x5 &&& 31))) &&& ((nI 1)))) = 0 →
    cX S x1 14 x3 ∧ (∀ S3 : cS, S3 = cSI S x1 (x3).toNatClampNeg x5 → False)))))
def k_X1_isCovered_v0_41L (Q : Int32 → cS → Prop) (dp : Nat)  (x0 : Nat) (x1 : Nat) (x2 : Int32) (x3 : Int32) (x4 : Int32) (x5 : Int32) (S : cS) : Prop :=
  lfp (X := Nat × Nat × Int32 × Int32 × Int32 × Int32 × cS) (fun P y => k_X1_isCovered_v0_41 Q dp  (fun b0 b1 b2 b3 b4 b5 S => P (b0, b1, b2, b3, b4, b5, S)) y.1 y.2.1 y.2.2.1 y.2.2.2.1 y.2.2.2.2.1 y.2.2.2.2.2.1 y.2.2.2.2.2.2) (x0, x1, x2, x3, x4, x5, S)
def k_X1_isCovered_v0_39 (Q : Int32 → cS → Prop) (dp : Nat)  (x0 : Nat) (x1 : Nat) (x2 : Int32) (x3 : Int32) (x4 : Int32) (t0 : Int32) (S : cS) : Prop :=
k_X1_isCovered_v0_41L Q dp  x0 x1 x2 x3 x4 t0 S
def k_X1_isCovered_v0 (Q : Int32 → cS → Prop) (dp : Nat) (x0 : Nat) (x1 : Nat) (x2 : Int32) (x3 : Int32) (x4 : Int32) (S : cS) : Prop :=
((x3 < 0 →
  k_X1_isCovered_v0_16 Q dp  x0 x1 x4 S) ∧
 (¬ x3 < 0 →
  ((x4 ≤ x3 →
    k_X1_isCovered_v0_16 Q dp  x0 x1 x4 S) ∧
   (¬ x4 ≤ x3 →
    cA S x1 14 ∧ (((x3 < ((nI (cn S x1))) →
      ((¬ x3 = 0 →
        cX S x1 14 ((x3 - ((nI 1)))) ∧ (k_X1_isCovered_v0_39 Q dp  x0 x1 x2 x3 x4 ((((cI S x1 ((x3 - ((nI 1)))).toNatClampNeg)) + ((nI 1)))) S)) ∧
       (x3 = 0 →
        k_X1_isCovered_v0_39 Q dp  x0 x1 x2 x3 x4 ((nI 0)) S))) ∧
     (¬ x3 < ((nI (cn S x1))) →
      k_X1_isCovered_v0_16 Q dp  x0 x1 x4 S)))))))
section S_X1_isCovered_v0
variable {p : Program} {l : Launch} {e : Env} {s : State} {m : MethodId} {args : Array Value} {below : List Frame} {meth : Method} {c : Code} {A : Nat → Prop} {D : va_G} {Y : cY} {tp dp : Nat}
set_option maxRecDepth 20000 in
theorem tb_X1_isCovered_v0_16 (C : cC p s m args meth c cX1_isCovered 6 (some .boolean) A D Y tp dp RX1) {post : Int32 → cS → Prop}   (x0 : Nat) (x1 : Nat) (x4 : Int32) (S : cS) (h : k_X1_isCovered_v0_16 post dp  x0 x1 x4 S) : cG p l e (cRm 1 0 0 24) s m args below meth c A D Y 6 (MQ below (cQi post D Y A) args s 0 0 A) 0 0 16 [(0, .ref x0), (1, .ref x1), (4, .int x4)] [] S := by
  unfold k_X1_isCovered_v0_16 at h
  refine cg_aload_n C (i := 0) rfl 0 rfl dX1_isCovered_16 ?_
  refine cg_aload_n C (i := 1) rfl 1 rfl dX1_isCovered_17 ?_
  refine cg_iload C 2 rfl dX1_isCovered_18 ?_
  refine cg_callsi C (t_X1_areSpotsIn l x0 x1 x4 S dp h) cc_X1_173 rfl ⟨by decide, by decide⟩ ⟨by decide, by decide⟩ rfl (Nat.le_of_ble_eq_true rfl) dX1_isCovered_20 (fun r_1 S_1 h => ?_)
  obtain ⟨hz_23, h⟩ := h
  exact cg_zret C (isZ_nar hz_23) h dX1_isCovered_23 (by decide) (by decide)
set_option maxRecDepth 20000 in
theorem tb_X1_isCovered_v0_78 (C : cC p s m args meth c cX1_isCovered 6 (some .boolean) A D Y tp dp RX1) {post : Int32 → cS → Prop} {R41 : Nat → Nat → Int32 → Int32 → Int32 → Int32 → cS → Prop} (hR41 : ∀ (x0 : Nat) (x1 : Nat) (x2 : Int32) (x3 : Int32) (x4 : Int32) (x5 : Int32) (S : cS), R41 x0 x1 x2 x3 x4 x5 S → cG p l e (cRm 1 0 0 24) s m args below meth c A D Y 6 (MQ below (cQi post D Y A) args s 0 0 A) 0 0 41 [(0, .ref x0), (1, .ref x1), (2, .int x2), (3, .int x3), (4, .int x4), (5, .int x5)] [] S) (x0 : Nat) (x1 : Nat) (x2 : Int32) (x3 : Int32) (x4 : Int32) (x5 : Int32) (S : cS) (h : k_X1_isCovered_v0_78 post dp R41 x0 x1 x2 x3 x4 x5 S) : cG p l e (cRm 1 0 0 24) s m args below meth c A D Y 6 (MQ below (cQi post D Y A) args s 0 0 A) 0 0 78 [(0, .ref x0), (1, .ref x1), (2, .int x2), (3, .int x3), (4, .int x4), (5, .int x5)] [] S := by
  unfold k_X1_isCovered_v0_78 at h
  obtain ⟨x5_2, e_x5_2⟩ : ∃ z : Int32, z = x5 + nI 1 := ⟨_, rfl⟩
  have h := h x5_2 e_x5_2
  refine cg_iinc C (lv' := [(5, .int x5_2), (0, .ref x0), (1, .ref x1), (2, .int x2), (3, .int x3), (4, .int x4)]) 5 rfl (by rw [e_x5_2]; rfl) (Nat.le_of_ble_eq_true rfl) rfl dX1_isCovered_78 ?_
  refine cg_goto C 41 (by decide) dX1_isCovered_81 ?_
  exact cg_sub [1, 2, 3, 4, 5, 0] rfl (hR41 x0 x1 x2 x3 x4 x5_2 S h)
set_option maxRecDepth 20000 in
theorem tb_X1_isCovered_v0_41 (C : cC p s m args meth c cX1_isCovered 6 (some .boolean) A D Y tp dp RX1) {post : Int32 → cS → Prop} {R41 : Nat → Nat → Int32 → Int32 → Int32 → Int32 → cS → Prop} (hR41 : ∀ (x0 : Nat) (x1 : Nat) (x2 : Int32) (x3 : Int32) (x4 : Int32) (x5 : Int32) (S : cS), R41 x0 x1 x2 x3 x4 x5 S → cG p l e (cRm 1 0 0 24) s m args below meth c A D Y 6 (MQ below (cQi post D Y A) args s 0 0 A) 0 0 41 [(0, .ref x0), (1, .ref x1), (2, .int x2), (3, .int x3), (4, .int x4), (5, .int x5)] [] S) (x0 : Nat) (x1 : Nat) (x2 : Int32) (x3 : Int32) (x4 : Int32) (x5 : Int32) (S : cS) (h : k_X1_isCovered_v0_41 post dp R41 x0 x1 x2 x3 x4 x5 S) : cG p l e (cRm 1 0 0 24) s m args below meth c A D Y 6 (MQ below (cQi post D Y A) args s 0 0 A) 0 0 41 [(0, .ref x0), (1, .ref x1), (2, .int x2), (3, .int x3), (4, .int x4), (5, .int x5)] [] S := by
  unfold k_X1_isCovered_v0_41 at h
  refine cg_iload C 5 rfl dX1_isCovered_41 ?_
  refine cg_bipush C (x := nI 20) rfl dX1_isCovered_43 ?_
  refine cg_icmp_ge C 84 (by decide) dX1_isCovered_45 (fun c_ => ?_) (fun c_ => ?_)
  · have h := h.1 c_
    refine cg_iconst C (x := nI 0) rfl dX1_isCovered_84 ?_
    refine cg_cast (.int (bI false)) rfl ?_
    exact cg_zret C (bI_nar _) h dX1_isCovered_85 (by decide) (by decide)
  · have h := h.2 c_
    refine cg_iload_n C (i := 2) rfl 2 rfl dX1_isCovered_48 ?_
    refine cg_iload C 5 rfl dX1_isCovered_49 ?_
    refine cg_ishr C dX1_isCovered_51 ?_
    refine cg_iconst C (x := nI 1) rfl dX1_isCovered_52 ?_
    refine cg_iand C dX1_isCovered_53 ?_
    refine cg_if_eq C 78 (by decide) dX1_isCovered_54 (fun c_ => ?_) (fun c_ => ?_)
    · have h := h.1 c_
      exact cg_sub [0, 1, 2, 3, 4, 5] rfl (tb_X1_isCovered_v0_78 C  hR41 x0 x1 x2 x3 x4 x5 S h)
    · have h := h.2 c_
      refine cg_aload_n C (i := 1) rfl 1 rfl dX1_isCovered_57 ?_
      refine cg_iload_n C (i := 3) rfl 3 rfl dX1_isCovered_58 ?_
      refine cg_iload C 5 rfl dX1_isCovered_59 ?_
      obtain ⟨hc_61, h⟩ := h
      refine cg_iastoreR C hc_61 dX1_isCovered_61 ?_
      refine cg_nm (fun S3 e_S3 => ?_)
      have h := h S3 e_S3
      refine cg_aload_n C (i := 0) rfl 0 rfl dX1_isCovered_62 ?_
      refine cg_aload_n C (i := 1) rfl 1 rfl dX1_isCovered_63 ?_
      refine cg_iload_n C (i := 2) rfl 2 rfl dX1_isCovered_64 ?_
      refine cg_iload_n C (i := 3) rfl 3 rfl dX1_isCovered_65 ?_
      refine cg_iconst C (x := nI 1) rfl dX1_isCovered_66 ?_
      refine cg_iadd C dX1_isCovered_67 ?_
      refine cg_iload C 4 rfl dX1_isCovered_68 ?_
      exact h.elim
set_option maxRecDepth 20000 in
theorem tl_X1_isCovered_v0_41 (C : cC p s m args meth c cX1_isCovered 6 (some .boolean) A D Y tp dp RX1) {post : Int32 → cS → Prop}   (x0 : Nat) (x1 : Nat) (x2 : Int32) (x3 : Int32) (x4 : Int32) (x5 : Int32) (S : cS) (h : k_X1_isCovered_v0_41L post dp  x0 x1 x2 x3 x4 x5 S) : cG p l e (cRm 1 0 0 24) s m args below meth c A D Y 6 (MQ below (cQi post D Y A) args s 0 0 A) 0 0 41 [(0, .ref x0), (1, .ref x1), (2, .int x2), (3, .int x3), (4, .int x4), (5, .int x5)] [] S :=
  h (fun y => cG p l e (cRm 1 0 0 24) s m args below meth c A D Y 6 (MQ below (cQi post D Y A) args s 0 0 A) 0 0 41 [(0, .ref (y.1)), (1, .ref (y.2.1)), (2, .int (y.2.2.1)), (3, .int (y.2.2.2.1)), (4, .int (y.2.2.2.2.1)), (5, .int (y.2.2.2.2.2.1))] [] (y.2.2.2.2.2.2)) (fun y hy => tb_X1_isCovered_v0_41 C   (fun b0 b1 b2 b3 b4 b5 S z => z) (y.1) (y.2.1) (y.2.2.1) (y.2.2.2.1) (y.2.2.2.2.1) (y.2.2.2.2.2.1) (y.2.2.2.2.2.2) hy)
set_option maxRecDepth 20000 in
theorem tb_X1_isCovered_v0_39 (C : cC p s m args meth c cX1_isCovered 6 (some .boolean) A D Y tp dp RX1) {post : Int32 → cS → Prop}   (x0 : Nat) (x1 : Nat) (x2 : Int32) (x3 : Int32) (x4 : Int32) (t0 : Int32) (S : cS) (h : k_X1_isCovered_v0_39 post dp  x0 x1 x2 x3 x4 t0 S) : cG p l e (cRm 1 0 0 24) s m args below meth c A D Y 6 (MQ below (cQi post D Y A) args s 0 0 A) 0 0 39 [(0, .ref x0), (1, .ref x1), (2, .int x2), (3, .int x3), (4, .int x4)] [.int t0] S := by
  unfold k_X1_isCovered_v0_39 at h
  refine cg_istore C (lv' := [(5, .int t0), (0, .ref x0), (1, .ref x1), (2, .int x2), (3, .int x3), (4, .int x4)]) (Nat.le_of_ble_eq_true rfl) rfl dX1_isCovered_39 ?_
  exact cg_sub [1, 2, 3, 4, 5, 0] rfl (tl_X1_isCovered_v0_41 C   x0 x1 x2 x3 x4 t0 S h)
end S_X1_isCovered_v0
set_option maxHeartbeats 1000000 in
set_option maxRecDepth 20000 in
theorem t_X1_isCovered_v0 (l : Launch) (x0 : Nat) (x1 : Nat) (x2 : Int32) (x3 : Int32) (x4 : Int32) (S : cS) (dp : Nat) {P : Int32 → cS → Prop} (h : k_X1_isCovered_v0 P dp x0 x1 x2 x3 x4 S) : cMet (cQi P) l yX1_isCovered cX1_isCovered 6 (some .boolean) 1 0 0 24 [.ref x0, .ref x1, .int x2, .int x3, .int x4] S dp := by
  intro D Y tp sz
  refine cg_body (by decide +kernel) (Nat.le_of_ble_eq_true rfl) ?_
  intro p e s m args below meth c C
  generalize va_A (cWd Y S) sz = A at C ⊢
  have C : cC p s m args meth c cX1_isCovered 6 (some .boolean) A D Y tp dp RX1 := C
  refine cg_lv (lv' := [(0, .ref x0), (1, .ref x1), (2, .int x2), (3, .int x3), (4, .int x4)]) rfl ?_
  unfold k_X1_isCovered_v0 at h
  refine cg_iload_n C (i := 3) rfl 3 rfl dX1_isCovered_0 ?_
  refine cg_if_lt C 16 (by decide) dX1_isCovered_1 (fun c_ => ?_) (fun c_ => ?_)
  · have h := h.1 c_
    exact cg_sub [0, 1, 4] rfl (tb_X1_isCovered_v0_16 C   x0 x1 x4 S h)
  · have h := h.2 c_
    refine cg_iload_n C (i := 3) rfl 3 rfl dX1_isCovered_4 ?_
    refine cg_iload C 4 rfl dX1_isCovered_5 ?_
    refine cg_icmp_ge C 16 (by decide) dX1_isCovered_7 (fun c_ => ?_) (fun c_ => ?_)
    · have h := h.1 c_
      exact cg_sub [0, 1, 4] rfl (tb_X1_isCovered_v0_16 C   x0 x1 x4 S h)
    · have h := h.2 c_
      refine cg_iload_n C (i := 3) rfl 3 rfl dX1_isCovered_10 ?_
      refine cg_aload_n C (i := 1) rfl 1 rfl dX1_isCovered_11 ?_
      obtain ⟨hc_12, h⟩ := h
      refine cg_alen C hc_12.1 hc_12.2 (by decide) (by decide) dX1_isCovered_12 ?_
      refine cg_icmp_lt C 24 (by decide) dX1_isCovered_13 (fun c_ => ?_) (fun c_ => ?_)
      · have h := h.1 c_
        refine cg_iload_n C (i := 3) rfl 3 rfl dX1_isCovered_24 ?_
        refine cg_if_ne C 32 (by decide) dX1_isCovered_25 (fun c_ => ?_) (fun c_ => ?_)
        · have h := h.1 c_
          refine cg_aload_n C (i := 1) rfl 1 rfl dX1_isCovered_32 ?_
          refine cg_iload_n C (i := 3) rfl 3 rfl dX1_isCovered_33 ?_
          refine cg_iconst C (x := nI 1) rfl dX1_isCovered_34 ?_
          refine cg_isub C dX1_isCovered_35 ?_
          obtain ⟨hc_36, h⟩ := h
          refine cg_ialoadR C hc_36 dX1_isCovered_36 ?_
          refine cg_iconst C (x := nI 1) rfl dX1_isCovered_37 ?_
          refine cg_iadd C dX1_isCovered_38 ?_
          exact cg_sub [0, 1, 2, 3, 4] rfl (tb_X1_isCovered_v0_39 C   x0 x1 x2 x3 x4 ((((cI S x1 ((x3 - ((nI 1)))).toNatClampNeg)) + ((nI 1)))) S h)
        · have h := h.2 c_
          refine cg_iconst C (x := nI 0) rfl dX1_isCovered_28 ?_
          refine cg_goto C 39 (by decide) dX1_isCovered_29 ?_
          exact cg_sub [0, 1, 2, 3, 4] rfl (tb_X1_isCovered_v0_39 C   x0 x1 x2 x3 x4 ((nI 0)) S h)
      · have h := h.2 c_
        exact cg_sub [0, 1, 4] rfl (tb_X1_isCovered_v0_16 C   x0 x1 x4 S h)
def k_X1_isCovered_v1_16 (Q : Int32 → cS → Prop) (dp : Nat)  (x0 : Nat) (x1 : Nat) (x4 : Int32) (S : cS) : Prop :=
k_X1_areSpotsIn (fun r_1 S_1 => 
isZ r_1 ∧ (Q r_1 S_1)) dp x0 x1 x4 S
def k_X1_isCovered_v1_78 (Q : Int32 → cS → Prop) (dp : Nat) (R41 : Nat → Nat → Int32 → Int32 → Int32 → Int32 → cS → Prop) (x0 : Nat) (x1 : Nat) (x2 : Int32) (x3 : Int32) (x4 : Int32) (x5 : Int32) (S : cS) : Prop :=
∀ x5_2 : Int32, x5_2 = x5 + nI 1 → R41 x0 x1 x2 x3 x4 x5_2 S
def k_X1_isCovered_v1_41 (Q : Int32 → cS → Prop) (dp : Nat) (R41 : Nat → Nat → Int32 → Int32 → Int32 → Int32 → cS → Prop) (x0 : Nat) (x1 : Nat) (x2 : Int32) (x3 : Int32) (x4 : Int32) (x5 : Int32) (S : cS) : Prop :=
((((nI 20)) ≤ x5 →
  Q ((bI false)) S) ∧
 (¬ ((nI 20)) ≤ x5 →
  ((((((x2 >>> (x5 &&& 31))) &&& ((nI 1)))) = 0 →
    k_X1_isCovered_v1_78 Q dp R41 x0 x1 x2 x3 x4 x5 S) ∧
   (¬ ((((x2 >>> (x5 &&& 31))) &&& ((nI 1)))) = 0 →
    cX S x1 14 x3 ∧ (∀ S3 : cS, S3 = cSI S x1 (x3).toNatClampNeg x5 → k_X1_isCovered_v0 (fun r_4 S_4 => 
    ((r_4 = 0 →
      k_X1_isCovered_v1_78 Q dp R41 x0 x1 x2 x3 x4 x5 S_4) ∧
     (¬ r_4 = 0 →
      Q ((bI true)) S_4))) dp x0 x1 x2 ((x3 + ((nI 1)))) x4 S3)))))
def k_X1_isCovered_v1_41L (Q : Int32 → cS → Prop) (dp : Nat)  (x0 : Nat) (x1 : Nat) (x2 : Int32) (x3 : Int32) (x4 : Int32) (x5 : Int32) (S : cS) : Prop :=
  lfp (X := Nat × Nat × Int32 × Int32 × Int32 × Int32 × cS) (fun P y => k_X1_isCovered_v1_41 Q dp  (fun b0 b1 b2 b3 b4 b5 S => P (b0, b1, b2, b3, b4, b5, S)) y.1 y.2.1 y.2.2.1 y.2.2.2.1 y.2.2.2.2.1 y.2.2.2.2.2.1 y.2.2.2.2.2.2) (x0, x1, x2, x3, x4, x5, S)
def k_X1_isCovered_v1_39 (Q : Int32 → cS → Prop) (dp : Nat)  (x0 : Nat) (x1 : Nat) (x2 : Int32) (x3 : Int32) (x4 : Int32) (t0 : Int32) (S : cS) : Prop :=
k_X1_isCovered_v1_41L Q dp  x0 x1 x2 x3 x4 t0 S
def k_X1_isCovered_v1 (Q : Int32 → cS → Prop) (dp : Nat) (x0 : Nat) (x1 : Nat) (x2 : Int32) (x3 : Int32) (x4 : Int32) (S : cS) : Prop :=
((x3 < 0 →
  k_X1_isCovered_v1_16 Q dp  x0 x1 x4 S) ∧
 (¬ x3 < 0 →
  ((x4 ≤ x3 →
    k_X1_isCovered_v1_16 Q dp  x0 x1 x4 S) ∧
   (¬ x4 ≤ x3 →
    cA S x1 14 ∧ (((x3 < ((nI (cn S x1))) →
      ((¬ x3 = 0 →
        cX S x1 14 ((x3 - ((nI 1)))) ∧ (k_X1_isCovered_v1_39 Q dp  x0 x1 x2 x3 x4 ((((cI S x1 ((x3 - ((nI 1)))).toNatClampNeg)) + ((nI 1)))) S)) ∧
       (x3 = 0 →
        k_X1_isCovered_v1_39 Q dp  x0 x1 x2 x3 x4 ((nI 0)) S))) ∧
     (¬ x3 < ((nI (cn S x1))) →
      k_X1_isCovered_v1_16 Q dp  x0 x1 x4 S)))))))
section S_X1_isCovered_v1
variable {p : Program} {l : Launch} {e : Env} {s : State} {m : MethodId} {args : Array Value} {below : List Frame} {meth : Method} {c : Code} {A : Nat → Prop} {D : va_G} {Y : cY} {tp dp : Nat}
set_option maxRecDepth 20000 in
theorem tb_X1_isCovered_v1_16 (C : cC p s m args meth c cX1_isCovered 6 (some .boolean) A D Y tp dp RX1) {post : Int32 → cS → Prop}   (x0 : Nat) (x1 : Nat) (x4 : Int32) (S : cS) (h : k_X1_isCovered_v1_16 post dp  x0 x1 x4 S) : cG p l e (cRm 2 0 0 49) s m args below meth c A D Y 6 (MQ below (cQi post D Y A) args s 0 0 A) 0 0 16 [(0, .ref x0), (1, .ref x1), (4, .int x4)] [] S := by
  unfold k_X1_isCovered_v1_16 at h
  refine cg_aload_n C (i := 0) rfl 0 rfl dX1_isCovered_16 ?_
  refine cg_aload_n C (i := 1) rfl 1 rfl dX1_isCovered_17 ?_
  refine cg_iload C 2 rfl dX1_isCovered_18 ?_
  refine cg_callsi C (t_X1_areSpotsIn l x0 x1 x4 S dp h) cc_X1_173 rfl ⟨by decide, by decide⟩ ⟨by decide, by decide⟩ rfl (Nat.le_of_ble_eq_true rfl) dX1_isCovered_20 (fun r_1 S_1 h => ?_)
  obtain ⟨hz_23, h⟩ := h
  exact cg_zret C (isZ_nar hz_23) h dX1_isCovered_23 (by decide) (by decide)
set_option maxRecDepth 20000 in
theorem tb_X1_isCovered_v1_78 (C : cC p s m args meth c cX1_isCovered 6 (some .boolean) A D Y tp dp RX1) {post : Int32 → cS → Prop} {R41 : Nat → Nat → Int32 → Int32 → Int32 → Int32 → cS → Prop} (hR41 : ∀ (x0 : Nat) (x1 : Nat) (x2 : Int32) (x3 : Int32) (x4 : Int32) (x5 : Int32) (S : cS), R41 x0 x1 x2 x3 x4 x5 S → cG p l e (cRm 2 0 0 49) s m args below meth c A D Y 6 (MQ below (cQi post D Y A) args s 0 0 A) 0 0 41 [(0, .ref x0), (1, .ref x1), (2, .int x2), (3, .int x3), (4, .int x4), (5, .int x5)] [] S) (x0 : Nat) (x1 : Nat) (x2 : Int32) (x3 : Int32) (x4 : Int32) (x5 : Int32) (S : cS) (h : k_X1_isCovered_v1_78 post dp R41 x0 x1 x2 x3 x4 x5 S) : cG p l e (cRm 2 0 0 49) s m args below meth c A D Y 6 (MQ below (cQi post D Y A) args s 0 0 A) 0 0 78 [(0, .ref x0), (1, .ref x1), (2, .int x2), (3, .int x3), (4, .int x4), (5, .int x5)] [] S := by
  unfold k_X1_isCovered_v1_78 at h
  obtain ⟨x5_2, e_x5_2⟩ : ∃ z : Int32, z = x5 + nI 1 := ⟨_, rfl⟩
  have h := h x5_2 e_x5_2
  refine cg_iinc C (lv' := [(5, .int x5_2), (0, .ref x0), (1, .ref x1), (2, .int x2), (3, .int x3), (4, .int x4)]) 5 rfl (by rw [e_x5_2]; rfl) (Nat.le_of_ble_eq_true rfl) rfl dX1_isCovered_78 ?_
  refine cg_goto C 41 (by decide) dX1_isCovered_81 ?_
  exact cg_sub [1, 2, 3, 4, 5, 0] rfl (hR41 x0 x1 x2 x3 x4 x5_2 S h)
set_option maxRecDepth 20000 in
theorem tb_X1_isCovered_v1_41 (C : cC p s m args meth c cX1_isCovered 6 (some .boolean) A D Y tp dp RX1) {post : Int32 → cS → Prop} {R41 : Nat → Nat → Int32 → Int32 → Int32 → Int32 → cS → Prop} (hR41 : ∀ (x0 : Nat) (x1 : Nat) (x2 : Int32) (x3 : Int32) (x4 : Int32) (x5 : Int32) (S : cS), R41 x0 x1 x2 x3 x4 x5 S → cG p l e (cRm 2 0 0 49) s m args below meth c A D Y 6 (MQ below (cQi post D Y A) args s 0 0 A) 0 0 41 [(0, .ref x0), (1, .ref x1), (2, .int x2), (3, .int x3), (4, .int x4), (5, .int x5)] [] S) (x0 : Nat) (x1 : Nat) (x2 : Int32) (x3 : Int32) (x4 : Int32) (x5 : Int32) (S : cS) (h : k_X1_isCovered_v1_41 post dp R41 x0 x1 x2 x3 x4 x5 S) : cG p l e (cRm 2 0 0 49) s m args below meth c A D Y 6 (MQ below (cQi post D Y A) args s 0 0 A) 0 0 41 [(0, .ref x0), (1, .ref x1), (2, .int x2), (3, .int x3), (4, .int x4), (5, .int x5)] [] S := by
  unfold k_X1_isCovered_v1_41 at h
  refine cg_iload C 5 rfl dX1_isCovered_41 ?_
  refine cg_bipush C (x := nI 20) rfl dX1_isCovered_43 ?_
  refine cg_icmp_ge C 84 (by decide) dX1_isCovered_45 (fun c_ => ?_) (fun c_ => ?_)
  · have h := h.1 c_
    refine cg_iconst C (x := nI 0) rfl dX1_isCovered_84 ?_
    refine cg_cast (.int (bI false)) rfl ?_
    exact cg_zret C (bI_nar _) h dX1_isCovered_85 (by decide) (by decide)
  · have h := h.2 c_
    refine cg_iload_n C (i := 2) rfl 2 rfl dX1_isCovered_48 ?_
    refine cg_iload C 5 rfl dX1_isCovered_49 ?_
    refine cg_ishr C dX1_isCovered_51 ?_
    refine cg_iconst C (x := nI 1) rfl dX1_isCovered_52 ?_
    refine cg_iand C dX1_isCovered_53 ?_
    refine cg_if_eq C 78 (by decide) dX1_isCovered_54 (fun c_ => ?_) (fun c_ => ?_)
    · have h := h.1 c_
      exact cg_sub [0, 1, 2, 3, 4, 5] rfl (tb_X1_isCovered_v1_78 C  hR41 x0 x1 x2 x3 x4 x5 S h)
    · have h := h.2 c_
      refine cg_aload_n C (i := 1) rfl 1 rfl dX1_isCovered_57 ?_
      refine cg_iload_n C (i := 3) rfl 3 rfl dX1_isCovered_58 ?_
      refine cg_iload C 5 rfl dX1_isCovered_59 ?_
      obtain ⟨hc_61, h⟩ := h
      refine cg_iastoreR C hc_61 dX1_isCovered_61 ?_
      refine cg_nm (fun S3 e_S3 => ?_)
      have h := h S3 e_S3
      refine cg_aload_n C (i := 0) rfl 0 rfl dX1_isCovered_62 ?_
      refine cg_aload_n C (i := 1) rfl 1 rfl dX1_isCovered_63 ?_
      refine cg_iload_n C (i := 2) rfl 2 rfl dX1_isCovered_64 ?_
      refine cg_iload_n C (i := 3) rfl 3 rfl dX1_isCovered_65 ?_
      refine cg_iconst C (x := nI 1) rfl dX1_isCovered_66 ?_
      refine cg_iadd C dX1_isCovered_67 ?_
      refine cg_iload C 4 rfl dX1_isCovered_68 ?_
      refine cg_callsi C (t_X1_isCovered_v0 l x0 x1 x2 ((x3 + ((nI 1)))) x4 S3 dp h) cc_X1_145 rfl ⟨by decide, by decide⟩ ⟨by decide, by decide⟩ rfl (Nat.le_of_ble_eq_true rfl) dX1_isCovered_70 (fun r_4 S_4 h => ?_)
      refine cg_if_eq C 78 (by decide) dX1_isCovered_73 (fun c_ => ?_) (fun c_ => ?_)
      · have h := h.1 c_
        exact cg_sub [0, 1, 2, 3, 4, 5] rfl (tb_X1_isCovered_v1_78 C  hR41 x0 x1 x2 x3 x4 x5 S_4 h)
      · have h := h.2 c_
        refine cg_iconst C (x := nI 1) rfl dX1_isCovered_76 ?_
        refine cg_cast (.int (bI true)) rfl ?_
        exact cg_zret C (bI_nar _) h dX1_isCovered_77 (by decide) (by decide)
set_option maxRecDepth 20000 in
theorem tl_X1_isCovered_v1_41 (C : cC p s m args meth c cX1_isCovered 6 (some .boolean) A D Y tp dp RX1) {post : Int32 → cS → Prop}   (x0 : Nat) (x1 : Nat) (x2 : Int32) (x3 : Int32) (x4 : Int32) (x5 : Int32) (S : cS) (h : k_X1_isCovered_v1_41L post dp  x0 x1 x2 x3 x4 x5 S) : cG p l e (cRm 2 0 0 49) s m args below meth c A D Y 6 (MQ below (cQi post D Y A) args s 0 0 A) 0 0 41 [(0, .ref x0), (1, .ref x1), (2, .int x2), (3, .int x3), (4, .int x4), (5, .int x5)] [] S :=
  h (fun y => cG p l e (cRm 2 0 0 49) s m args below meth c A D Y 6 (MQ below (cQi post D Y A) args s 0 0 A) 0 0 41 [(0, .ref (y.1)), (1, .ref (y.2.1)), (2, .int (y.2.2.1)), (3, .int (y.2.2.2.1)), (4, .int (y.2.2.2.2.1)), (5, .int (y.2.2.2.2.2.1))] [] (y.2.2.2.2.2.2)) (fun y hy => tb_X1_isCovered_v1_41 C   (fun b0 b1 b2 b3 b4 b5 S z => z) (y.1) (y.2.1) (y.2.2.1) (y.2.2.2.1) (y.2.2.2.2.1) (y.2.2.2.2.2.1) (y.2.2.2.2.2.2) hy)
set_option maxRecDepth 20000 in
theorem tb_X1_isCovered_v1_39 (C : cC p s m args meth c cX1_isCovered 6 (some .boolean) A D Y tp dp RX1) {post : Int32 → cS → Prop}   (x0 : Nat) (x1 : Nat) (x2 : Int32) (x3 : Int32) (x4 : Int32) (t0 : Int32) (S : cS) (h : k_X1_isCovered_v1_39 post dp  x0 x1 x2 x3 x4 t0 S) : cG p l e (cRm 2 0 0 49) s m args below meth c A D Y 6 (MQ below (cQi post D Y A) args s 0 0 A) 0 0 39 [(0, .ref x0), (1, .ref x1), (2, .int x2), (3, .int x3), (4, .int x4)] [.int t0] S := by
  unfold k_X1_isCovered_v1_39 at h
  refine cg_istore C (lv' := [(5, .int t0), (0, .ref x0), (1, .ref x1), (2, .int x2), (3, .int x3), (4, .int x4)]) (Nat.le_of_ble_eq_true rfl) rfl dX1_isCovered_39 ?_
  exact cg_sub [1, 2, 3, 4, 5, 0] rfl (tl_X1_isCovered_v1_41 C   x0 x1 x2 x3 x4 t0 S h)
end S_X1_isCovered_v1
set_option maxHeartbeats 1000000 in
set_option maxRecDepth 20000 in
theorem t_X1_isCovered_v1 (l : Launch) (x0 : Nat) (x1 : Nat) (x2 : Int32) (x3 : Int32) (x4 : Int32) (S : cS) (dp : Nat) {P : Int32 → cS → Prop} (h : k_X1_isCovered_v1 P dp x0 x1 x2 x3 x4 S) : cMet (cQi P) l yX1_isCovered cX1_isCovered 6 (some .boolean) 2 0 0 49 [.ref x0, .ref x1, .int x2, .int x3, .int x4] S dp := by
  intro D Y tp sz
  refine cg_body (by decide +kernel) (Nat.le_of_ble_eq_true rfl) ?_
  intro p e s m args below meth c C
  generalize va_A (cWd Y S) sz = A at C ⊢
  have C : cC p s m args meth c cX1_isCovered 6 (some .boolean) A D Y tp dp RX1 := C
  refine cg_lv (lv' := [(0, .ref x0), (1, .ref x1), (2, .int x2), (3, .int x3), (4, .int x4)]) rfl ?_
  unfold k_X1_isCovered_v1 at h
  refine cg_iload_n C (i := 3) rfl 3 rfl dX1_isCovered_0 ?_
  refine cg_if_lt C 16 (by decide) dX1_isCovered_1 (fun c_ => ?_) (fun c_ => ?_)
  · have h := h.1 c_
    exact cg_sub [0, 1, 4] rfl (tb_X1_isCovered_v1_16 C   x0 x1 x4 S h)
  · have h := h.2 c_
    refine cg_iload_n C (i := 3) rfl 3 rfl dX1_isCovered_4 ?_
    refine cg_iload C 4 rfl dX1_isCovered_5 ?_
    refine cg_icmp_ge C 16 (by decide) dX1_isCovered_7 (fun c_ => ?_) (fun c_ => ?_)
    · have h := h.1 c_
      exact cg_sub [0, 1, 4] rfl (tb_X1_isCovered_v1_16 C   x0 x1 x4 S h)
    · have h := h.2 c_
      refine cg_iload_n C (i := 3) rfl 3 rfl dX1_isCovered_10 ?_
      refine cg_aload_n C (i := 1) rfl 1 rfl dX1_isCovered_11 ?_
      obtain ⟨hc_12, h⟩ := h
      refine cg_alen C hc_12.1 hc_12.2 (by decide) (by decide) dX1_isCovered_12 ?_
      refine cg_icmp_lt C 24 (by decide) dX1_isCovered_13 (fun c_ => ?_) (fun c_ => ?_)
      · have h := h.1 c_
        refine cg_iload_n C (i := 3) rfl 3 rfl dX1_isCovered_24 ?_
        refine cg_if_ne C 32 (by decide) dX1_isCovered_25 (fun c_ => ?_) (fun c_ => ?_)
        · have h := h.1 c_
          refine cg_aload_n C (i := 1) rfl 1 rfl dX1_isCovered_32 ?_
          refine cg_iload_n C (i := 3) rfl 3 rfl dX1_isCovered_33 ?_
          refine cg_iconst C (x := nI 1) rfl dX1_isCovered_34 ?_
          refine cg_isub C dX1_isCovered_35 ?_
          obtain ⟨hc_36, h⟩ := h
          refine cg_ialoadR C hc_36 dX1_isCovered_36 ?_
          refine cg_iconst C (x := nI 1) rfl dX1_isCovered_37 ?_
          refine cg_iadd C dX1_isCovered_38 ?_
          exact cg_sub [0, 1, 2, 3, 4] rfl (tb_X1_isCovered_v1_39 C   x0 x1 x2 x3 x4 ((((cI S x1 ((x3 - ((nI 1)))).toNatClampNeg)) + ((nI 1)))) S h)
        · have h := h.2 c_
          refine cg_iconst C (x := nI 0) rfl dX1_isCovered_28 ?_
          refine cg_goto C 39 (by decide) dX1_isCovered_29 ?_
          exact cg_sub [0, 1, 2, 3, 4] rfl (tb_X1_isCovered_v1_39 C   x0 x1 x2 x3 x4 ((nI 0)) S h)
      · have h := h.2 c_
        exact cg_sub [0, 1, 4] rfl (tb_X1_isCovered_v1_16 C   x0 x1 x4 S h)
def k_X1_isCovered_v2_16 (Q : Int32 → cS → Prop) (dp : Nat)  (x0 : Nat) (x1 : Nat) (x4 : Int32) (S : cS) : Prop :=
k_X1_areSpotsIn (fun r_1 S_1 => 
isZ r_1 ∧ (Q r_1 S_1)) dp x0 x1 x4 S
def k_X1_isCovered_v2_78 (Q : Int32 → cS → Prop) (dp : Nat) (R41 : Nat → Nat → Int32 → Int32 → Int32 → Int32 → cS → Prop) (x0 : Nat) (x1 : Nat) (x2 : Int32) (x3 : Int32) (x4 : Int32) (x5 : Int32) (S : cS) : Prop :=
∀ x5_2 : Int32, x5_2 = x5 + nI 1 → R41 x0 x1 x2 x3 x4 x5_2 S
def k_X1_isCovered_v2_41 (Q : Int32 → cS → Prop) (dp : Nat) (R41 : Nat → Nat → Int32 → Int32 → Int32 → Int32 → cS → Prop) (x0 : Nat) (x1 : Nat) (x2 : Int32) (x3 : Int32) (x4 : Int32) (x5 : Int32) (S : cS) : Prop :=
((((nI 20)) ≤ x5 →
  Q ((bI false)) S) ∧
 (¬ ((nI 20)) ≤ x5 →
  ((((((x2 >>> (x5 &&& 31))) &&& ((nI 1)))) = 0 →
    k_X1_isCovered_v2_78 Q dp R41 x0 x1 x2 x3 x4 x5 S) ∧
   (¬ ((((x2 >>> (x5 &&& 31))) &&& ((nI 1)))) = 0 →
    cX S x1 14 x3 ∧ (∀ S3 : cS, S3 = cSI S x1 (x3).toNatClampNeg x5 → k_X1_isCovered_v1 (fun r_4 S_4 => 
    ((r_4 = 0 →
      k_X1_isCovered_v2_78 Q dp R41 x0 x1 x2 x3 x4 x5 S_4) ∧
     (¬ r_4 = 0 →
      Q ((bI true)) S_4))) dp x0 x1 x2 ((x3 + ((nI 1)))) x4 S3)))))
def k_X1_isCovered_v2_41L (Q : Int32 → cS → Prop) (dp : Nat)  (x0 : Nat) (x1 : Nat) (x2 : Int32) (x3 : Int32) (x4 : Int32) (x5 : Int32) (S : cS) : Prop :=
  lfp (X := Nat × Nat × Int32 × Int32 × Int32 × Int32 × cS) (fun P y => k_X1_isCovered_v2_41 Q dp  (fun b0 b1 b2 b3 b4 b5 S => P (b0, b1, b2, b3, b4, b5, S)) y.1 y.2.1 y.2.2.1 y.2.2.2.1 y.2.2.2.2.1 y.2.2.2.2.2.1 y.2.2.2.2.2.2) (x0, x1, x2, x3, x4, x5, S)
def k_X1_isCovered_v2_39 (Q : Int32 → cS → Prop) (dp : Nat)  (x0 : Nat) (x1 : Nat) (x2 : Int32) (x3 : Int32) (x4 : Int32) (t0 : Int32) (S : cS) : Prop :=
k_X1_isCovered_v2_41L Q dp  x0 x1 x2 x3 x4 t0 S
def k_X1_isCovered_v2 (Q : Int32 → cS → Prop) (dp : Nat) (x0 : Nat) (x1 : Nat) (x2 : Int32) (x3 : Int32) (x4 : Int32) (S : cS) : Prop :=
((x3 < 0 →
  k_X1_isCovered_v2_16 Q dp  x0 x1 x4 S) ∧
 (¬ x3 < 0 →
  ((x4 ≤ x3 →
    k_X1_isCovered_v2_16 Q dp  x0 x1 x4 S) ∧
   (¬ x4 ≤ x3 →
    cA S x1 14 ∧ (((x3 < ((nI (cn S x1))) →
      ((¬ x3 = 0 →
        cX S x1 14 ((x3 - ((nI 1)))) ∧ (k_X1_isCovered_v2_39 Q dp  x0 x1 x2 x3 x4 ((((cI S x1 ((x3 - ((nI 1)))).toNatClampNeg)) + ((nI 1)))) S)) ∧
       (x3 = 0 →
        k_X1_isCovered_v2_39 Q dp  x0 x1 x2 x3 x4 ((nI 0)) S))) ∧
     (¬ x3 < ((nI (cn S x1))) →
      k_X1_isCovered_v2_16 Q dp  x0 x1 x4 S)))))))
section S_X1_isCovered_v2
variable {p : Program} {l : Launch} {e : Env} {s : State} {m : MethodId} {args : Array Value} {below : List Frame} {meth : Method} {c : Code} {A : Nat → Prop} {D : va_G} {Y : cY} {tp dp : Nat}
set_option maxRecDepth 20000 in
theorem tb_X1_isCovered_v2_16 (C : cC p s m args meth c cX1_isCovered 6 (some .boolean) A D Y tp dp RX1) {post : Int32 → cS → Prop}   (x0 : Nat) (x1 : Nat) (x4 : Int32) (S : cS) (h : k_X1_isCovered_v2_16 post dp  x0 x1 x4 S) : cG p l e (cRm 3 0 0 74) s m args below meth c A D Y 6 (MQ below (cQi post D Y A) args s 0 0 A) 0 0 16 [(0, .ref x0), (1, .ref x1), (4, .int x4)] [] S := by
  unfold k_X1_isCovered_v2_16 at h
  refine cg_aload_n C (i := 0) rfl 0 rfl dX1_isCovered_16 ?_
  refine cg_aload_n C (i := 1) rfl 1 rfl dX1_isCovered_17 ?_
  refine cg_iload C 2 rfl dX1_isCovered_18 ?_
  refine cg_callsi C (t_X1_areSpotsIn l x0 x1 x4 S dp h) cc_X1_173 rfl ⟨by decide, by decide⟩ ⟨by decide, by decide⟩ rfl (Nat.le_of_ble_eq_true rfl) dX1_isCovered_20 (fun r_1 S_1 h => ?_)
  obtain ⟨hz_23, h⟩ := h
  exact cg_zret C (isZ_nar hz_23) h dX1_isCovered_23 (by decide) (by decide)
set_option maxRecDepth 20000 in
theorem tb_X1_isCovered_v2_78 (C : cC p s m args meth c cX1_isCovered 6 (some .boolean) A D Y tp dp RX1) {post : Int32 → cS → Prop} {R41 : Nat → Nat → Int32 → Int32 → Int32 → Int32 → cS → Prop} (hR41 : ∀ (x0 : Nat) (x1 : Nat) (x2 : Int32) (x3 : Int32) (x4 : Int32) (x5 : Int32) (S : cS), R41 x0 x1 x2 x3 x4 x5 S → cG p l e (cRm 3 0 0 74) s m args below meth c A D Y 6 (MQ below (cQi post D Y A) args s 0 0 A) 0 0 41 [(0, .ref x0), (1, .ref x1), (2, .int x2), (3, .int x3), (4, .int x4), (5, .int x5)] [] S) (x0 : Nat) (x1 : Nat) (x2 : Int32) (x3 : Int32) (x4 : Int32) (x5 : Int32) (S : cS) (h : k_X1_isCovered_v2_78 post dp R41 x0 x1 x2 x3 x4 x5 S) : cG p l e (cRm 3 0 0 74) s m args below meth c A D Y 6 (MQ below (cQi post D Y A) args s 0 0 A) 0 0 78 [(0, .ref x0), (1, .ref x1), (2, .int x2), (3, .int x3), (4, .int x4), (5, .int x5)] [] S := by
  unfold k_X1_isCovered_v2_78 at h
  obtain ⟨x5_2, e_x5_2⟩ : ∃ z : Int32, z = x5 + nI 1 := ⟨_, rfl⟩
  have h := h x5_2 e_x5_2
  refine cg_iinc C (lv' := [(5, .int x5_2), (0, .ref x0), (1, .ref x1), (2, .int x2), (3, .int x3), (4, .int x4)]) 5 rfl (by rw [e_x5_2]; rfl) (Nat.le_of_ble_eq_true rfl) rfl dX1_isCovered_78 ?_
  refine cg_goto C 41 (by decide) dX1_isCovered_81 ?_
  exact cg_sub [1, 2, 3, 4, 5, 0] rfl (hR41 x0 x1 x2 x3 x4 x5_2 S h)
set_option maxRecDepth 20000 in
theorem tb_X1_isCovered_v2_41 (C : cC p s m args meth c cX1_isCovered 6 (some .boolean) A D Y tp dp RX1) {post : Int32 → cS → Prop} {R41 : Nat → Nat → Int32 → Int32 → Int32 → Int32 → cS → Prop} (hR41 : ∀ (x0 : Nat) (x1 : Nat) (x2 : Int32) (x3 : Int32) (x4 : Int32) (x5 : Int32) (S : cS), R41 x0 x1 x2 x3 x4 x5 S → cG p l e (cRm 3 0 0 74) s m args below meth c A D Y 6 (MQ below (cQi post D Y A) args s 0 0 A) 0 0 41 [(0, .ref x0), (1, .ref x1), (2, .int x2), (3, .int x3), (4, .int x4), (5, .int x5)] [] S) (x0 : Nat) (x1 : Nat) (x2 : Int32) (x3 : Int32) (x4 : Int32) (x5 : Int32) (S : cS) (h : k_X1_isCovered_v2_41 post dp R41 x0 x1 x2 x3 x4 x5 S) : cG p l e (cRm 3 0 0 74) s m args below meth c A D Y 6 (MQ below (cQi post D Y A) args s 0 0 A) 0 0 41 [(0, .ref x0), (1, .ref x1), (2, .int x2), (3, .int x3), (4, .int x4), (5, .int x5)] [] S := by
  unfold k_X1_isCovered_v2_41 at h
  refine cg_iload C 5 rfl dX1_isCovered_41 ?_
  refine cg_bipush C (x := nI 20) rfl dX1_isCovered_43 ?_
  refine cg_icmp_ge C 84 (by decide) dX1_isCovered_45 (fun c_ => ?_) (fun c_ => ?_)
  · have h := h.1 c_
    refine cg_iconst C (x := nI 0) rfl dX1_isCovered_84 ?_
    refine cg_cast (.int (bI false)) rfl ?_
    exact cg_zret C (bI_nar _) h dX1_isCovered_85 (by decide) (by decide)
  · have h := h.2 c_
    refine cg_iload_n C (i := 2) rfl 2 rfl dX1_isCovered_48 ?_
    refine cg_iload C 5 rfl dX1_isCovered_49 ?_
    refine cg_ishr C dX1_isCovered_51 ?_
    refine cg_iconst C (x := nI 1) rfl dX1_isCovered_52 ?_
    refine cg_iand C dX1_isCovered_53 ?_
    refine cg_if_eq C 78 (by decide) dX1_isCovered_54 (fun c_ => ?_) (fun c_ => ?_)
    · have h := h.1 c_
      exact cg_sub [0, 1, 2, 3, 4, 5] rfl (tb_X1_isCovered_v2_78 C  hR41 x0 x1 x2 x3 x4 x5 S h)
    · have h := h.2 c_
      refine cg_aload_n C (i := 1) rfl 1 rfl dX1_isCovered_57 ?_
      refine cg_iload_n C (i := 3) rfl 3 rfl dX1_isCovered_58 ?_
      refine cg_iload C 5 rfl dX1_isCovered_59 ?_
      obtain ⟨hc_61, h⟩ := h
      refine cg_iastoreR C hc_61 dX1_isCovered_61 ?_
      refine cg_nm (fun S3 e_S3 => ?_)
      have h := h S3 e_S3
      refine cg_aload_n C (i := 0) rfl 0 rfl dX1_isCovered_62 ?_
      refine cg_aload_n C (i := 1) rfl 1 rfl dX1_isCovered_63 ?_
      refine cg_iload_n C (i := 2) rfl 2 rfl dX1_isCovered_64 ?_
      refine cg_iload_n C (i := 3) rfl 3 rfl dX1_isCovered_65 ?_
      refine cg_iconst C (x := nI 1) rfl dX1_isCovered_66 ?_
      refine cg_iadd C dX1_isCovered_67 ?_
      refine cg_iload C 4 rfl dX1_isCovered_68 ?_
      refine cg_callsi C (t_X1_isCovered_v1 l x0 x1 x2 ((x3 + ((nI 1)))) x4 S3 dp h) cc_X1_145 rfl ⟨by decide, by decide⟩ ⟨by decide, by decide⟩ rfl (Nat.le_of_ble_eq_true rfl) dX1_isCovered_70 (fun r_4 S_4 h => ?_)
      refine cg_if_eq C 78 (by decide) dX1_isCovered_73 (fun c_ => ?_) (fun c_ => ?_)
      · have h := h.1 c_
        exact cg_sub [0, 1, 2, 3, 4, 5] rfl (tb_X1_isCovered_v2_78 C  hR41 x0 x1 x2 x3 x4 x5 S_4 h)
      · have h := h.2 c_
        refine cg_iconst C (x := nI 1) rfl dX1_isCovered_76 ?_
        refine cg_cast (.int (bI true)) rfl ?_
        exact cg_zret C (bI_nar _) h dX1_isCovered_77 (by decide) (by decide)
set_option maxRecDepth 20000 in
theorem tl_X1_isCovered_v2_41 (C : cC p s m args meth c cX1_isCovered 6 (some .boolean) A D Y tp dp RX1) {post : Int32 → cS → Prop}   (x0 : Nat) (x1 : Nat) (x2 : Int32) (x3 : Int32) (x4 : Int32) (x5 : Int32) (S : cS) (h : k_X1_isCovered_v2_41L post dp  x0 x1 x2 x3 x4 x5 S) : cG p l e (cRm 3 0 0 74) s m args below meth c A D Y 6 (MQ below (cQi post D Y A) args s 0 0 A) 0 0 41 [(0, .ref x0), (1, .ref x1), (2, .int x2), (3, .int x3), (4, .int x4), (5, .int x5)] [] S :=
  h (fun y => cG p l e (cRm 3 0 0 74) s m args below meth c A D Y 6 (MQ below (cQi post D Y A) args s 0 0 A) 0 0 41 [(0, .ref (y.1)), (1, .ref (y.2.1)), (2, .int (y.2.2.1)), (3, .int (y.2.2.2.1)), (4, .int (y.2.2.2.2.1)), (5, .int (y.2.2.2.2.2.1))] [] (y.2.2.2.2.2.2)) (fun y hy => tb_X1_isCovered_v2_41 C   (fun b0 b1 b2 b3 b4 b5 S z => z) (y.1) (y.2.1) (y.2.2.1) (y.2.2.2.1) (y.2.2.2.2.1) (y.2.2.2.2.2.1) (y.2.2.2.2.2.2) hy)
set_option maxRecDepth 20000 in
theorem tb_X1_isCovered_v2_39 (C : cC p s m args meth c cX1_isCovered 6 (some .boolean) A D Y tp dp RX1) {post : Int32 → cS → Prop}   (x0 : Nat) (x1 : Nat) (x2 : Int32) (x3 : Int32) (x4 : Int32) (t0 : Int32) (S : cS) (h : k_X1_isCovered_v2_39 post dp  x0 x1 x2 x3 x4 t0 S) : cG p l e (cRm 3 0 0 74) s m args below meth c A D Y 6 (MQ below (cQi post D Y A) args s 0 0 A) 0 0 39 [(0, .ref x0), (1, .ref x1), (2, .int x2), (3, .int x3), (4, .int x4)] [.int t0] S := by
  unfold k_X1_isCovered_v2_39 at h
  refine cg_istore C (lv' := [(5, .int t0), (0, .ref x0), (1, .ref x1), (2, .int x2), (3, .int x3), (4, .int x4)]) (Nat.le_of_ble_eq_true rfl) rfl dX1_isCovered_39 ?_
  exact cg_sub [1, 2, 3, 4, 5, 0] rfl (tl_X1_isCovered_v2_41 C   x0 x1 x2 x3 x4 t0 S h)
end S_X1_isCovered_v2
set_option maxHeartbeats 1000000 in
set_option maxRecDepth 20000 in
theorem t_X1_isCovered_v2 (l : Launch) (x0 : Nat) (x1 : Nat) (x2 : Int32) (x3 : Int32) (x4 : Int32) (S : cS) (dp : Nat) {P : Int32 → cS → Prop} (h : k_X1_isCovered_v2 P dp x0 x1 x2 x3 x4 S) : cMet (cQi P) l yX1_isCovered cX1_isCovered 6 (some .boolean) 3 0 0 74 [.ref x0, .ref x1, .int x2, .int x3, .int x4] S dp := by
  intro D Y tp sz
  refine cg_body (by decide +kernel) (Nat.le_of_ble_eq_true rfl) ?_
  intro p e s m args below meth c C
  generalize va_A (cWd Y S) sz = A at C ⊢
  have C : cC p s m args meth c cX1_isCovered 6 (some .boolean) A D Y tp dp RX1 := C
  refine cg_lv (lv' := [(0, .ref x0), (1, .ref x1), (2, .int x2), (3, .int x3), (4, .int x4)]) rfl ?_
  unfold k_X1_isCovered_v2 at h
  refine cg_iload_n C (i := 3) rfl 3 rfl dX1_isCovered_0 ?_
  refine cg_if_lt C 16 (by decide) dX1_isCovered_1 (fun c_ => ?_) (fun c_ => ?_)
  · have h := h.1 c_
    exact cg_sub [0, 1, 4] rfl (tb_X1_isCovered_v2_16 C   x0 x1 x4 S h)
  · have h := h.2 c_
    refine cg_iload_n C (i := 3) rfl 3 rfl dX1_isCovered_4 ?_
    refine cg_iload C 4 rfl dX1_isCovered_5 ?_
    refine cg_icmp_ge C 16 (by decide) dX1_isCovered_7 (fun c_ => ?_) (fun c_ => ?_)
    · have h := h.1 c_
      exact cg_sub [0, 1, 4] rfl (tb_X1_isCovered_v2_16 C   x0 x1 x4 S h)
    · have h := h.2 c_
      refine cg_iload_n C (i := 3) rfl 3 rfl dX1_isCovered_10 ?_
      refine cg_aload_n C (i := 1) rfl 1 rfl dX1_isCovered_11 ?_
      obtain ⟨hc_12, h⟩ := h
      refine cg_alen C hc_12.1 hc_12.2 (by decide) (by decide) dX1_isCovered_12 ?_
      refine cg_icmp_lt C 24 (by decide) dX1_isCovered_13 (fun c_ => ?_) (fun c_ => ?_)
      · have h := h.1 c_
        refine cg_iload_n C (i := 3) rfl 3 rfl dX1_isCovered_24 ?_
        refine cg_if_ne C 32 (by decide) dX1_isCovered_25 (fun c_ => ?_) (fun c_ => ?_)
        · have h := h.1 c_
          refine cg_aload_n C (i := 1) rfl 1 rfl dX1_isCovered_32 ?_
          refine cg_iload_n C (i := 3) rfl 3 rfl dX1_isCovered_33 ?_
          refine cg_iconst C (x := nI 1) rfl dX1_isCovered_34 ?_
          refine cg_isub C dX1_isCovered_35 ?_
          obtain ⟨hc_36, h⟩ := h
          refine cg_ialoadR C hc_36 dX1_isCovered_36 ?_
          refine cg_iconst C (x := nI 1) rfl dX1_isCovered_37 ?_
          refine cg_iadd C dX1_isCovered_38 ?_
          exact cg_sub [0, 1, 2, 3, 4] rfl (tb_X1_isCovered_v2_39 C   x0 x1 x2 x3 x4 ((((cI S x1 ((x3 - ((nI 1)))).toNatClampNeg)) + ((nI 1)))) S h)
        · have h := h.2 c_
          refine cg_iconst C (x := nI 0) rfl dX1_isCovered_28 ?_
          refine cg_goto C 39 (by decide) dX1_isCovered_29 ?_
          exact cg_sub [0, 1, 2, 3, 4] rfl (tb_X1_isCovered_v2_39 C   x0 x1 x2 x3 x4 ((nI 0)) S h)
      · have h := h.2 c_
        exact cg_sub [0, 1, 4] rfl (tb_X1_isCovered_v2_16 C   x0 x1 x4 S h)
def k_X1_isCovered_v3_16 (Q : Int32 → cS → Prop) (dp : Nat)  (x0 : Nat) (x1 : Nat) (x4 : Int32) (S : cS) : Prop :=
k_X1_areSpotsIn (fun r_1 S_1 => 
isZ r_1 ∧ (Q r_1 S_1)) dp x0 x1 x4 S
def k_X1_isCovered_v3_78 (Q : Int32 → cS → Prop) (dp : Nat) (R41 : Nat → Nat → Int32 → Int32 → Int32 → Int32 → cS → Prop) (x0 : Nat) (x1 : Nat) (x2 : Int32) (x3 : Int32) (x4 : Int32) (x5 : Int32) (S : cS) : Prop :=
∀ x5_2 : Int32, x5_2 = x5 + nI 1 → R41 x0 x1 x2 x3 x4 x5_2 S
def k_X1_isCovered_v3_41 (Q : Int32 → cS → Prop) (dp : Nat) (R41 : Nat → Nat → Int32 → Int32 → Int32 → Int32 → cS → Prop) (x0 : Nat) (x1 : Nat) (x2 : Int32) (x3 : Int32) (x4 : Int32) (x5 : Int32) (S : cS) : Prop :=
((((nI 20)) ≤ x5 →
  Q ((bI false)) S) ∧
 (¬ ((nI 20)) ≤ x5 →
  ((((((x2 >>> (x5 &&& 31))) &&& ((nI 1)))) = 0 →
    k_X1_isCovered_v3_78 Q dp R41 x0 x1 x2 x3 x4 x5 S) ∧
   (¬ ((((x2 >>> (x5 &&& 31))) &&& ((nI 1)))) = 0 →
    cX S x1 14 x3 ∧ (∀ S3 : cS, S3 = cSI S x1 (x3).toNatClampNeg x5 → k_X1_isCovered_v2 (fun r_4 S_4 => 
    ((r_4 = 0 →
      k_X1_isCovered_v3_78 Q dp R41 x0 x1 x2 x3 x4 x5 S_4) ∧
     (¬ r_4 = 0 →
      Q ((bI true)) S_4))) dp x0 x1 x2 ((x3 + ((nI 1)))) x4 S3)))))
def k_X1_isCovered_v3_41L (Q : Int32 → cS → Prop) (dp : Nat)  (x0 : Nat) (x1 : Nat) (x2 : Int32) (x3 : Int32) (x4 : Int32) (x5 : Int32) (S : cS) : Prop :=
  lfp (X := Nat × Nat × Int32 × Int32 × Int32 × Int32 × cS) (fun P y => k_X1_isCovered_v3_41 Q dp  (fun b0 b1 b2 b3 b4 b5 S => P (b0, b1, b2, b3, b4, b5, S)) y.1 y.2.1 y.2.2.1 y.2.2.2.1 y.2.2.2.2.1 y.2.2.2.2.2.1 y.2.2.2.2.2.2) (x0, x1, x2, x3, x4, x5, S)
def k_X1_isCovered_v3_39 (Q : Int32 → cS → Prop) (dp : Nat)  (x0 : Nat) (x1 : Nat) (x2 : Int32) (x3 : Int32) (x4 : Int32) (t0 : Int32) (S : cS) : Prop :=
k_X1_isCovered_v3_41L Q dp  x0 x1 x2 x3 x4 t0 S
def k_X1_isCovered_v3 (Q : Int32 → cS → Prop) (dp : Nat) (x0 : Nat) (x1 : Nat) (x2 : Int32) (x3 : Int32) (x4 : Int32) (S : cS) : Prop :=
((x3 < 0 →
  k_X1_isCovered_v3_16 Q dp  x0 x1 x4 S) ∧
 (¬ x3 < 0 →
  ((x4 ≤ x3 →
    k_X1_isCovered_v3_16 Q dp  x0 x1 x4 S) ∧
   (¬ x4 ≤ x3 →
    cA S x1 14 ∧ (((x3 < ((nI (cn S x1))) →
      ((¬ x3 = 0 →
        cX S x1 14 ((x3 - ((nI 1)))) ∧ (k_X1_isCovered_v3_39 Q dp  x0 x1 x2 x3 x4 ((((cI S x1 ((x3 - ((nI 1)))).toNatClampNeg)) + ((nI 1)))) S)) ∧
       (x3 = 0 →
        k_X1_isCovered_v3_39 Q dp  x0 x1 x2 x3 x4 ((nI 0)) S))) ∧
     (¬ x3 < ((nI (cn S x1))) →
      k_X1_isCovered_v3_16 Q dp  x0 x1 x4 S)))))))
section S_X1_isCovered_v3
variable {p : Program} {l : Launch} {e : Env} {s : State} {m : MethodId} {args : Array Value} {below : List Frame} {meth : Method} {c : Code} {A : Nat → Prop} {D : va_G} {Y : cY} {tp dp : Nat}
set_option maxRecDepth 20000 in
theorem tb_X1_isCovered_v3_16 (C : cC p s m args meth c cX1_isCovered 6 (some .boolean) A D Y tp dp RX1) {post : Int32 → cS → Prop}   (x0 : Nat) (x1 : Nat) (x4 : Int32) (S : cS) (h : k_X1_isCovered_v3_16 post dp  x0 x1 x4 S) : cG p l e (cRm 4 0 0 99) s m args below meth c A D Y 6 (MQ below (cQi post D Y A) args s 0 0 A) 0 0 16 [(0, .ref x0), (1, .ref x1), (4, .int x4)] [] S := by
  unfold k_X1_isCovered_v3_16 at h
  refine cg_aload_n C (i := 0) rfl 0 rfl dX1_isCovered_16 ?_
  refine cg_aload_n C (i := 1) rfl 1 rfl dX1_isCovered_17 ?_
  refine cg_iload C 2 rfl dX1_isCovered_18 ?_
  refine cg_callsi C (t_X1_areSpotsIn l x0 x1 x4 S dp h) cc_X1_173 rfl ⟨by decide, by decide⟩ ⟨by decide, by decide⟩ rfl (Nat.le_of_ble_eq_true rfl) dX1_isCovered_20 (fun r_1 S_1 h => ?_)
  obtain ⟨hz_23, h⟩ := h
  exact cg_zret C (isZ_nar hz_23) h dX1_isCovered_23 (by decide) (by decide)
set_option maxRecDepth 20000 in
theorem tb_X1_isCovered_v3_78 (C : cC p s m args meth c cX1_isCovered 6 (some .boolean) A D Y tp dp RX1) {post : Int32 → cS → Prop} {R41 : Nat → Nat → Int32 → Int32 → Int32 → Int32 → cS → Prop} (hR41 : ∀ (x0 : Nat) (x1 : Nat) (x2 : Int32) (x3 : Int32) (x4 : Int32) (x5 : Int32) (S : cS), R41 x0 x1 x2 x3 x4 x5 S → cG p l e (cRm 4 0 0 99) s m args below meth c A D Y 6 (MQ below (cQi post D Y A) args s 0 0 A) 0 0 41 [(0, .ref x0), (1, .ref x1), (2, .int x2), (3, .int x3), (4, .int x4), (5, .int x5)] [] S) (x0 : Nat) (x1 : Nat) (x2 : Int32) (x3 : Int32) (x4 : Int32) (x5 : Int32) (S : cS) (h : k_X1_isCovered_v3_78 post dp R41 x0 x1 x2 x3 x4 x5 S) : cG p l e (cRm 4 0 0 99) s m args below meth c A D Y 6 (MQ below (cQi post D Y A) args s 0 0 A) 0 0 78 [(0, .ref x0), (1, .ref x1), (2, .int x2), (3, .int x3), (4, .int x4), (5, .int x5)] [] S := by
  unfold k_X1_isCovered_v3_78 at h
  obtain ⟨x5_2, e_x5_2⟩ : ∃ z : Int32, z = x5 + nI 1 := ⟨_, rfl⟩
  have h := h x5_2 e_x5_2
  refine cg_iinc C (lv' := [(5, .int x5_2), (0, .ref x0), (1, .ref x1), (2, .int x2), (3, .int x3), (4, .int x4)]) 5 rfl (by rw [e_x5_2]; rfl) (Nat.le_of_ble_eq_true rfl) rfl dX1_isCovered_78 ?_
  refine cg_goto C 41 (by decide) dX1_isCovered_81 ?_
  exact cg_sub [1, 2, 3, 4, 5, 0] rfl (hR41 x0 x1 x2 x3 x4 x5_2 S h)
set_option maxRecDepth 20000 in
theorem tb_X1_isCovered_v3_41 (C : cC p s m args meth c cX1_isCovered 6 (some .boolean) A D Y tp dp RX1) {post : Int32 → cS → Prop} {R41 : Nat → Nat → Int32 → Int32 → Int32 → Int32 → cS → Prop} (hR41 : ∀ (x0 : Nat) (x1 : Nat) (x2 : Int32) (x3 : Int32) (x4 : Int32) (x5 : Int32) (S : cS), R41 x0 x1 x2 x3 x4 x5 S → cG p l e (cRm 4 0 0 99) s m args below meth c A D Y 6 (MQ below (cQi post D Y A) args s 0 0 A) 0 0 41 [(0, .ref x0), (1, .ref x1), (2, .int x2), (3, .int x3), (4, .int x4), (5, .int x5)] [] S) (x0 : Nat) (x1 : Nat) (x2 : Int32) (x3 : Int32) (x4 : Int32) (x5 : Int32) (S : cS) (h : k_X1_isCovered_v3_41 post dp R41 x0 x1 x2 x3 x4 x5 S) : cG p l e (cRm 4 0 0 99) s m args below meth c A D Y 6 (MQ below (cQi post D Y A) args s 0 0 A) 0 0 41 [(0, .ref x0), (1, .ref x1), (2, .int x2), (3, .int x3), (4, .int x4), (5, .int x5)] [] S := by
  unfold k_X1_isCovered_v3_41 at h
  refine cg_iload C 5 rfl dX1_isCovered_41 ?_
  refine cg_bipush C (x := nI 20) rfl dX1_isCovered_43 ?_
  refine cg_icmp_ge C 84 (by decide) dX1_isCovered_45 (fun c_ => ?_) (fun c_ => ?_)
  · have h := h.1 c_
    refine cg_iconst C (x := nI 0) rfl dX1_isCovered_84 ?_
    refine cg_cast (.int (bI false)) rfl ?_
    exact cg_zret C (bI_nar _) h dX1_isCovered_85 (by decide) (by decide)
  · have h := h.2 c_
    refine cg_iload_n C (i := 2) rfl 2 rfl dX1_isCovered_48 ?_
    refine cg_iload C 5 rfl dX1_isCovered_49 ?_
    refine cg_ishr C dX1_isCovered_51 ?_
    refine cg_iconst C (x := nI 1) rfl dX1_isCovered_52 ?_
    refine cg_iand C dX1_isCovered_53 ?_
    refine cg_if_eq C 78 (by decide) dX1_isCovered_54 (fun c_ => ?_) (fun c_ => ?_)
    · have h := h.1 c_
      exact cg_sub [0, 1, 2, 3, 4, 5] rfl (tb_X1_isCovered_v3_78 C  hR41 x0 x1 x2 x3 x4 x5 S h)
    · have h := h.2 c_
      refine cg_aload_n C (i := 1) rfl 1 rfl dX1_isCovered_57 ?_
      refine cg_iload_n C (i := 3) rfl 3 rfl dX1_isCovered_58 ?_
      refine cg_iload C 5 rfl dX1_isCovered_59 ?_
      obtain ⟨hc_61, h⟩ := h
      refine cg_iastoreR C hc_61 dX1_isCovered_61 ?_
      refine cg_nm (fun S3 e_S3 => ?_)
      have h := h S3 e_S3
      refine cg_aload_n C (i := 0) rfl 0 rfl dX1_isCovered_62 ?_
      refine cg_aload_n C (i := 1) rfl 1 rfl dX1_isCovered_63 ?_
      refine cg_iload_n C (i := 2) rfl 2 rfl dX1_isCovered_64 ?_
      refine cg_iload_n C (i := 3) rfl 3 rfl dX1_isCovered_65 ?_
      refine cg_iconst C (x := nI 1) rfl dX1_isCovered_66 ?_
      refine cg_iadd C dX1_isCovered_67 ?_
      refine cg_iload C 4 rfl dX1_isCovered_68 ?_
      refine cg_callsi C (t_X1_isCovered_v2 l x0 x1 x2 ((x3 + ((nI 1)))) x4 S3 dp h) cc_X1_145 rfl ⟨by decide, by decide⟩ ⟨by decide, by decide⟩ rfl (Nat.le_of_ble_eq_true rfl) dX1_isCovered_70 (fun r_4 S_4 h => ?_)
      refine cg_if_eq C 78 (by decide) dX1_isCovered_73 (fun c_ => ?_) (fun c_ => ?_)
      · have h := h.1 c_
        exact cg_sub [0, 1, 2, 3, 4, 5] rfl (tb_X1_isCovered_v3_78 C  hR41 x0 x1 x2 x3 x4 x5 S_4 h)
      · have h := h.2 c_
        refine cg_iconst C (x := nI 1) rfl dX1_isCovered_76 ?_
        refine cg_cast (.int (bI true)) rfl ?_
        exact cg_zret C (bI_nar _) h dX1_isCovered_77 (by decide) (by decide)
set_option maxRecDepth 20000 in
theorem tl_X1_isCovered_v3_41 (C : cC p s m args meth c cX1_isCovered 6 (some .boolean) A D Y tp dp RX1) {post : Int32 → cS → Prop}   (x0 : Nat) (x1 : Nat) (x2 : Int32) (x3 : Int32) (x4 : Int32) (x5 : Int32) (S : cS) (h : k_X1_isCovered_v3_41L post dp  x0 x1 x2 x3 x4 x5 S) : cG p l e (cRm 4 0 0 99) s m args below meth c A D Y 6 (MQ below (cQi post D Y A) args s 0 0 A) 0 0 41 [(0, .ref x0), (1, .ref x1), (2, .int x2), (3, .int x3), (4, .int x4), (5, .int x5)] [] S :=
  h (fun y => cG p l e (cRm 4 0 0 99) s m args below meth c A D Y 6 (MQ below (cQi post D Y A) args s 0 0 A) 0 0 41 [(0, .ref (y.1)), (1, .ref (y.2.1)), (2, .int (y.2.2.1)), (3, .int (y.2.2.2.1)), (4, .int (y.2.2.2.2.1)), (5, .int (y.2.2.2.2.2.1))] [] (y.2.2.2.2.2.2)) (fun y hy => tb_X1_isCovered_v3_41 C   (fun b0 b1 b2 b3 b4 b5 S z => z) (y.1) (y.2.1) (y.2.2.1) (y.2.2.2.1) (y.2.2.2.2.1) (y.2.2.2.2.2.1) (y.2.2.2.2.2.2) hy)
set_option maxRecDepth 20000 in
theorem tb_X1_isCovered_v3_39 (C : cC p s m args meth c cX1_isCovered 6 (some .boolean) A D Y tp dp RX1) {post : Int32 → cS → Prop}   (x0 : Nat) (x1 : Nat) (x2 : Int32) (x3 : Int32) (x4 : Int32) (t0 : Int32) (S : cS) (h : k_X1_isCovered_v3_39 post dp  x0 x1 x2 x3 x4 t0 S) : cG p l e (cRm 4 0 0 99) s m args below meth c A D Y 6 (MQ below (cQi post D Y A) args s 0 0 A) 0 0 39 [(0, .ref x0), (1, .ref x1), (2, .int x2), (3, .int x3), (4, .int x4)] [.int t0] S := by
  unfold k_X1_isCovered_v3_39 at h
  refine cg_istore C (lv' := [(5, .int t0), (0, .ref x0), (1, .ref x1), (2, .int x2), (3, .int x3), (4, .int x4)]) (Nat.le_of_ble_eq_true rfl) rfl dX1_isCovered_39 ?_
  exact cg_sub [1, 2, 3, 4, 5, 0] rfl (tl_X1_isCovered_v3_41 C   x0 x1 x2 x3 x4 t0 S h)
end S_X1_isCovered_v3
set_option maxHeartbeats 1000000 in
set_option maxRecDepth 20000 in
theorem t_X1_isCovered_v3 (l : Launch) (x0 : Nat) (x1 : Nat) (x2 : Int32) (x3 : Int32) (x4 : Int32) (S : cS) (dp : Nat) {P : Int32 → cS → Prop} (h : k_X1_isCovered_v3 P dp x0 x1 x2 x3 x4 S) : cMet (cQi P) l yX1_isCovered cX1_isCovered 6 (some .boolean) 4 0 0 99 [.ref x0, .ref x1, .int x2, .int x3, .int x4] S dp := by
  intro D Y tp sz
  refine cg_body (by decide +kernel) (Nat.le_of_ble_eq_true rfl) ?_
  intro p e s m args below meth c C
  generalize va_A (cWd Y S) sz = A at C ⊢
  have C : cC p s m args meth c cX1_isCovered 6 (some .boolean) A D Y tp dp RX1 := C
  refine cg_lv (lv' := [(0, .ref x0), (1, .ref x1), (2, .int x2), (3, .int x3), (4, .int x4)]) rfl ?_
  unfold k_X1_isCovered_v3 at h
  refine cg_iload_n C (i := 3) rfl 3 rfl dX1_isCovered_0 ?_
  refine cg_if_lt C 16 (by decide) dX1_isCovered_1 (fun c_ => ?_) (fun c_ => ?_)
  · have h := h.1 c_
    exact cg_sub [0, 1, 4] rfl (tb_X1_isCovered_v3_16 C   x0 x1 x4 S h)
  · have h := h.2 c_
    refine cg_iload_n C (i := 3) rfl 3 rfl dX1_isCovered_4 ?_
    refine cg_iload C 4 rfl dX1_isCovered_5 ?_
    refine cg_icmp_ge C 16 (by decide) dX1_isCovered_7 (fun c_ => ?_) (fun c_ => ?_)
    · have h := h.1 c_
      exact cg_sub [0, 1, 4] rfl (tb_X1_isCovered_v3_16 C   x0 x1 x4 S h)
    · have h := h.2 c_
      refine cg_iload_n C (i := 3) rfl 3 rfl dX1_isCovered_10 ?_
      refine cg_aload_n C (i := 1) rfl 1 rfl dX1_isCovered_11 ?_
      obtain ⟨hc_12, h⟩ := h
      refine cg_alen C hc_12.1 hc_12.2 (by decide) (by decide) dX1_isCovered_12 ?_
      refine cg_icmp_lt C 24 (by decide) dX1_isCovered_13 (fun c_ => ?_) (fun c_ => ?_)
      · have h := h.1 c_
        refine cg_iload_n C (i := 3) rfl 3 rfl dX1_isCovered_24 ?_
        refine cg_if_ne C 32 (by decide) dX1_isCovered_25 (fun c_ => ?_) (fun c_ => ?_)
        · have h := h.1 c_
          refine cg_aload_n C (i := 1) rfl 1 rfl dX1_isCovered_32 ?_
          refine cg_iload_n C (i := 3) rfl 3 rfl dX1_isCovered_33 ?_
          refine cg_iconst C (x := nI 1) rfl dX1_isCovered_34 ?_
          refine cg_isub C dX1_isCovered_35 ?_
          obtain ⟨hc_36, h⟩ := h
          refine cg_ialoadR C hc_36 dX1_isCovered_36 ?_
          refine cg_iconst C (x := nI 1) rfl dX1_isCovered_37 ?_
          refine cg_iadd C dX1_isCovered_38 ?_
          exact cg_sub [0, 1, 2, 3, 4] rfl (tb_X1_isCovered_v3_39 C   x0 x1 x2 x3 x4 ((((cI S x1 ((x3 - ((nI 1)))).toNatClampNeg)) + ((nI 1)))) S h)
        · have h := h.2 c_
          refine cg_iconst C (x := nI 0) rfl dX1_isCovered_28 ?_
          refine cg_goto C 39 (by decide) dX1_isCovered_29 ?_
          exact cg_sub [0, 1, 2, 3, 4] rfl (tb_X1_isCovered_v3_39 C   x0 x1 x2 x3 x4 ((nI 0)) S h)
      · have h := h.2 c_
        exact cg_sub [0, 1, 4] rfl (tb_X1_isCovered_v3_16 C   x0 x1 x4 S h)
def k_X1_isCovered_v4_16 (Q : Int32 → cS → Prop) (dp : Nat)  (x0 : Nat) (x1 : Nat) (x4 : Int32) (S : cS) : Prop :=
k_X1_areSpotsIn (fun r_1 S_1 => 
isZ r_1 ∧ (Q r_1 S_1)) dp x0 x1 x4 S
def k_X1_isCovered_v4_78 (Q : Int32 → cS → Prop) (dp : Nat) (R41 : Nat → Nat → Int32 → Int32 → Int32 → Int32 → cS → Prop) (x0 : Nat) (x1 : Nat) (x2 : Int32) (x3 : Int32) (x4 : Int32) (x5 : Int32) (S : cS) : Prop :=
∀ x5_2 : Int32, x5_2 = x5 + nI 1 → R41 x0 x1 x2 x3 x4 x5_2 S
def k_X1_isCovered_v4_41 (Q : Int32 → cS → Prop) (dp : Nat) (R41 : Nat → Nat → Int32 → Int32 → Int32 → Int32 → cS → Prop) (x0 : Nat) (x1 : Nat) (x2 : Int32) (x3 : Int32) (x4 : Int32) (x5 : Int32) (S : cS) : Prop :=
((((nI 20)) ≤ x5 →
  Q ((bI false)) S) ∧
 (¬ ((nI 20)) ≤ x5 →
  ((((((x2 >>> (x5 &&& 31))) &&& ((nI 1)))) = 0 →
    k_X1_isCovered_v4_78 Q dp R41 x0 x1 x2 x3 x4 x5 S) ∧
   (¬ ((((x2 >>> (x5 &&& 31))) &&& ((nI 1)))) = 0 →
    cX S x1 14 x3 ∧ (∀ S3 : cS, S3 = cSI S x1 (x3).toNatClampNeg x5 → k_X1_isCovered_v3 (fun r_4 S_4 => 
    ((r_4 = 0 →
      k_X1_isCovered_v4_78 Q dp R41 x0 x1 x2 x3 x4 x5 S_4) ∧
     (¬ r_4 = 0 →
      Q ((bI true)) S_4))) dp x0 x1 x2 ((x3 + ((nI 1)))) x4 S3)))))
def k_X1_isCovered_v4_41L (Q : Int32 → cS → Prop) (dp : Nat)  (x0 : Nat) (x1 : Nat) (x2 : Int32) (x3 : Int32) (x4 : Int32) (x5 : Int32) (S : cS) : Prop :=
  lfp (X := Nat × Nat × Int32 × Int32 × Int32 × Int32 × cS) (fun P y => k_X1_isCovered_v4_41 Q dp  (fun b0 b1 b2 b3 b4 b5 S => P (b0, b1, b2, b3, b4, b5, S)) y.1 y.2.1 y.2.2.1 y.2.2.2.1 y.2.2.2.2.1 y.2.2.2.2.2.1 y.2.2.2.2.2.2) (x0, x1, x2, x3, x4, x5, S)
def k_X1_isCovered_v4_39 (Q : Int32 → cS → Prop) (dp : Nat)  (x0 : Nat) (x1 : Nat) (x2 : Int32) (x3 : Int32) (x4 : Int32) (t0 : Int32) (S : cS) : Prop :=
k_X1_isCovered_v4_41L Q dp  x0 x1 x2 x3 x4 t0 S
def k_X1_isCovered_v4 (Q : Int32 → cS → Prop) (dp : Nat) (x0 : Nat) (x1 : Nat) (x2 : Int32) (x3 : Int32) (x4 : Int32) (S : cS) : Prop :=
((x3 < 0 →
  k_X1_isCovered_v4_16 Q dp  x0 x1 x4 S) ∧
 (¬ x3 < 0 →
  ((x4 ≤ x3 →
    k_X1_isCovered_v4_16 Q dp  x0 x1 x4 S) ∧
   (¬ x4 ≤ x3 →
    cA S x1 14 ∧ (((x3 < ((nI (cn S x1))) →
      ((¬ x3 = 0 →
        cX S x1 14 ((x3 - ((nI 1)))) ∧ (k_X1_isCovered_v4_39 Q dp  x0 x1 x2 x3 x4 ((((cI S x1 ((x3 - ((nI 1)))).toNatClampNeg)) + ((nI 1)))) S)) ∧
       (x3 = 0 →
        k_X1_isCovered_v4_39 Q dp  x0 x1 x2 x3 x4 ((nI 0)) S))) ∧
     (¬ x3 < ((nI (cn S x1))) →
      k_X1_isCovered_v4_16 Q dp  x0 x1 x4 S)))))))
section S_X1_isCovered_v4
variable {p : Program} {l : Launch} {e : Env} {s : State} {m : MethodId} {args : Array Value} {below : List Frame} {meth : Method} {c : Code} {A : Nat → Prop} {D : va_G} {Y : cY} {tp dp : Nat}
set_option maxRecDepth 20000 in
theorem tb_X1_isCovered_v4_16 (C : cC p s m args meth c cX1_isCovered 6 (some .boolean) A D Y tp dp RX1) {post : Int32 → cS → Prop}   (x0 : Nat) (x1 : Nat) (x4 : Int32) (S : cS) (h : k_X1_isCovered_v4_16 post dp  x0 x1 x4 S) : cG p l e (cRm 5 0 0 124) s m args below meth c A D Y 6 (MQ below (cQi post D Y A) args s 0 0 A) 0 0 16 [(0, .ref x0), (1, .ref x1), (4, .int x4)] [] S := by
  unfold k_X1_isCovered_v4_16 at h
  refine cg_aload_n C (i := 0) rfl 0 rfl dX1_isCovered_16 ?_
  refine cg_aload_n C (i := 1) rfl 1 rfl dX1_isCovered_17 ?_
  refine cg_iload C 2 rfl dX1_isCovered_18 ?_
  refine cg_callsi C (t_X1_areSpotsIn l x0 x1 x4 S dp h) cc_X1_173 rfl ⟨by decide, by decide⟩ ⟨by decide, by decide⟩ rfl (Nat.le_of_ble_eq_true rfl) dX1_isCovered_20 (fun r_1 S_1 h => ?_)
  obtain ⟨hz_23, h⟩ := h
  exact cg_zret C (isZ_nar hz_23) h dX1_isCovered_23 (by decide) (by decide)
set_option maxRecDepth 20000 in
theorem tb_X1_isCovered_v4_78 (C : cC p s m args meth c cX1_isCovered 6 (some .boolean) A D Y tp dp RX1) {post : Int32 → cS → Prop} {R41 : Nat → Nat → Int32 → Int32 → Int32 → Int32 → cS → Prop} (hR41 : ∀ (x0 : Nat) (x1 : Nat) (x2 : Int32) (x3 : Int32) (x4 : Int32) (x5 : Int32) (S : cS), R41 x0 x1 x2 x3 x4 x5 S → cG p l e (cRm 5 0 0 124) s m args below meth c A D Y 6 (MQ below (cQi post D Y A) args s 0 0 A) 0 0 41 [(0, .ref x0), (1, .ref x1), (2, .int x2), (3, .int x3), (4, .int x4), (5, .int x5)] [] S) (x0 : Nat) (x1 : Nat) (x2 : Int32) (x3 : Int32) (x4 : Int32) (x5 : Int32) (S : cS) (h : k_X1_isCovered_v4_78 post dp R41 x0 x1 x2 x3 x4 x5 S) : cG p l e (cRm 5 0 0 124) s m args below meth c A D Y 6 (MQ below (cQi post D Y A) args s 0 0 A) 0 0 78 [(0, .ref x0), (1, .ref x1), (2, .int x2), (3, .int x3), (4, .int x4), (5, .int x5)] [] S := by
  unfold k_X1_isCovered_v4_78 at h
  obtain ⟨x5_2, e_x5_2⟩ : ∃ z : Int32, z = x5 + nI 1 := ⟨_, rfl⟩
  have h := h x5_2 e_x5_2
  refine cg_iinc C (lv' := [(5, .int x5_2), (0, .ref x0), (1, .ref x1), (2, .int x2), (3, .int x3), (4, .int x4)]) 5 rfl (by rw [e_x5_2]; rfl) (Nat.le_of_ble_eq_true rfl) rfl dX1_isCovered_78 ?_
  refine cg_goto C 41 (by decide) dX1_isCovered_81 ?_
  exact cg_sub [1, 2, 3, 4, 5, 0] rfl (hR41 x0 x1 x2 x3 x4 x5_2 S h)
set_option maxRecDepth 20000 in
theorem tb_X1_isCovered_v4_41 (C : cC p s m args meth c cX1_isCovered 6 (some .boolean) A D Y tp dp RX1) {post : Int32 → cS → Prop} {R41 : Nat → Nat → Int32 → Int32 → Int32 → Int32 → cS → Prop} (hR41 : ∀ (x0 : Nat) (x1 : Nat) (x2 : Int32) (x3 : Int32) (x4 : Int32) (x5 : Int32) (S : cS), R41 x0 x1 x2 x3 x4 x5 S → cG p l e (cRm 5 0 0 124) s m args below meth c A D Y 6 (MQ below (cQi post D Y A) args s 0 0 A) 0 0 41 [(0, .ref x0), (1, .ref x1), (2, .int x2), (3, .int x3), (4, .int x4), (5, .int x5)] [] S) (x0 : Nat) (x1 : Nat) (x2 : Int32) (x3 : Int32) (x4 : Int32) (x5 : Int32) (S : cS) (h : k_X1_isCovered_v4_41 post dp R41 x0 x1 x2 x3 x4 x5 S) : cG p l e (cRm 5 0 0 124) s m args below meth c A D Y 6 (MQ below (cQi post D Y A) args s 0 0 A) 0 0 41 [(0, .ref x0), (1, .ref x1), (2, .int x2), (3, .int x3), (4, .int x4), (5, .int x5)] [] S := by
  unfold k_X1_isCovered_v4_41 at h
  refine cg_iload C 5 rfl dX1_isCovered_41 ?_
  refine cg_bipush C (x := nI 20) rfl dX1_isCovered_43 ?_
  refine cg_icmp_ge C 84 (by decide) dX1_isCovered_45 (fun c_ => ?_) (fun c_ => ?_)
  · have h := h.1 c_
    refine cg_iconst C (x := nI 0) rfl dX1_isCovered_84 ?_
    refine cg_cast (.int (bI false)) rfl ?_
    exact cg_zret C (bI_nar _) h dX1_isCovered_85 (by decide) (by decide)
  · have h := h.2 c_
    refine cg_iload_n C (i := 2) rfl 2 rfl dX1_isCovered_48 ?_
    refine cg_iload C 5 rfl dX1_isCovered_49 ?_
    refine cg_ishr C dX1_isCovered_51 ?_
    refine cg_iconst C (x := nI 1) rfl dX1_isCovered_52 ?_
    refine cg_iand C dX1_isCovered_53 ?_
    refine cg_if_eq C 78 (by decide) dX1_isCovered_54 (fun c_ => ?_) (fun c_ => ?_)
    · have h := h.1 c_
      exact cg_sub [0, 1, 2, 3, 4, 5] rfl (tb_X1_isCovered_v4_78 C  hR41 x0 x1 x2 x3 x4 x5 S h)
    · have h := h.2 c_
      refine cg_aload_n C (i := 1) rfl 1 rfl dX1_isCovered_57 ?_
      refine cg_iload_n C (i := 3) rfl 3 rfl dX1_isCovered_58 ?_
      refine cg_iload C 5 rfl dX1_isCovered_59 ?_
      obtain ⟨hc_61, h⟩ := h
      refine cg_iastoreR C hc_61 dX1_isCovered_61 ?_
      refine cg_nm (fun S3 e_S3 => ?_)
      have h := h S3 e_S3
      refine cg_aload_n C (i := 0) rfl 0 rfl dX1_isCovered_62 ?_
      refine cg_aload_n C (i := 1) rfl 1 rfl dX1_isCovered_63 ?_
      refine cg_iload_n C (i := 2) rfl 2 rfl dX1_isCovered_64 ?_
      refine cg_iload_n C (i := 3) rfl 3 rfl dX1_isCovered_65 ?_
      refine cg_iconst C (x := nI 1) rfl dX1_isCovered_66 ?_
      refine cg_iadd C dX1_isCovered_67 ?_
      refine cg_iload C 4 rfl dX1_isCovered_68 ?_
      refine cg_callsi C (t_X1_isCovered_v3 l x0 x1 x2 ((x3 + ((nI 1)))) x4 S3 dp h) cc_X1_145 rfl ⟨by decide, by decide⟩ ⟨by decide, by decide⟩ rfl (Nat.le_of_ble_eq_true rfl) dX1_isCovered_70 (fun r_4 S_4 h => ?_)
      refine cg_if_eq C 78 (by decide) dX1_isCovered_73 (fun c_ => ?_) (fun c_ => ?_)
      · have h := h.1 c_
        exact cg_sub [0, 1, 2, 3, 4, 5] rfl (tb_X1_isCovered_v4_78 C  hR41 x0 x1 x2 x3 x4 x5 S_4 h)
      · have h := h.2 c_
        refine cg_iconst C (x := nI 1) rfl dX1_isCovered_76 ?_
        refine cg_cast (.int (bI true)) rfl ?_
        exact cg_zret C (bI_nar _) h dX1_isCovered_77 (by decide) (by decide)
set_option maxRecDepth 20000 in
theorem tl_X1_isCovered_v4_41 (C : cC p s m args meth c cX1_isCovered 6 (some .boolean) A D Y tp dp RX1) {post : Int32 → cS → Prop}   (x0 : Nat) (x1 : Nat) (x2 : Int32) (x3 : Int32) (x4 : Int32) (x5 : Int32) (S : cS) (h : k_X1_isCovered_v4_41L post dp  x0 x1 x2 x3 x4 x5 S) : cG p l e (cRm 5 0 0 124) s m args below meth c A D Y 6 (MQ below (cQi post D Y A) args s 0 0 A) 0 0 41 [(0, .ref x0), (1, .ref x1), (2, .int x2), (3, .int x3), (4, .int x4), (5, .int x5)] [] S :=
  h (fun y => cG p l e (cRm 5 0 0 124) s m args below meth c A D Y 6 (MQ below (cQi post D Y A) args s 0 0 A) 0 0 41 [(0, .ref (y.1)), (1, .ref (y.2.1)), (2, .int (y.2.2.1)), (3, .int (y.2.2.2.1)), (4, .int (y.2.2.2.2.1)), (5, .int (y.2.2.2.2.2.1))] [] (y.2.2.2.2.2.2)) (fun y hy => tb_X1_isCovered_v4_41 C   (fun b0 b1 b2 b3 b4 b5 S z => z) (y.1) (y.2.1) (y.2.2.1) (y.2.2.2.1) (y.2.2.2.2.1) (y.2.2.2.2.2.1) (y.2.2.2.2.2.2) hy)
set_option maxRecDepth 20000 in
theorem tb_X1_isCovered_v4_39 (C : cC p s m args meth c cX1_isCovered 6 (some .boolean) A D Y tp dp RX1) {post : Int32 → cS → Prop}   (x0 : Nat) (x1 : Nat) (x2 : Int32) (x3 : Int32) (x4 : Int32) (t0 : Int32) (S : cS) (h : k_X1_isCovered_v4_39 post dp  x0 x1 x2 x3 x4 t0 S) : cG p l e (cRm 5 0 0 124) s m args below meth c A D Y 6 (MQ below (cQi post D Y A) args s 0 0 A) 0 0 39 [(0, .ref x0), (1, .ref x1), (2, .int x2), (3, .int x3), (4, .int x4)] [.int t0] S := by
  unfold k_X1_isCovered_v4_39 at h
  refine cg_istore C (lv' := [(5, .int t0), (0, .ref x0), (1, .ref x1), (2, .int x2), (3, .int x3), (4, .int x4)]) (Nat.le_of_ble_eq_true rfl) rfl dX1_isCovered_39 ?_
  exact cg_sub [1, 2, 3, 4, 5, 0] rfl (tl_X1_isCovered_v4_41 C   x0 x1 x2 x3 x4 t0 S h)
end S_X1_isCovered_v4
set_option maxHeartbeats 1000000 in
set_option maxRecDepth 20000 in
theorem t_X1_isCovered_v4 (l : Launch) (x0 : Nat) (x1 : Nat) (x2 : Int32) (x3 : Int32) (x4 : Int32) (S : cS) (dp : Nat) {P : Int32 → cS → Prop} (h : k_X1_isCovered_v4 P dp x0 x1 x2 x3 x4 S) : cMet (cQi P) l yX1_isCovered cX1_isCovered 6 (some .boolean) 5 0 0 124 [.ref x0, .ref x1, .int x2, .int x3, .int x4] S dp := by
  intro D Y tp sz
  refine cg_body (by decide +kernel) (Nat.le_of_ble_eq_true rfl) ?_
  intro p e s m args below meth c C
  generalize va_A (cWd Y S) sz = A at C ⊢
  have C : cC p s m args meth c cX1_isCovered 6 (some .boolean) A D Y tp dp RX1 := C
  refine cg_lv (lv' := [(0, .ref x0), (1, .ref x1), (2, .int x2), (3, .int x3), (4, .int x4)]) rfl ?_
  unfold k_X1_isCovered_v4 at h
  refine cg_iload_n C (i := 3) rfl 3 rfl dX1_isCovered_0 ?_
  refine cg_if_lt C 16 (by decide) dX1_isCovered_1 (fun c_ => ?_) (fun c_ => ?_)
  · have h := h.1 c_
    exact cg_sub [0, 1, 4] rfl (tb_X1_isCovered_v4_16 C   x0 x1 x4 S h)
  · have h := h.2 c_
    refine cg_iload_n C (i := 3) rfl 3 rfl dX1_isCovered_4 ?_
    refine cg_iload C 4 rfl dX1_isCovered_5 ?_
    refine cg_icmp_ge C 16 (by decide) dX1_isCovered_7 (fun c_ => ?_) (fun c_ => ?_)
    · have h := h.1 c_
      exact cg_sub [0, 1, 4] rfl (tb_X1_isCovered_v4_16 C   x0 x1 x4 S h)
    · have h := h.2 c_
      refine cg_iload_n C (i := 3) rfl 3 rfl dX1_isCovered_10 ?_
      refine cg_aload_n C (i := 1) rfl 1 rfl dX1_isCovered_11 ?_
      obtain ⟨hc_12, h⟩ := h
      refine cg_alen C hc_12.1 hc_12.2 (by decide) (by decide) dX1_isCovered_12 ?_
      refine cg_icmp_lt C 24 (by decide) dX1_isCovered_13 (fun c_ => ?_) (fun c_ => ?_)
      · have h := h.1 c_
        refine cg_iload_n C (i := 3) rfl 3 rfl dX1_isCovered_24 ?_
        refine cg_if_ne C 32 (by decide) dX1_isCovered_25 (fun c_ => ?_) (fun c_ => ?_)
        · have h := h.1 c_
          refine cg_aload_n C (i := 1) rfl 1 rfl dX1_isCovered_32 ?_
          refine cg_iload_n C (i := 3) rfl 3 rfl dX1_isCovered_33 ?_
          refine cg_iconst C (x := nI 1) rfl dX1_isCovered_34 ?_
          refine cg_isub C dX1_isCovered_35 ?_
          obtain ⟨hc_36, h⟩ := h
          refine cg_ialoadR C hc_36 dX1_isCovered_36 ?_
          refine cg_iconst C (x := nI 1) rfl dX1_isCovered_37 ?_
          refine cg_iadd C dX1_isCovered_38 ?_
          exact cg_sub [0, 1, 2, 3, 4] rfl (tb_X1_isCovered_v4_39 C   x0 x1 x2 x3 x4 ((((cI S x1 ((x3 - ((nI 1)))).toNatClampNeg)) + ((nI 1)))) S h)
        · have h := h.2 c_
          refine cg_iconst C (x := nI 0) rfl dX1_isCovered_28 ?_
          refine cg_goto C 39 (by decide) dX1_isCovered_29 ?_
          exact cg_sub [0, 1, 2, 3, 4] rfl (tb_X1_isCovered_v4_39 C   x0 x1 x2 x3 x4 ((nI 0)) S h)
      · have h := h.2 c_
        exact cg_sub [0, 1, 4] rfl (tb_X1_isCovered_v4_16 C   x0 x1 x4 S h)
