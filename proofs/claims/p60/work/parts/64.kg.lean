/-! the methods of the class as predicates, and their contracts -/
def k_X10_changedSince_76 (Q : Int32 → cS → Prop) (dp : Nat) (R4 : Nat → Option Nat → Int32 → Int32 → cS → Prop) (x0 : Nat) (x1 : Option Nat) (x2 : Int32) (x3 : Int32) (S : cS) : Prop :=
((x1 = none →
  ∀ x3_11 : Int32, x3_11 = x3 + nI 1 → R4 x0 none x2 x3_11 S) ∧
 (∀ b10 : Nat, x1 = some b10 →
  ∀ x3_12 : Int32, x3_12 = x3 + nI 1 → R4 x0 (some b10) x2 x3_12 S))
def k_X10_changedSince_73 (Q : Int32 → cS → Prop) (dp : Nat) (R4 : Nat → Option Nat → Int32 → Int32 → cS → Prop) (x0 : Nat) (x1 : Option Nat) (x2 : Int32) (x3 : Int32) (S : cS) : Prop :=
((x1 = none →
  ∀ x2_14 : Int32, x2_14 = x2 + nI 1 → k_X10_changedSince_76 Q dp R4 x0 none x2_14 x3 S) ∧
 (∀ b13 : Nat, x1 = some b13 →
  ∀ x2_15 : Int32, x2_15 = x2 + nI 1 → k_X10_changedSince_76 Q dp R4 x0 (some b13) x2_15 x3 S))
def k_X10_changedSince_45 (Q : Int32 → cS → Prop) (dp : Nat) (R4 : Nat → Option Nat → Int32 → Int32 → cS → Prop) (x0 : Nat) (x1 : Option Nat) (x2 : Int32) (x3 : Int32) (x4 : Nat) (t0 : Option Nat) (S : cS) : Prop :=
((x1 = none →
  ((t0 = none →
    cA S x4 2 ∧ (k_X2_hasDead (fun r_9 S_9 => 
    ((r_9 = 0 →
      k_X10_changedSince_76 Q dp R4 x0 none x2 x3 S_9) ∧
     (¬ r_9 = 0 →
      k_X10_changedSince_73 Q dp R4 x0 none x2 x3 S_9))) dp x4 S)) ∧
   (∀ b8 : Nat, t0 = some b8 →
    cA S x4 2 ∧ (k_X2_isAlike (fun r_16 S_16 => 
    ((¬ r_16 = 0 →
      k_X10_changedSince_76 Q dp R4 x0 none x2 x3 S_16) ∧
     (r_16 = 0 →
      k_X10_changedSince_73 Q dp R4 x0 none x2 x3 S_16))) dp x4 b8 S)))) ∧
 (∀ b7 : Nat, x1 = some b7 →
  ((t0 = none →
    cA S x4 2 ∧ (k_X2_hasDead (fun r_18 S_18 => 
    ((r_18 = 0 →
      k_X10_changedSince_76 Q dp R4 x0 (some b7) x2 x3 S_18) ∧
     (¬ r_18 = 0 →
      k_X10_changedSince_73 Q dp R4 x0 (some b7) x2 x3 S_18))) dp x4 S)) ∧
   (∀ b17 : Nat, t0 = some b17 →
    cA S x4 2 ∧ (k_X2_isAlike (fun r_19 S_19 => 
    ((¬ r_19 = 0 →
      k_X10_changedSince_76 Q dp R4 x0 (some b7) x2 x3 S_19) ∧
     (r_19 = 0 →
      k_X10_changedSince_73 Q dp R4 x0 (some b7) x2 x3 S_19))) dp x4 b17 S)))))
def k_X10_changedSince_4 (Q : Int32 → cS → Prop) (dp : Nat) (R4 : Nat → Option Nat → Int32 → Int32 → cS → Prop) (x0 : Nat) (x1 : Option Nat) (x2 : Int32) (x3 : Int32) (S : cS) : Prop :=
((x1 = none →
  cA S x0 10 ∧ ((∃ b3 : Nat, cr S 321 x0 = some b3 ∧ (cA S b3 12 ∧ (k_Jx4a65c_size_8abf5 (fun r_4 S_4 => 
  ((r_4 ≤ x3 →
    Q x2 S_4) ∧
   (¬ r_4 ≤ x3 →
    cA S_4 x0 10 ∧ ((∃ b5 : Nat, cr S_4 321 x0 = some b5 ∧ (cA S_4 b5 12 ∧ (k_Jx4a65c_get_915e3 (fun r_6 S_6 => 
    cA S_6 r_6 2 ∧ (k_X10_changedSince_45 Q dp R4 x0 none x2 x3 r_6 none S_6)) dp b5 x3 S_4))))))) dp b3 S))))) ∧
 (∀ b2 : Nat, x1 = some b2 →
  cA S x0 10 ∧ ((∃ b20 : Nat, cr S 321 x0 = some b20 ∧ (cA S b20 12 ∧ (k_Jx4a65c_size_8abf5 (fun r_21 S_21 => 
  ((r_21 ≤ x3 →
    Q x2 S_21) ∧
   (¬ r_21 ≤ x3 →
    cA S_21 x0 10 ∧ ((∃ b22 : Nat, cr S_21 321 x0 = some b22 ∧ (cA S_21 b22 12 ∧ (k_Jx4a65c_get_915e3 (fun r_23 S_23 => 
    cA S_23 r_23 2 ∧ (cA S_23 r_23 2 ∧ ((∃ b24 : Nat, cr S_23 64 r_23 = some b24 ∧ (cA S_23 b2 10 ∧ (k_X10_holdingOf (fun r_25 S_25 => 
    ((r_25 = none →
      k_X10_changedSince_45 Q dp R4 x0 (some b2) x2 x3 r_23 none S_25) ∧
     (∀ b26 : Nat, r_25 = some b26 →
      k_X10_changedSince_45 Q dp R4 x0 (some b2) x2 x3 r_23 (some b26) S_25))) dp b2 b24 S_23)))))) dp b22 x3 S_21))))))) dp b20 S))))))
def k_X10_changedSince_4L (Q : Int32 → cS → Prop) (dp : Nat)  (x0 : Nat) (x1 : Option Nat) (x2 : Int32) (x3 : Int32) (S : cS) : Prop :=
  lfp (X := Nat × Option Nat × Int32 × Int32 × cS) (fun P y => k_X10_changedSince_4 Q dp  (fun b0 b1 b2 b3 S => P (b0, b1, b2, b3, S)) y.1 y.2.1 y.2.2.1 y.2.2.2.1 y.2.2.2.2) (x0, x1, x2, x3, S)
def k_X10_changedSince (Q : Int32 → cS → Prop) (dp : Nat) (x0 : Nat) (x1 : Option Nat) (S : cS) : Prop :=
((x1 = none →
  k_X10_changedSince_4L Q dp  x0 none (((nI 0))) (((nI 0))) S) ∧
 (∀ b1 : Nat, x1 = some b1 →
  k_X10_changedSince_4L Q dp  x0 (some b1) (((nI 0))) (((nI 0))) S))
section S_X10_changedSince
variable {p : Program} {l : Launch} {e : Env} {s : State} {m : MethodId} {args : Array Value} {below : List Frame} {meth : Method} {c : Code} {A : Nat → Prop} {D : va_G} {Y : cY} {tp dp : Nat}
set_option maxRecDepth 20000 in
theorem tb_X10_changedSince_76 (C : cC p s m args meth c cX10_changedSince 6 (some .int) A D Y tp dp RX10) {post : Int32 → cS → Prop} {R4 : Nat → Option Nat → Int32 → Int32 → cS → Prop} (hR4 : ∀ (x0 : Nat) (x1 : Option Nat) (x2 : Int32) (x3 : Int32) (S : cS), R4 x0 x1 x2 x3 S → cG p l e (cRm 5 0 0 107) s m args below meth c A D Y 6 (MQ below (cQi post D Y A) args s 0 0 A) 0 0 4 [(0, .ref x0), (1, va_rf x1), (2, .int x2), (3, .int x3)] [] S) (x0 : Nat) (x1 : Option Nat) (x2 : Int32) (x3 : Int32) (S : cS) (h : k_X10_changedSince_76 post dp R4 x0 x1 x2 x3 S) : cG p l e (cRm 5 0 0 107) s m args below meth c A D Y 6 (MQ below (cQi post D Y A) args s 0 0 A) 0 0 76 [(0, .ref x0), (1, va_rf x1), (2, .int x2), (3, .int x3)] [] S := by
  unfold k_X10_changedSince_76 at h
  obtain ho | ⟨b10, ho⟩ := c_opt x1
  · replace h := h.1 ho
    subst ho
    refine cg_lv (lv' := [(0, .ref x0), (1, .null), (2, .int x2), (3, .int x3)]) rfl ?_
    refine cg_st (st' := []) rfl ?_
    obtain ⟨x3_11, e_x3_11⟩ : ∃ z : Int32, z = x3 + nI 1 := ⟨_, rfl⟩
    have h := h x3_11 e_x3_11
    refine cg_iinc C (lv' := [(3, .int x3_11), (0, .ref x0), (1, .null), (2, .int x2)]) 3 rfl (by rw [e_x3_11]; rfl) (Nat.le_of_ble_eq_true rfl) rfl dX10_changedSince_76 ?_
    refine cg_goto C 4 (by decide) dX10_changedSince_79 ?_
    exact cg_sub [1, 2, 3, 0] rfl (hR4 x0 none x2 x3_11 S h)
  · replace h := h.2 b10 ho
    subst ho
    refine cg_lv (lv' := [(0, .ref x0), (1, .ref b10), (2, .int x2), (3, .int x3)]) rfl ?_
    refine cg_st (st' := []) rfl ?_
    obtain ⟨x3_12, e_x3_12⟩ : ∃ z : Int32, z = x3 + nI 1 := ⟨_, rfl⟩
    have h := h x3_12 e_x3_12
    refine cg_iinc C (lv' := [(3, .int x3_12), (0, .ref x0), (1, .ref b10), (2, .int x2)]) 3 rfl (by rw [e_x3_12]; rfl) (Nat.le_of_ble_eq_true rfl) rfl dX10_changedSince_76 ?_
    refine cg_goto C 4 (by decide) dX10_changedSince_79 ?_
    exact cg_sub [1, 2, 3, 0] rfl (hR4 x0 (some b10) x2 x3_12 S h)
set_option maxRecDepth 20000 in
theorem tb_X10_changedSince_73 (C : cC p s m args meth c cX10_changedSince 6 (some .int) A D Y tp dp RX10) {post : Int32 → cS → Prop} {R4 : Nat → Option Nat → Int32 → Int32 → cS → Prop} (hR4 : ∀ (x0 : Nat) (x1 : Option Nat) (x2 : Int32) (x3 : Int32) (S : cS), R4 x0 x1 x2 x3 S → cG p l e (cRm 5 0 0 107) s m args below meth c A D Y 6 (MQ below (cQi post D Y A) args s 0 0 A) 0 0 4 [(0, .ref x0), (1, va_rf x1), (2, .int x2), (3, .int x3)] [] S) (x0 : Nat) (x1 : Option Nat) (x2 : Int32) (x3 : Int32) (S : cS) (h : k_X10_changedSince_73 post dp R4 x0 x1 x2 x3 S) : cG p l e (cRm 5 0 0 107) s m args below meth c A D Y 6 (MQ below (cQi post D Y A) args s 0 0 A) 0 0 73 [(0, .ref x0), (1, va_rf x1), (2, .int x2), (3, .int x3)] [] S := by
  unfold k_X10_changedSince_73 at h
  obtain ho | ⟨b13, ho⟩ := c_opt x1
  · replace h := h.1 ho
    subst ho
    refine cg_lv (lv' := [(0, .ref x0), (1, .null), (2, .int x2), (3, .int x3)]) rfl ?_
    refine cg_st (st' := []) rfl ?_
    obtain ⟨x2_14, e_x2_14⟩ : ∃ z : Int32, z = x2 + nI 1 := ⟨_, rfl⟩
    have h := h x2_14 e_x2_14
    refine cg_iinc C (lv' := [(2, .int x2_14), (0, .ref x0), (1, .null), (3, .int x3)]) 2 rfl (by rw [e_x2_14]; rfl) (Nat.le_of_ble_eq_true rfl) rfl dX10_changedSince_73 ?_
    exact cg_sub [1, 2, 0, 3] rfl (tb_X10_changedSince_76 C  hR4 x0 none x2_14 x3 S h)
  · replace h := h.2 b13 ho
    subst ho
    refine cg_lv (lv' := [(0, .ref x0), (1, .ref b13), (2, .int x2), (3, .int x3)]) rfl ?_
    refine cg_st (st' := []) rfl ?_
    obtain ⟨x2_15, e_x2_15⟩ : ∃ z : Int32, z = x2 + nI 1 := ⟨_, rfl⟩
    have h := h x2_15 e_x2_15
    refine cg_iinc C (lv' := [(2, .int x2_15), (0, .ref x0), (1, .ref b13), (3, .int x3)]) 2 rfl (by rw [e_x2_15]; rfl) (Nat.le_of_ble_eq_true rfl) rfl dX10_changedSince_73 ?_
    exact cg_sub [1, 2, 0, 3] rfl (tb_X10_changedSince_76 C  hR4 x0 (some b13) x2_15 x3 S h)
set_option maxRecDepth 20000 in
theorem tb_X10_changedSince_45 (C : cC p s m args meth c cX10_changedSince 6 (some .int) A D Y tp dp RX10) {post : Int32 → cS → Prop} {R4 : Nat → Option Nat → Int32 → Int32 → cS → Prop} (hR4 : ∀ (x0 : Nat) (x1 : Option Nat) (x2 : Int32) (x3 : Int32) (S : cS), R4 x0 x1 x2 x3 S → cG p l e (cRm 5 0 0 107) s m args below meth c A D Y 6 (MQ below (cQi post D Y A) args s 0 0 A) 0 0 4 [(0, .ref x0), (1, va_rf x1), (2, .int x2), (3, .int x3)] [] S) (x0 : Nat) (x1 : Option Nat) (x2 : Int32) (x3 : Int32) (x4 : Nat) (t0 : Option Nat) (S : cS) (h : k_X10_changedSince_45 post dp R4 x0 x1 x2 x3 x4 t0 S) : cG p l e (cRm 5 0 0 107) s m args below meth c A D Y 6 (MQ below (cQi post D Y A) args s 0 0 A) 0 0 45 [(0, .ref x0), (1, va_rf x1), (2, .int x2), (3, .int x3), (4, .ref x4)] [va_rf t0] S := by
  unfold k_X10_changedSince_45 at h
  obtain ho | ⟨b7, ho⟩ := c_opt x1
  · replace h := h.1 ho
    subst ho
    refine cg_lv (lv' := [(0, .ref x0), (1, .null), (2, .int x2), (3, .int x3), (4, .ref x4)]) rfl ?_
    refine cg_st (st' := [va_rf t0]) rfl ?_
    obtain ho | ⟨b8, ho⟩ := c_opt t0
    · replace h := h.1 ho
      subst ho
      refine cg_lv (lv' := [(0, .ref x0), (1, .null), (2, .int x2), (3, .int x3), (4, .ref x4)]) rfl ?_
      refine cg_st (st' := [.null]) rfl ?_
      refine cg_astoreN (lv' := [(5, .null), (0, .ref x0), (1, .null), (2, .int x2), (3, .int x3), (4, .ref x4)]) C (Nat.le_of_ble_eq_true rfl) rfl dX10_changedSince_45 ?_
      refine cg_aloadN C 0 rfl dX10_changedSince_47 ?_
      refine cg_ifnonnullN C dX10_changedSince_49 ?_
      refine cg_aload C 5 rfl dX10_changedSince_52 ?_
      obtain ⟨hc_54, h⟩ := h
      refine cg_calli C (t_X2_hasDead l x4 S dp h) cc_X10_99 hc_54.1 hc_54.2 (by decide) rfl rfl ⟨by decide, by decide⟩ ⟨by decide, by decide⟩ rfl (Nat.le_of_ble_eq_true rfl) dX10_changedSince_54 (fun r_9 S_9 h => ?_)
      refine cg_if_eq C 76 (by decide) dX10_changedSince_57 (fun c_ => ?_) (fun c_ => ?_)
      · have h := h.1 c_
        exact cg_sub [1, 2, 3, 4] rfl (tb_X10_changedSince_76 C  hR4 x0 none x2 x3 S_9 h)
      · have h := h.2 c_
        refine cg_goto C 73 (by decide) dX10_changedSince_60 ?_
        exact cg_sub [1, 2, 3, 4] rfl (tb_X10_changedSince_73 C  hR4 x0 none x2 x3 S_9 h)
    · replace h := h.2 b8 ho
      subst ho
      refine cg_lv (lv' := [(0, .ref x0), (1, .null), (2, .int x2), (3, .int x3), (4, .ref x4)]) rfl ?_
      refine cg_st (st' := [.ref b8]) rfl ?_
      refine cg_astore (lv' := [(5, .ref b8), (0, .ref x0), (1, .null), (2, .int x2), (3, .int x3), (4, .ref x4)]) C (Nat.le_of_ble_eq_true rfl) rfl dX10_changedSince_45 ?_
      refine cg_aload C 0 rfl dX10_changedSince_47 ?_
      refine cg_ifnonnull C 63 (by decide) dX10_changedSince_49 ?_
      refine cg_aload C 5 rfl dX10_changedSince_63 ?_
      refine cg_aload C 0 rfl dX10_changedSince_65 ?_
      obtain ⟨hc_67, h⟩ := h
      refine cg_calli C (t_X2_isAlike l x4 b8 S dp h) cc_X10_103 hc_67.1 hc_67.2 (by decide) rfl rfl ⟨by decide, by decide⟩ ⟨by decide, by decide⟩ rfl (Nat.le_of_ble_eq_true rfl) dX10_changedSince_67 (fun r_16 S_16 h => ?_)
      refine cg_if_ne C 76 (by decide) dX10_changedSince_70 (fun c_ => ?_) (fun c_ => ?_)
      · have h := h.1 c_
        exact cg_sub [1, 2, 3, 4] rfl (tb_X10_changedSince_76 C  hR4 x0 none x2 x3 S_16 h)
      · have h := h.2 c_
        exact cg_sub [1, 2, 3, 4] rfl (tb_X10_changedSince_73 C  hR4 x0 none x2 x3 S_16 h)
  · replace h := h.2 b7 ho
    subst ho
    refine cg_lv (lv' := [(0, .ref x0), (1, .ref b7), (2, .int x2), (3, .int x3), (4, .ref x4)]) rfl ?_
    refine cg_st (st' := [va_rf t0]) rfl ?_
    obtain ho | ⟨b17, ho⟩ := c_opt t0
    · replace h := h.1 ho
      subst ho
      refine cg_lv (lv' := [(0, .ref x0), (1, .ref b7), (2, .int x2), (3, .int x3), (4, .ref x4)]) rfl ?_
      refine cg_st (st' := [.null]) rfl ?_
      refine cg_astoreN (lv' := [(5, .null), (0, .ref x0), (1, .ref b7), (2, .int x2), (3, .int x3), (4, .ref x4)]) C (Nat.le_of_ble_eq_true rfl) rfl dX10_changedSince_45 ?_
      refine cg_aloadN C 0 rfl dX10_changedSince_47 ?_
      refine cg_ifnonnullN C dX10_changedSince_49 ?_
      refine cg_aload C 5 rfl dX10_changedSince_52 ?_
      obtain ⟨hc_54, h⟩ := h
      refine cg_calli C (t_X2_hasDead l x4 S dp h) cc_X10_99 hc_54.1 hc_54.2 (by decide) rfl rfl ⟨by decide, by decide⟩ ⟨by decide, by decide⟩ rfl (Nat.le_of_ble_eq_true rfl) dX10_changedSince_54 (fun r_18 S_18 h => ?_)
      refine cg_if_eq C 76 (by decide) dX10_changedSince_57 (fun c_ => ?_) (fun c_ => ?_)
      · have h := h.1 c_
        exact cg_sub [1, 2, 3, 4] rfl (tb_X10_changedSince_76 C  hR4 x0 (some b7) x2 x3 S_18 h)
      · have h := h.2 c_
        refine cg_goto C 73 (by decide) dX10_changedSince_60 ?_
        exact cg_sub [1, 2, 3, 4] rfl (tb_X10_changedSince_73 C  hR4 x0 (some b7) x2 x3 S_18 h)
    · replace h := h.2 b17 ho
      subst ho
      refine cg_lv (lv' := [(0, .ref x0), (1, .ref b7), (2, .int x2), (3, .int x3), (4, .ref x4)]) rfl ?_
      refine cg_st (st' := [.ref b17]) rfl ?_
      refine cg_astore (lv' := [(5, .ref b17), (0, .ref x0), (1, .ref b7), (2, .int x2), (3, .int x3), (4, .ref x4)]) C (Nat.le_of_ble_eq_true rfl) rfl dX10_changedSince_45 ?_
      refine cg_aload C 0 rfl dX10_changedSince_47 ?_
      refine cg_ifnonnull C 63 (by decide) dX10_changedSince_49 ?_
      refine cg_aload C 5 rfl dX10_changedSince_63 ?_
      refine cg_aload C 0 rfl dX10_changedSince_65 ?_
      obtain ⟨hc_67, h⟩ := h
      refine cg_calli C (t_X2_isAlike l x4 b17 S dp h) cc_X10_103 hc_67.1 hc_67.2 (by decide) rfl rfl ⟨by decide, by decide⟩ ⟨by decide, by decide⟩ rfl (Nat.le_of_ble_eq_true rfl) dX10_changedSince_67 (fun r_19 S_19 h => ?_)
      refine cg_if_ne C 76 (by decide) dX10_changedSince_70 (fun c_ => ?_) (fun c_ => ?_)
      · have h := h.1 c_
        exact cg_sub [1, 2, 3, 4] rfl (tb_X10_changedSince_76 C  hR4 x0 (some b7) x2 x3 S_19 h)
      · have h := h.2 c_
        exact cg_sub [1, 2, 3, 4] rfl (tb_X10_changedSince_73 C  hR4 x0 (some b7) x2 x3 S_19 h)
set_option maxRecDepth 20000 in
theorem tb_X10_changedSince_4 (C : cC p s m args meth c cX10_changedSince 6 (some .int) A D Y tp dp RX10) {post : Int32 → cS → Prop} {R4 : Nat → Option Nat → Int32 → Int32 → cS → Prop} (hR4 : ∀ (x0 : Nat) (x1 : Option Nat) (x2 : Int32) (x3 : Int32) (S : cS), R4 x0 x1 x2 x3 S → cG p l e (cRm 5 0 0 107) s m args below meth c A D Y 6 (MQ below (cQi post D Y A) args s 0 0 A) 0 0 4 [(0, .ref x0), (1, va_rf x1), (2, .int x2), (3, .int x3)] [] S) (x0 : Nat) (x1 : Option Nat) (x2 : Int32) (x3 : Int32) (S : cS) (h : k_X10_changedSince_4 post dp R4 x0 x1 x2 x3 S) : cG p l e (cRm 5 0 0 107) s m args below meth c A D Y 6 (MQ below (cQi post D Y A) args s 0 0 A) 0 0 4 [(0, .ref x0), (1, va_rf x1), (2, .int x2), (3, .int x3)] [] S := by
  unfold k_X10_changedSince_4 at h
  obtain ho | ⟨b2, ho⟩ := c_opt x1
  · replace h := h.1 ho
    subst ho
    refine cg_lv (lv' := [(0, .ref x0), (1, .null), (2, .int x2), (3, .int x3)]) rfl ?_
    refine cg_st (st' := []) rfl ?_
    refine cg_iload_n C (i := 3) rfl 3 rfl dX10_changedSince_4 ?_
    refine cg_aload_n C (i := 0) rfl 0 rfl dX10_changedSince_5 ?_
    obtain ⟨hc_6, h⟩ := h
    obtain ⟨b3, hb_b3, h⟩ := h
    refine cg_get C (k := 10) (j := 1) (.ref b3) hc_6.1 hc_6.2 (by decide) rfl (by decide) rfl (show cV _ 10 1 x0 = _ from congrArg va_rf hb_b3) cWs_wsX100 cl_X10_12 rfl dX10_changedSince_6 ?_
    obtain ⟨hc_9, h⟩ := h
    refine cg_calli C (t_Jx4a65c_size_8abf5 l b3 S dp h) cc_X10_22 hc_9.1 hc_9.2 (by decide) rfl rfl ⟨by decide, by decide⟩ ⟨by decide, by decide⟩ rfl (Nat.le_of_ble_eq_true rfl) dX10_changedSince_9 (fun r_4 S_4 h => ?_)
    refine cg_icmp_ge C 82 (by decide) dX10_changedSince_12 (fun c_ => ?_) (fun c_ => ?_)
    · have h := h.1 c_
      refine cg_iload_n C (i := 2) rfl 2 rfl dX10_changedSince_82 ?_
      exact cg_iret C h dX10_changedSince_83 (by decide) (by decide)
    · have h := h.2 c_
      refine cg_aload_n C (i := 0) rfl 0 rfl dX10_changedSince_15 ?_
      obtain ⟨hc_16, h⟩ := h
      obtain ⟨b5, hb_b5, h⟩ := h
      refine cg_get C (k := 10) (j := 1) (.ref b5) hc_16.1 hc_16.2 (by decide) rfl (by decide) rfl (show cV _ 10 1 x0 = _ from congrArg va_rf hb_b5) cWs_wsX100 cl_X10_12 rfl dX10_changedSince_16 ?_
      refine cg_iload_n C (i := 3) rfl 3 rfl dX10_changedSince_19 ?_
      obtain ⟨hc_20, h⟩ := h
      refine cg_callr C (t_Jx4a65c_get_915e3 l b5 x3 S_4 dp h) cc_X10_26 hc_20.1 hc_20.2 (by decide) rfl rfl ⟨by decide, by decide⟩ ⟨by decide, by decide⟩ rfl (Nat.le_of_ble_eq_true rfl) dX10_changedSince_20 (fun r_6 S_6 h => ?_)
      obtain ⟨hc_23, h⟩ := h
      refine cg_ccast C (k := 2) hc_23.1 hc_23.2 (by decide) rfl cnc_X10_30 dX10_changedSince_23 ?_
      refine cg_astore (lv' := [(4, .ref r_6), (0, .ref x0), (1, .null), (2, .int x2), (3, .int x3)]) C (Nat.le_of_ble_eq_true rfl) rfl dX10_changedSince_26 ?_
      refine cg_aloadN_n C (i := 1) rfl 2 rfl dX10_changedSince_28 ?_
      refine cg_ifnonnullN C dX10_changedSince_29 ?_
      refine cg_null C dX10_changedSince_32 ?_
      refine cg_goto C 45 (by decide) dX10_changedSince_33 ?_
      exact cg_sub [1, 2, 3, 4, 0] rfl (tb_X10_changedSince_45 C  hR4 x0 none x2 x3 r_6 none S_6 h)
  · replace h := h.2 b2 ho
    subst ho
    refine cg_lv (lv' := [(0, .ref x0), (1, .ref b2), (2, .int x2), (3, .int x3)]) rfl ?_
    refine cg_st (st' := []) rfl ?_
    refine cg_iload_n C (i := 3) rfl 3 rfl dX10_changedSince_4 ?_
    refine cg_aload_n C (i := 0) rfl 0 rfl dX10_changedSince_5 ?_
    obtain ⟨hc_6, h⟩ := h
    obtain ⟨b20, hb_b20, h⟩ := h
    refine cg_get C (k := 10) (j := 1) (.ref b20) hc_6.1 hc_6.2 (by decide) rfl (by decide) rfl (show cV _ 10 1 x0 = _ from congrArg va_rf hb_b20) cWs_wsX100 cl_X10_12 rfl dX10_changedSince_6 ?_
    obtain ⟨hc_9, h⟩ := h
    refine cg_calli C (t_Jx4a65c_size_8abf5 l b20 S dp h) cc_X10_22 hc_9.1 hc_9.2 (by decide) rfl rfl ⟨by decide, by decide⟩ ⟨by decide, by decide⟩ rfl (Nat.le_of_ble_eq_true rfl) dX10_changedSince_9 (fun r_21 S_21 h => ?_)
    refine cg_icmp_ge C 82 (by decide) dX10_changedSince_12 (fun c_ => ?_) (fun c_ => ?_)
    · have h := h.1 c_
      refine cg_iload_n C (i := 2) rfl 2 rfl dX10_changedSince_82 ?_
      exact cg_iret C h dX10_changedSince_83 (by decide) (by decide)
    · have h := h.2 c_
      refine cg_aload_n C (i := 0) rfl 0 rfl dX10_changedSince_15 ?_
      obtain ⟨hc_16, h⟩ := h
      obtain ⟨b22, hb_b22, h⟩ := h
      refine cg_get C (k := 10) (j := 1) (.ref b22) hc_16.1 hc_16.2 (by decide) rfl (by decide) rfl (show cV _ 10 1 x0 = _ from congrArg va_rf hb_b22) cWs_wsX100 cl_X10_12 rfl dX10_changedSince_16 ?_
      refine cg_iload_n C (i := 3) rfl 3 rfl dX10_changedSince_19 ?_
      obtain ⟨hc_20, h⟩ := h
      refine cg_callr C (t_Jx4a65c_get_915e3 l b22 x3 S_21 dp h) cc_X10_26 hc_20.1 hc_20.2 (by decide) rfl rfl ⟨by decide, by decide⟩ ⟨by decide, by decide⟩ rfl (Nat.le_of_ble_eq_true rfl) dX10_changedSince_20 (fun r_23 S_23 h => ?_)
      obtain ⟨hc_23, h⟩ := h
      refine cg_ccast C (k := 2) hc_23.1 hc_23.2 (by decide) rfl cnc_X10_30 dX10_changedSince_23 ?_
      refine cg_astore (lv' := [(4, .ref r_23), (0, .ref x0), (1, .ref b2), (2, .int x2), (3, .int x3)]) C (Nat.le_of_ble_eq_true rfl) rfl dX10_changedSince_26 ?_
      refine cg_aload_n C (i := 1) rfl 2 rfl dX10_changedSince_28 ?_
      refine cg_ifnonnull C 36 (by decide) dX10_changedSince_29 ?_
      refine cg_aload_n C (i := 1) rfl 2 rfl dX10_changedSince_36 ?_
      refine cg_aload C 0 rfl dX10_changedSince_37 ?_
      obtain ⟨hc_39, h⟩ := h
      obtain ⟨b24, hb_b24, h⟩ := h
      refine cg_get C (k := 2) (j := 0) (.ref b24) hc_39.1 hc_39.2 (by decide) rfl (by decide) rfl (show cV _ 2 0 r_23 = _ from congrArg va_rf hb_b24) cWs_wsX20 cl_X10_36 rfl dX10_changedSince_39 ?_
      obtain ⟨hc_42, h⟩ := h
      refine cg_callq C (t_X10_holdingOf l b2 b24 S_23 dp h) cc_X10_95 hc_42.1 hc_42.2 (by decide) rfl rfl ⟨by decide, by decide⟩ ⟨by decide, by decide⟩ rfl (Nat.le_of_ble_eq_true rfl) dX10_changedSince_42 (fun r_25 S_25 h => ?_)
      obtain ho | ⟨b26, ho⟩ := c_opt r_25
      · replace h := h.1 ho
        subst ho
        refine cg_cast (.null) rfl ?_
        exact cg_sub [1, 2, 3, 4, 0] rfl (tb_X10_changedSince_45 C  hR4 x0 (some b2) x2 x3 r_23 none S_25 h)
      · replace h := h.2 b26 ho
        subst ho
        refine cg_cast (.ref b26) rfl ?_
        exact cg_sub [1, 2, 3, 4, 0] rfl (tb_X10_changedSince_45 C  hR4 x0 (some b2) x2 x3 r_23 (some b26) S_25 h)
set_option maxRecDepth 20000 in
theorem tl_X10_changedSince_4 (C : cC p s m args meth c cX10_changedSince 6 (some .int) A D Y tp dp RX10) {post : Int32 → cS → Prop}   (x0 : Nat) (x1 : Option Nat) (x2 : Int32) (x3 : Int32) (S : cS) (h : k_X10_changedSince_4L post dp  x0 x1 x2 x3 S) : cG p l e (cRm 5 0 0 107) s m args below meth c A D Y 6 (MQ below (cQi post D Y A) args s 0 0 A) 0 0 4 [(0, .ref x0), (1, va_rf x1), (2, .int x2), (3, .int x3)] [] S :=
  h (fun y => cG p l e (cRm 5 0 0 107) s m args below meth c A D Y 6 (MQ below (cQi post D Y A) args s 0 0 A) 0 0 4 [(0, .ref (y.1)), (1, va_rf (y.2.1)), (2, .int (y.2.2.1)), (3, .int (y.2.2.2.1))] [] (y.2.2.2.2)) (fun y hy => tb_X10_changedSince_4 C   (fun b0 b1 b2 b3 S z => z) (y.1) (y.2.1) (y.2.2.1) (y.2.2.2.1) (y.2.2.2.2) hy)
end S_X10_changedSince
set_option maxHeartbeats 1000000 in
set_option maxRecDepth 20000 in
theorem t_X10_changedSince (l : Launch) (x0 : Nat) (x1 : Option Nat) (S : cS) (dp : Nat) {P : Int32 → cS → Prop} (h : k_X10_changedSince P dp x0 x1 S) : cMet (cQi P) l yX10_changedSince cX10_changedSince 6 (some .int) 5 0 0 107 [.ref x0, va_rf x1] S dp := by
  unfold k_X10_changedSince at h
  obtain ho | ⟨b1, ho⟩ := c_opt x1
  · replace h := h.1 ho
    subst ho
    intro D Y tp sz
    refine cg_body (by decide +kernel) (Nat.le_of_ble_eq_true rfl) ?_
    intro p e s m args below meth c C
    generalize va_A (cWd Y S) sz = A at C ⊢
    have C : cC p s m args meth c cX10_changedSince 6 (some .int) A D Y tp dp RX10 := C
    refine cg_lv (lv' := [(0, .ref x0), (1, .null)]) rfl ?_
    refine cg_iconst C (x := nI 0) rfl dX10_changedSince_0 ?_
    refine cg_istore_n C (i := 2) (lv' := [(2, .int ((nI 0))), (0, .ref x0), (1, .null)]) rfl (Nat.le_of_ble_eq_true rfl) rfl dX10_changedSince_1 ?_
    refine cg_iconst C (x := nI 0) rfl dX10_changedSince_2 ?_
    refine cg_istore_n C (i := 3) (lv' := [(3, .int ((nI 0))), (2, .int ((nI 0))), (0, .ref x0), (1, .null)]) rfl (Nat.le_of_ble_eq_true rfl) rfl dX10_changedSince_3 ?_
    exact cg_sub [2, 3, 1, 0] rfl (tl_X10_changedSince_4 C   x0 none (((nI 0))) (((nI 0))) S h)
  · replace h := h.2 b1 ho
    subst ho
    intro D Y tp sz
    refine cg_body (by decide +kernel) (Nat.le_of_ble_eq_true rfl) ?_
    intro p e s m args below meth c C
    generalize va_A (cWd Y S) sz = A at C ⊢
    have C : cC p s m args meth c cX10_changedSince 6 (some .int) A D Y tp dp RX10 := C
    refine cg_lv (lv' := [(0, .ref x0), (1, .ref b1)]) rfl ?_
    refine cg_iconst C (x := nI 0) rfl dX10_changedSince_0 ?_
    refine cg_istore_n C (i := 2) (lv' := [(2, .int ((nI 0))), (0, .ref x0), (1, .ref b1)]) rfl (Nat.le_of_ble_eq_true rfl) rfl dX10_changedSince_1 ?_
    refine cg_iconst C (x := nI 0) rfl dX10_changedSince_2 ?_
    refine cg_istore_n C (i := 3) (lv' := [(3, .int ((nI 0))), (2, .int ((nI 0))), (0, .ref x0), (1, .ref b1)]) rfl (Nat.le_of_ble_eq_true rfl) rfl dX10_changedSince_3 ?_
    exact cg_sub [2, 3, 1, 0] rfl (tl_X10_changedSince_4 C   x0 (some b1) (((nI 0))) (((nI 0))) S h)
def k_X10_newFiles_61 (Q : Int32 → cS → Prop) (dp : Nat) (R4 : Nat → Nat → Int32 → Int32 → cS → Prop) (x0 : Nat) (x1 : Nat) (x2 : Int32) (x3 : Int32) (S : cS) : Prop :=
∀ x3_7 : Int32, x3_7 = x3 + nI 1 → R4 x0 x1 x2 x3_7 S
def k_X10_newFiles_4 (Q : Int32 → cS → Prop) (dp : Nat) (R4 : Nat → Nat → Int32 → Int32 → cS → Prop) (x0 : Nat) (x1 : Nat) (x2 : Int32) (x3 : Int32) (S : cS) : Prop :=
cA S x0 10 ∧ ((∃ b1 : Nat, cr S 321 x0 = some b1 ∧ (cA S b1 12 ∧ (k_Jx4a65c_size_8abf5 (fun r_2 S_2 => 
((r_2 ≤ x3 →
  Q x2 S_2) ∧
 (¬ r_2 ≤ x3 →
  cA S_2 x0 10 ∧ ((∃ b3 : Nat, cr S_2 321 x0 = some b3 ∧ (cA S_2 b3 12 ∧ (k_Jx4a65c_get_915e3 (fun r_4 S_4 => 
  cA S_4 r_4 2 ∧ (cA S_4 r_4 2 ∧ ((∃ b5 : Nat, cr S_4 64 r_4 = some b5 ∧ (cA S_4 b5 8 ∧ (∀ x4_6 : Int32, x4_6 = (ci S_4 256 b5) → ((x4_6 < 0 →
    k_X10_newFiles_61 Q dp R4 x0 x1 x2 x3 S_4) ∧
   (¬ x4_6 < 0 →
    cA S_4 x1 16 ∧ (((((nI (cn S_4 x1))) ≤ x4_6 →
      k_X10_newFiles_61 Q dp R4 x0 x1 x2 x3 S_4) ∧
     (¬ ((nI (cn S_4 x1))) ≤ x4_6 →
      cX S_4 x1 16 x4_6 ∧ (((¬ ((cI S_4 x1 (x4_6).toNatClampNeg)) = 0 →
        k_X10_newFiles_61 Q dp R4 x0 x1 x2 x3 S_4) ∧
       (((cI S_4 x1 (x4_6).toNatClampNeg)) = 0 →
        cX S_4 x1 16 x4_6 ∧ (∀ S8 : cS, S8 = cSI S_4 x1 (x4_6).toNatClampNeg ((bI true)) → ∀ x2_9 : Int32, x2_9 = x2 + nI 1 → k_X10_newFiles_61 Q dp R4 x0 x1 x2_9 x3 S8))))))))))))))) dp b3 x3 S_2))))))) dp b1 S))))
def k_X10_newFiles_4L (Q : Int32 → cS → Prop) (dp : Nat)  (x0 : Nat) (x1 : Nat) (x2 : Int32) (x3 : Int32) (S : cS) : Prop :=
  lfp (X := Nat × Nat × Int32 × Int32 × cS) (fun P y => k_X10_newFiles_4 Q dp  (fun b0 b1 b2 b3 S => P (b0, b1, b2, b3, S)) y.1 y.2.1 y.2.2.1 y.2.2.2.1 y.2.2.2.2) (x0, x1, x2, x3, S)
def k_X10_newFiles (Q : Int32 → cS → Prop) (dp : Nat) (x0 : Nat) (x1 : Nat) (S : cS) : Prop :=
k_X10_newFiles_4L Q dp  x0 x1 (((nI 0))) (((nI 0))) S
section S_X10_newFiles
variable {p : Program} {l : Launch} {e : Env} {s : State} {m : MethodId} {args : Array Value} {below : List Frame} {meth : Method} {c : Code} {A : Nat → Prop} {D : va_G} {Y : cY} {tp dp : Nat}
set_option maxRecDepth 20000 in
theorem tb_X10_newFiles_61 (C : cC p s m args meth c cX10_newFiles 5 (some .int) A D Y tp dp RX10) {post : Int32 → cS → Prop} {R4 : Nat → Nat → Int32 → Int32 → cS → Prop} (hR4 : ∀ (x0 : Nat) (x1 : Nat) (x2 : Int32) (x3 : Int32) (S : cS), R4 x0 x1 x2 x3 S → cG p l e (cRm 3 0 0 64) s m args below meth c A D Y 5 (MQ below (cQi post D Y A) args s 0 0 A) 0 0 4 [(0, .ref x0), (1, .ref x1), (2, .int x2), (3, .int x3)] [] S) (x0 : Nat) (x1 : Nat) (x2 : Int32) (x3 : Int32) (S : cS) (h : k_X10_newFiles_61 post dp R4 x0 x1 x2 x3 S) : cG p l e (cRm 3 0 0 64) s m args below meth c A D Y 5 (MQ below (cQi post D Y A) args s 0 0 A) 0 0 61 [(0, .ref x0), (1, .ref x1), (2, .int x2), (3, .int x3)] [] S := by
  unfold k_X10_newFiles_61 at h
  obtain ⟨x3_7, e_x3_7⟩ : ∃ z : Int32, z = x3 + nI 1 := ⟨_, rfl⟩
  have h := h x3_7 e_x3_7
  refine cg_iinc C (lv' := [(3, .int x3_7), (0, .ref x0), (1, .ref x1), (2, .int x2)]) 3 rfl (by rw [e_x3_7]; rfl) (Nat.le_of_ble_eq_true rfl) rfl dX10_newFiles_61 ?_
  refine cg_goto C 4 (by decide) dX10_newFiles_64 ?_
  exact cg_sub [1, 2, 3, 0] rfl (hR4 x0 x1 x2 x3_7 S h)
set_option maxRecDepth 20000 in
theorem tb_X10_newFiles_4 (C : cC p s m args meth c cX10_newFiles 5 (some .int) A D Y tp dp RX10) {post : Int32 → cS → Prop} {R4 : Nat → Nat → Int32 → Int32 → cS → Prop} (hR4 : ∀ (x0 : Nat) (x1 : Nat) (x2 : Int32) (x3 : Int32) (S : cS), R4 x0 x1 x2 x3 S → cG p l e (cRm 3 0 0 64) s m args below meth c A D Y 5 (MQ below (cQi post D Y A) args s 0 0 A) 0 0 4 [(0, .ref x0), (1, .ref x1), (2, .int x2), (3, .int x3)] [] S) (x0 : Nat) (x1 : Nat) (x2 : Int32) (x3 : Int32) (S : cS) (h : k_X10_newFiles_4 post dp R4 x0 x1 x2 x3 S) : cG p l e (cRm 3 0 0 64) s m args below meth c A D Y 5 (MQ below (cQi post D Y A) args s 0 0 A) 0 0 4 [(0, .ref x0), (1, .ref x1), (2, .int x2), (3, .int x3)] [] S := by
  unfold k_X10_newFiles_4 at h
  refine cg_iload_n C (i := 3) rfl 3 rfl dX10_newFiles_4 ?_
  refine cg_aload_n C (i := 0) rfl 0 rfl dX10_newFiles_5 ?_
  obtain ⟨hc_6, h⟩ := h
  obtain ⟨b1, hb_b1, h⟩ := h
  refine cg_get C (k := 10) (j := 1) (.ref b1) hc_6.1 hc_6.2 (by decide) rfl (by decide) rfl (show cV _ 10 1 x0 = _ from congrArg va_rf hb_b1) cWs_wsX100 cl_X10_12 rfl dX10_newFiles_6 ?_
  obtain ⟨hc_9, h⟩ := h
  refine cg_calli C (t_Jx4a65c_size_8abf5 l b1 S dp h) cc_X10_22 hc_9.1 hc_9.2 (by decide) rfl rfl ⟨by decide, by decide⟩ ⟨by decide, by decide⟩ rfl (Nat.le_of_ble_eq_true rfl) dX10_newFiles_9 (fun r_2 S_2 h => ?_)
  refine cg_icmp_ge C 67 (by decide) dX10_newFiles_12 (fun c_ => ?_) (fun c_ => ?_)
  · have h := h.1 c_
    refine cg_iload_n C (i := 2) rfl 2 rfl dX10_newFiles_67 ?_
    exact cg_iret C h dX10_newFiles_68 (by decide) (by decide)
  · have h := h.2 c_
    refine cg_aload_n C (i := 0) rfl 0 rfl dX10_newFiles_15 ?_
    obtain ⟨hc_16, h⟩ := h
    obtain ⟨b3, hb_b3, h⟩ := h
    refine cg_get C (k := 10) (j := 1) (.ref b3) hc_16.1 hc_16.2 (by decide) rfl (by decide) rfl (show cV _ 10 1 x0 = _ from congrArg va_rf hb_b3) cWs_wsX100 cl_X10_12 rfl dX10_newFiles_16 ?_
    refine cg_iload_n C (i := 3) rfl 3 rfl dX10_newFiles_19 ?_
    obtain ⟨hc_20, h⟩ := h
    refine cg_callr C (t_Jx4a65c_get_915e3 l b3 x3 S_2 dp h) cc_X10_26 hc_20.1 hc_20.2 (by decide) rfl rfl ⟨by decide, by decide⟩ ⟨by decide, by decide⟩ rfl (Nat.le_of_ble_eq_true rfl) dX10_newFiles_20 (fun r_4 S_4 h => ?_)
    obtain ⟨hc_23, h⟩ := h
    refine cg_ccast C (k := 2) hc_23.1 hc_23.2 (by decide) rfl cnc_X10_30 dX10_newFiles_23 ?_
    obtain ⟨hc_26, h⟩ := h
    obtain ⟨b5, hb_b5, h⟩ := h
    refine cg_get C (k := 2) (j := 0) (.ref b5) hc_26.1 hc_26.2 (by decide) rfl (by decide) rfl (show cV _ 2 0 r_4 = _ from congrArg va_rf hb_b5) cWs_wsX20 cl_X10_36 rfl dX10_newFiles_26 ?_
    obtain ⟨hc_29, h⟩ := h
    refine cg_get C (k := 8) (j := 0) (.int (ci S_4 256 b5)) hc_29.1 hc_29.2 (by decide) rfl (by decide) rfl rfl cWs_wsX80 cl_X10_107 rfl dX10_newFiles_29 ?_
    refine cg_nmI (fun x4_6 e_x4_6 => ?_)
    have h := h x4_6 e_x4_6
    refine cg_istore C (lv' := [(4, .int x4_6), (0, .ref x0), (1, .ref x1), (2, .int x2), (3, .int x3)]) (Nat.le_of_ble_eq_true rfl) rfl dX10_newFiles_32 ?_
    refine cg_iload C 0 rfl dX10_newFiles_34 ?_
    refine cg_if_lt C 61 (by decide) dX10_newFiles_36 (fun c_ => ?_) (fun c_ => ?_)
    · have h := h.1 c_
      exact cg_sub [1, 2, 3, 4] rfl (tb_X10_newFiles_61 C  hR4 x0 x1 x2 x3 S_4 h)
    · have h := h.2 c_
      refine cg_iload C 0 rfl dX10_newFiles_39 ?_
      refine cg_aload_n C (i := 1) rfl 2 rfl dX10_newFiles_41 ?_
      obtain ⟨hc_42, h⟩ := h
      refine cg_alen C hc_42.1 hc_42.2 (by decide) (by decide) dX10_newFiles_42 ?_
      refine cg_icmp_ge C 61 (by decide) dX10_newFiles_43 (fun c_ => ?_) (fun c_ => ?_)
      · have h := h.1 c_
        exact cg_sub [1, 2, 3, 4] rfl (tb_X10_newFiles_61 C  hR4 x0 x1 x2 x3 S_4 h)
      · have h := h.2 c_
        refine cg_aload_n C (i := 1) rfl 2 rfl dX10_newFiles_46 ?_
        refine cg_iload C 0 rfl dX10_newFiles_47 ?_
        obtain ⟨hc_49, h⟩ := h
        refine cg_zaloadR C hc_49 dX10_newFiles_49 ?_
        refine cg_if_ne C 61 (by decide) dX10_newFiles_50 (fun c_ => ?_) (fun c_ => ?_)
        · have h := h.1 c_
          exact cg_sub [1, 2, 3, 4] rfl (tb_X10_newFiles_61 C  hR4 x0 x1 x2 x3 S_4 h)
        · have h := h.2 c_
          refine cg_aload_n C (i := 1) rfl 2 rfl dX10_newFiles_53 ?_
          refine cg_iload C 0 rfl dX10_newFiles_54 ?_
          refine cg_iconst C (x := nI 1) rfl dX10_newFiles_56 ?_
          obtain ⟨hc_57, h⟩ := h
          refine cg_cast (.int (bI true)) rfl ?_
          refine cg_zastoreR C hc_57 (bI_vp _) dX10_newFiles_57 ?_
          refine cg_nm (fun S8 e_S8 => ?_)
          have h := h S8 e_S8
          obtain ⟨x2_9, e_x2_9⟩ : ∃ z : Int32, z = x2 + nI 1 := ⟨_, rfl⟩
          have h := h x2_9 e_x2_9
          refine cg_iinc C (lv' := [(2, .int x2_9), (4, .int x4_6), (0, .ref x0), (1, .ref x1), (3, .int x3)]) 3 rfl (by rw [e_x2_9]; rfl) (Nat.le_of_ble_eq_true rfl) rfl dX10_newFiles_58 ?_
          exact cg_sub [2, 3, 0, 4] rfl (tb_X10_newFiles_61 C  hR4 x0 x1 x2_9 x3 S8 h)
set_option maxRecDepth 20000 in
theorem tl_X10_newFiles_4 (C : cC p s m args meth c cX10_newFiles 5 (some .int) A D Y tp dp RX10) {post : Int32 → cS → Prop}   (x0 : Nat) (x1 : Nat) (x2 : Int32) (x3 : Int32) (S : cS) (h : k_X10_newFiles_4L post dp  x0 x1 x2 x3 S) : cG p l e (cRm 3 0 0 64) s m args below meth c A D Y 5 (MQ below (cQi post D Y A) args s 0 0 A) 0 0 4 [(0, .ref x0), (1, .ref x1), (2, .int x2), (3, .int x3)] [] S :=
  h (fun y => cG p l e (cRm 3 0 0 64) s m args below meth c A D Y 5 (MQ below (cQi post D Y A) args s 0 0 A) 0 0 4 [(0, .ref (y.1)), (1, .ref (y.2.1)), (2, .int (y.2.2.1)), (3, .int (y.2.2.2.1))] [] (y.2.2.2.2)) (fun y hy => tb_X10_newFiles_4 C   (fun b0 b1 b2 b3 S z => z) (y.1) (y.2.1) (y.2.2.1) (y.2.2.2.1) (y.2.2.2.2) hy)
end S_X10_newFiles
set_option maxHeartbeats 1000000 in
set_option maxRecDepth 20000 in
theorem t_X10_newFiles (l : Launch) (x0 : Nat) (x1 : Nat) (S : cS) (dp : Nat) {P : Int32 → cS → Prop} (h : k_X10_newFiles P dp x0 x1 S) : cMet (cQi P) l yX10_newFiles cX10_newFiles 5 (some .int) 3 0 0 64 [.ref x0, .ref x1] S dp := by
  intro D Y tp sz
  refine cg_body (by decide +kernel) (Nat.le_of_ble_eq_true rfl) ?_
  intro p e s m args below meth c C
  generalize va_A (cWd Y S) sz = A at C ⊢
  have C : cC p s m args meth c cX10_newFiles 5 (some .int) A D Y tp dp RX10 := C
  refine cg_lv (lv' := [(0, .ref x0), (1, .ref x1)]) rfl ?_
  unfold k_X10_newFiles at h
  refine cg_iconst C (x := nI 0) rfl dX10_newFiles_0 ?_
  refine cg_istore_n C (i := 2) (lv' := [(2, .int ((nI 0))), (0, .ref x0), (1, .ref x1)]) rfl (Nat.le_of_ble_eq_true rfl) rfl dX10_newFiles_1 ?_
  refine cg_iconst C (x := nI 0) rfl dX10_newFiles_2 ?_
  refine cg_istore_n C (i := 3) (lv' := [(3, .int ((nI 0))), (2, .int ((nI 0))), (0, .ref x0), (1, .ref x1)]) rfl (Nat.le_of_ble_eq_true rfl) rfl dX10_newFiles_3 ?_
  exact cg_sub [2, 3, 1, 0] rfl (tl_X10_newFiles_4 C   x0 x1 (((nI 0))) (((nI 0))) S h)
def k_X10_deletionFiles_73 (Q : Int32 → cS → Prop) (dp : Nat) (R4 : Nat → Option Nat → Int32 → Int32 → cS → Prop) (x0 : Nat) (x1 : Option Nat) (x2 : Int32) (x3 : Int32) (S : cS) : Prop :=
((x1 = none →
  ∀ x3_11 : Int32, x3_11 = x3 + nI 1 → R4 x0 none x2 x3_11 S) ∧
 (∀ b10 : Nat, x1 = some b10 →
  ∀ x3_12 : Int32, x3_12 = x3 + nI 1 → R4 x0 (some b10) x2 x3_12 S))
def k_X10_deletionFiles_70 (Q : Int32 → cS → Prop) (dp : Nat) (R4 : Nat → Option Nat → Int32 → Int32 → cS → Prop) (x0 : Nat) (x1 : Option Nat) (x2 : Int32) (x3 : Int32) (S : cS) : Prop :=
((x1 = none →
  ∀ x2_14 : Int32, x2_14 = x2 + nI 1 → k_X10_deletionFiles_73 Q dp R4 x0 none x2_14 x3 S) ∧
 (∀ b13 : Nat, x1 = some b13 →
  ∀ x2_15 : Int32, x2_15 = x2 + nI 1 → k_X10_deletionFiles_73 Q dp R4 x0 (some b13) x2_15 x3 S))
def k_X10_deletionFiles_45 (Q : Int32 → cS → Prop) (dp : Nat) (R4 : Nat → Option Nat → Int32 → Int32 → cS → Prop) (x0 : Nat) (x1 : Option Nat) (x2 : Int32) (x3 : Int32) (x4 : Nat) (t0 : Option Nat) (S : cS) : Prop :=
((x1 = none →
  ((t0 = none →
    cA S x4 2 ∧ (k_X2_hasDead (fun r_9 S_9 => 
    ((r_9 = 0 →
      k_X10_deletionFiles_73 Q dp R4 x0 none x2 x3 S_9) ∧
     (¬ r_9 = 0 →
      k_X10_deletionFiles_70 Q dp R4 x0 none x2 x3 S_9))) dp x4 S)) ∧
   (∀ b8 : Nat, t0 = some b8 →
    cA S x4 2 ∧ (k_X2_hasDead (fun r_16 S_16 => 
    ((r_16 = 0 →
      k_X10_deletionFiles_73 Q dp R4 x0 none x2 x3 S_16) ∧
     (¬ r_16 = 0 →
      cA S_16 x4 2 ∧ (k_X2_isAlike (fun r_17 S_17 => 
      ((¬ r_17 = 0 →
        k_X10_deletionFiles_73 Q dp R4 x0 none x2 x3 S_17) ∧
       (r_17 = 0 →
        k_X10_deletionFiles_70 Q dp R4 x0 none x2 x3 S_17))) dp x4 b8 S_16)))) dp x4 S)))) ∧
 (∀ b7 : Nat, x1 = some b7 →
  ((t0 = none →
    cA S x4 2 ∧ (k_X2_hasDead (fun r_19 S_19 => 
    ((r_19 = 0 →
      k_X10_deletionFiles_73 Q dp R4 x0 (some b7) x2 x3 S_19) ∧
     (¬ r_19 = 0 →
      k_X10_deletionFiles_70 Q dp R4 x0 (some b7) x2 x3 S_19))) dp x4 S)) ∧
   (∀ b18 : Nat, t0 = some b18 →
    cA S x4 2 ∧ (k_X2_hasDead (fun r_20 S_20 => 
    ((r_20 = 0 →
      k_X10_deletionFiles_73 Q dp R4 x0 (some b7) x2 x3 S_20) ∧
     (¬ r_20 = 0 →
      cA S_20 x4 2 ∧ (k_X2_isAlike (fun r_21 S_21 => 
      ((¬ r_21 = 0 →
        k_X10_deletionFiles_73 Q dp R4 x0 (some b7) x2 x3 S_21) ∧
       (r_21 = 0 →
        k_X10_deletionFiles_70 Q dp R4 x0 (some b7) x2 x3 S_21))) dp x4 b18 S_20)))) dp x4 S)))))
def k_X10_deletionFiles_4 (Q : Int32 → cS → Prop) (dp : Nat) (R4 : Nat → Option Nat → Int32 → Int32 → cS → Prop) (x0 : Nat) (x1 : Option Nat) (x2 : Int32) (x3 : Int32) (S : cS) : Prop :=
((x1 = none →
  cA S x0 10 ∧ ((∃ b3 : Nat, cr S 321 x0 = some b3 ∧ (cA S b3 12 ∧ (k_Jx4a65c_size_8abf5 (fun r_4 S_4 => 
  ((r_4 ≤ x3 →
    Q x2 S_4) ∧
   (¬ r_4 ≤ x3 →
    cA S_4 x0 10 ∧ ((∃ b5 : Nat, cr S_4 321 x0 = some b5 ∧ (cA S_4 b5 12 ∧ (k_Jx4a65c_get_915e3 (fun r_6 S_6 => 
    cA S_6 r_6 2 ∧ (k_X10_deletionFiles_45 Q dp R4 x0 none x2 x3 r_6 none S_6)) dp b5 x3 S_4))))))) dp b3 S))))) ∧
 (∀ b2 : Nat, x1 = some b2 →
  cA S x0 10 ∧ ((∃ b22 : Nat, cr S 321 x0 = some b22 ∧ (cA S b22 12 ∧ (k_Jx4a65c_size_8abf5 (fun r_23 S_23 => 
  ((r_23 ≤ x3 →
    Q x2 S_23) ∧
   (¬ r_23 ≤ x3 →
    cA S_23 x0 10 ∧ ((∃ b24 : Nat, cr S_23 321 x0 = some b24 ∧ (cA S_23 b24 12 ∧ (k_Jx4a65c_get_915e3 (fun r_25 S_25 => 
    cA S_25 r_25 2 ∧ (cA S_25 r_25 2 ∧ ((∃ b26 : Nat, cr S_25 64 r_25 = some b26 ∧ (cA S_25 b2 10 ∧ (k_X10_holdingOf (fun r_27 S_27 => 
    ((r_27 = none →
      k_X10_deletionFiles_45 Q dp R4 x0 (some b2) x2 x3 r_25 none S_27) ∧
     (∀ b28 : Nat, r_27 = some b28 →
      k_X10_deletionFiles_45 Q dp R4 x0 (some b2) x2 x3 r_25 (some b28) S_27))) dp b2 b26 S_25)))))) dp b24 x3 S_23))))))) dp b22 S))))))
def k_X10_deletionFiles_4L (Q : Int32 → cS → Prop) (dp : Nat)  (x0 : Nat) (x1 : Option Nat) (x2 : Int32) (x3 : Int32) (S : cS) : Prop :=
  lfp (X := Nat × Option Nat × Int32 × Int32 × cS) (fun P y => k_X10_deletionFiles_4 Q dp  (fun b0 b1 b2 b3 S => P (b0, b1, b2, b3, S)) y.1 y.2.1 y.2.2.1 y.2.2.2.1 y.2.2.2.2) (x0, x1, x2, x3, S)
def k_X10_deletionFiles (Q : Int32 → cS → Prop) (dp : Nat) (x0 : Nat) (x1 : Option Nat) (S : cS) : Prop :=
((x1 = none →
  k_X10_deletionFiles_4L Q dp  x0 none (((nI 0))) (((nI 0))) S) ∧
 (∀ b1 : Nat, x1 = some b1 →
  k_X10_deletionFiles_4L Q dp  x0 (some b1) (((nI 0))) (((nI 0))) S))
section S_X10_deletionFiles
variable {p : Program} {l : Launch} {e : Env} {s : State} {m : MethodId} {args : Array Value} {below : List Frame} {meth : Method} {c : Code} {A : Nat → Prop} {D : va_G} {Y : cY} {tp dp : Nat}
set_option maxRecDepth 20000 in
theorem tb_X10_deletionFiles_73 (C : cC p s m args meth c cX10_deletionFiles 6 (some .int) A D Y tp dp RX10) {post : Int32 → cS → Prop} {R4 : Nat → Option Nat → Int32 → Int32 → cS → Prop} (hR4 : ∀ (x0 : Nat) (x1 : Option Nat) (x2 : Int32) (x3 : Int32) (S : cS), R4 x0 x1 x2 x3 S → cG p l e (cRm 5 0 0 107) s m args below meth c A D Y 6 (MQ below (cQi post D Y A) args s 0 0 A) 0 0 4 [(0, .ref x0), (1, va_rf x1), (2, .int x2), (3, .int x3)] [] S) (x0 : Nat) (x1 : Option Nat) (x2 : Int32) (x3 : Int32) (S : cS) (h : k_X10_deletionFiles_73 post dp R4 x0 x1 x2 x3 S) : cG p l e (cRm 5 0 0 107) s m args below meth c A D Y 6 (MQ below (cQi post D Y A) args s 0 0 A) 0 0 73 [(0, .ref x0), (1, va_rf x1), (2, .int x2), (3, .int x3)] [] S := by
  unfold k_X10_deletionFiles_73 at h
  obtain ho | ⟨b10, ho⟩ := c_opt x1
  · replace h := h.1 ho
    subst ho
    refine cg_lv (lv' := [(0, .ref x0), (1, .null), (2, .int x2), (3, .int x3)]) rfl ?_
    refine cg_st (st' := []) rfl ?_
    obtain ⟨x3_11, e_x3_11⟩ : ∃ z : Int32, z = x3 + nI 1 := ⟨_, rfl⟩
    have h := h x3_11 e_x3_11
    refine cg_iinc C (lv' := [(3, .int x3_11), (0, .ref x0), (1, .null), (2, .int x2)]) 3 rfl (by rw [e_x3_11]; rfl) (Nat.le_of_ble_eq_true rfl) rfl dX10_deletionFiles_73 ?_
    refine cg_goto C 4 (by decide) dX10_deletionFiles_76 ?_
    exact cg_sub [1, 2, 3, 0] rfl (hR4 x0 none x2 x3_11 S h)
  · replace h := h.2 b10 ho
    subst ho
    refine cg_lv (lv' := [(0, .ref x0), (1, .ref b10), (2, .int x2), (3, .int x3)]) rfl ?_
    refine cg_st (st' := []) rfl ?_
    obtain ⟨x3_12, e_x3_12⟩ : ∃ z : Int32, z = x3 + nI 1 := ⟨_, rfl⟩
    have h := h x3_12 e_x3_12
    refine cg_iinc C (lv' := [(3, .int x3_12), (0, .ref x0), (1, .ref b10), (2, .int x2)]) 3 rfl (by rw [e_x3_12]; rfl) (Nat.le_of_ble_eq_true rfl) rfl dX10_deletionFiles_73 ?_
    refine cg_goto C 4 (by decide) dX10_deletionFiles_76 ?_
    exact cg_sub [1, 2, 3, 0] rfl (hR4 x0 (some b10) x2 x3_12 S h)
set_option maxRecDepth 20000 in
theorem tb_X10_deletionFiles_70 (C : cC p s m args meth c cX10_deletionFiles 6 (some .int) A D Y tp dp RX10) {post : Int32 → cS → Prop} {R4 : Nat → Option Nat → Int32 → Int32 → cS → Prop} (hR4 : ∀ (x0 : Nat) (x1 : Option Nat) (x2 : Int32) (x3 : Int32) (S : cS), R4 x0 x1 x2 x3 S → cG p l e (cRm 5 0 0 107) s m args below meth c A D Y 6 (MQ below (cQi post D Y A) args s 0 0 A) 0 0 4 [(0, .ref x0), (1, va_rf x1), (2, .int x2), (3, .int x3)] [] S) (x0 : Nat) (x1 : Option Nat) (x2 : Int32) (x3 : Int32) (S : cS) (h : k_X10_deletionFiles_70 post dp R4 x0 x1 x2 x3 S) : cG p l e (cRm 5 0 0 107) s m args below meth c A D Y 6 (MQ below (cQi post D Y A) args s 0 0 A) 0 0 70 [(0, .ref x0), (1, va_rf x1), (2, .int x2), (3, .int x3)] [] S := by
  unfold k_X10_deletionFiles_70 at h
  obtain ho | ⟨b13, ho⟩ := c_opt x1
  · replace h := h.1 ho
    subst ho
    refine cg_lv (lv' := [(0, .ref x0), (1, .null), (2, .int x2), (3, .int x3)]) rfl ?_
    refine cg_st (st' := []) rfl ?_
    obtain ⟨x2_14, e_x2_14⟩ : ∃ z : Int32, z = x2 + nI 1 := ⟨_, rfl⟩
    have h := h x2_14 e_x2_14
    refine cg_iinc C (lv' := [(2, .int x2_14), (0, .ref x0), (1, .null), (3, .int x3)]) 2 rfl (by rw [e_x2_14]; rfl) (Nat.le_of_ble_eq_true rfl) rfl dX10_deletionFiles_70 ?_
    exact cg_sub [1, 2, 0, 3] rfl (tb_X10_deletionFiles_73 C  hR4 x0 none x2_14 x3 S h)
  · replace h := h.2 b13 ho
    subst ho
    refine cg_lv (lv' := [(0, .ref x0), (1, .ref b13), (2, .int x2), (3, .int x3)]) rfl ?_
    refine cg_st (st' := []) rfl ?_
    obtain ⟨x2_15, e_x2_15⟩ : ∃ z : Int32, z = x2 + nI 1 := ⟨_, rfl⟩
    have h := h x2_15 e_x2_15
    refine cg_iinc C (lv' := [(2, .int x2_15), (0, .ref x0), (1, .ref b13), (3, .int x3)]) 2 rfl (by rw [e_x2_15]; rfl) (Nat.le_of_ble_eq_true rfl) rfl dX10_deletionFiles_70 ?_
    exact cg_sub [1, 2, 0, 3] rfl (tb_X10_deletionFiles_73 C  hR4 x0 (some b13) x2_15 x3 S h)
set_option maxRecDepth 20000 in
theorem tb_X10_deletionFiles_45 (C : cC p s m args meth c cX10_deletionFiles 6 (some .int) A D Y tp dp RX10) {post : Int32 → cS → Prop} {R4 : Nat → Option Nat → Int32 → Int32 → cS → Prop} (hR4 : ∀ (x0 : Nat) (x1 : Option Nat) (x2 : Int32) (x3 : Int32) (S : cS), R4 x0 x1 x2 x3 S → cG p l e (cRm 5 0 0 107) s m args below meth c A D Y 6 (MQ below (cQi post D Y A) args s 0 0 A) 0 0 4 [(0, .ref x0), (1, va_rf x1), (2, .int x2), (3, .int x3)] [] S) (x0 : Nat) (x1 : Option Nat) (x2 : Int32) (x3 : Int32) (x4 : Nat) (t0 : Option Nat) (S : cS) (h : k_X10_deletionFiles_45 post dp R4 x0 x1 x2 x3 x4 t0 S) : cG p l e (cRm 5 0 0 107) s m args below meth c A D Y 6 (MQ below (cQi post D Y A) args s 0 0 A) 0 0 45 [(0, .ref x0), (1, va_rf x1), (2, .int x2), (3, .int x3), (4, .ref x4)] [va_rf t0] S := by
  unfold k_X10_deletionFiles_45 at h
  obtain ho | ⟨b7, ho⟩ := c_opt x1
  · replace h := h.1 ho
    subst ho
    refine cg_lv (lv' := [(0, .ref x0), (1, .null), (2, .int x2), (3, .int x3), (4, .ref x4)]) rfl ?_
    refine cg_st (st' := [va_rf t0]) rfl ?_
    obtain ho | ⟨b8, ho⟩ := c_opt t0
    · replace h := h.1 ho
      subst ho
      refine cg_lv (lv' := [(0, .ref x0), (1, .null), (2, .int x2), (3, .int x3), (4, .ref x4)]) rfl ?_
      refine cg_st (st' := [.null]) rfl ?_
      refine cg_astoreN (lv' := [(5, .null), (0, .ref x0), (1, .null), (2, .int x2), (3, .int x3), (4, .ref x4)]) C (Nat.le_of_ble_eq_true rfl) rfl dX10_deletionFiles_45 ?_
      refine cg_aload C 5 rfl dX10_deletionFiles_47 ?_
      obtain ⟨hc_49, h⟩ := h
      refine cg_calli C (t_X2_hasDead l x4 S dp h) cc_X10_99 hc_49.1 hc_49.2 (by decide) rfl rfl ⟨by decide, by decide⟩ ⟨by decide, by decide⟩ rfl (Nat.le_of_ble_eq_true rfl) dX10_deletionFiles_49 (fun r_9 S_9 h => ?_)
      refine cg_if_eq C 73 (by decide) dX10_deletionFiles_52 (fun c_ => ?_) (fun c_ => ?_)
      · have h := h.1 c_
        exact cg_sub [1, 2, 3, 4] rfl (tb_X10_deletionFiles_73 C  hR4 x0 none x2 x3 S_9 h)
      · have h := h.2 c_
        refine cg_aloadN C 0 rfl dX10_deletionFiles_55 ?_
        refine cg_ifnullN C 70 (by decide) dX10_deletionFiles_57 ?_
        exact cg_sub [1, 2, 3, 4] rfl (tb_X10_deletionFiles_70 C  hR4 x0 none x2 x3 S_9 h)
    · replace h := h.2 b8 ho
      subst ho
      refine cg_lv (lv' := [(0, .ref x0), (1, .null), (2, .int x2), (3, .int x3), (4, .ref x4)]) rfl ?_
      refine cg_st (st' := [.ref b8]) rfl ?_
      refine cg_astore (lv' := [(5, .ref b8), (0, .ref x0), (1, .null), (2, .int x2), (3, .int x3), (4, .ref x4)]) C (Nat.le_of_ble_eq_true rfl) rfl dX10_deletionFiles_45 ?_
      refine cg_aload C 5 rfl dX10_deletionFiles_47 ?_
      obtain ⟨hc_49, h⟩ := h
      refine cg_calli C (t_X2_hasDead l x4 S dp h) cc_X10_99 hc_49.1 hc_49.2 (by decide) rfl rfl ⟨by decide, by decide⟩ ⟨by decide, by decide⟩ rfl (Nat.le_of_ble_eq_true rfl) dX10_deletionFiles_49 (fun r_16 S_16 h => ?_)
      refine cg_if_eq C 73 (by decide) dX10_deletionFiles_52 (fun c_ => ?_) (fun c_ => ?_)
      · have h := h.1 c_
        exact cg_sub [1, 2, 3, 4] rfl (tb_X10_deletionFiles_73 C  hR4 x0 none x2 x3 S_16 h)
      · have h := h.2 c_
        refine cg_aload C 0 rfl dX10_deletionFiles_55 ?_
        refine cg_ifnull C dX10_deletionFiles_57 ?_
        refine cg_aload C 5 rfl dX10_deletionFiles_60 ?_
        refine cg_aload C 0 rfl dX10_deletionFiles_62 ?_
        obtain ⟨hc_64, h⟩ := h
        refine cg_calli C (t_X2_isAlike l x4 b8 S_16 dp h) cc_X10_103 hc_64.1 hc_64.2 (by decide) rfl rfl ⟨by decide, by decide⟩ ⟨by decide, by decide⟩ rfl (Nat.le_of_ble_eq_true rfl) dX10_deletionFiles_64 (fun r_17 S_17 h => ?_)
        refine cg_if_ne C 73 (by decide) dX10_deletionFiles_67 (fun c_ => ?_) (fun c_ => ?_)
        · have h := h.1 c_
          exact cg_sub [1, 2, 3, 4] rfl (tb_X10_deletionFiles_73 C  hR4 x0 none x2 x3 S_17 h)
        · have h := h.2 c_
          exact cg_sub [1, 2, 3, 4] rfl (tb_X10_deletionFiles_70 C  hR4 x0 none x2 x3 S_17 h)
  · replace h := h.2 b7 ho
    subst ho
    refine cg_lv (lv' := [(0, .ref x0), (1, .ref b7), (2, .int x2), (3, .int x3), (4, .ref x4)]) rfl ?_
    refine cg_st (st' := [va_rf t0]) rfl ?_
    obtain ho | ⟨b18, ho⟩ := c_opt t0
    · replace h := h.1 ho
      subst ho
      refine cg_lv (lv' := [(0, .ref x0), (1, .ref b7), (2, .int x2), (3, .int x3), (4, .ref x4)]) rfl ?_
      refine cg_st (st' := [.null]) rfl ?_
      refine cg_astoreN (lv' := [(5, .null), (0, .ref x0), (1, .ref b7), (2, .int x2), (3, .int x3), (4, .ref x4)]) C (Nat.le_of_ble_eq_true rfl) rfl dX10_deletionFiles_45 ?_
      refine cg_aload C 5 rfl dX10_deletionFiles_47 ?_
      obtain ⟨hc_49, h⟩ := h
      refine cg_calli C (t_X2_hasDead l x4 S dp h) cc_X10_99 hc_49.1 hc_49.2 (by decide) rfl rfl ⟨by decide, by decide⟩ ⟨by decide, by decide⟩ rfl (Nat.le_of_ble_eq_true rfl) dX10_deletionFiles_49 (fun r_19 S_19 h => ?_)
      refine cg_if_eq C 73 (by decide) dX10_deletionFiles_52 (fun c_ => ?_) (fun c_ => ?_)
      · have h := h.1 c_
        exact cg_sub [1, 2, 3, 4] rfl (tb_X10_deletionFiles_73 C  hR4 x0 (some b7) x2 x3 S_19 h)
      · have h := h.2 c_
        refine cg_aloadN C 0 rfl dX10_deletionFiles_55 ?_
        refine cg_ifnullN C 70 (by decide) dX10_deletionFiles_57 ?_
        exact cg_sub [1, 2, 3, 4] rfl (tb_X10_deletionFiles_70 C  hR4 x0 (some b7) x2 x3 S_19 h)
    · replace h := h.2 b18 ho
      subst ho
      refine cg_lv (lv' := [(0, .ref x0), (1, .ref b7), (2, .int x2), (3, .int x3), (4, .ref x4)]) rfl ?_
      refine cg_st (st' := [.ref b18]) rfl ?_
      refine cg_astore (lv' := [(5, .ref b18), (0, .ref x0), (1, .ref b7), (2, .int x2), (3, .int x3), (4, .ref x4)]) C (Nat.le_of_ble_eq_true rfl) rfl dX10_deletionFiles_45 ?_
      refine cg_aload C 5 rfl dX10_deletionFiles_47 ?_
      obtain ⟨hc_49, h⟩ := h
      refine cg_calli C (t_X2_hasDead l x4 S dp h) cc_X10_99 hc_49.1 hc_49.2 (by decide) rfl rfl ⟨by decide, by decide⟩ ⟨by decide, by decide⟩ rfl (Nat.le_of_ble_eq_true rfl) dX10_deletionFiles_49 (fun r_20 S_20 h => ?_)
      refine cg_if_eq C 73 (by decide) dX10_deletionFiles_52 (fun c_ => ?_) (fun c_ => ?_)
      · have h := h.1 c_
        exact cg_sub [1, 2, 3, 4] rfl (tb_X10_deletionFiles_73 C  hR4 x0 (some b7) x2 x3 S_20 h)
      · have h := h.2 c_
        refine cg_aload C 0 rfl dX10_deletionFiles_55 ?_
        refine cg_ifnull C dX10_deletionFiles_57 ?_
        refine cg_aload C 5 rfl dX10_deletionFiles_60 ?_
        refine cg_aload C 0 rfl dX10_deletionFiles_62 ?_
        obtain ⟨hc_64, h⟩ := h
        refine cg_calli C (t_X2_isAlike l x4 b18 S_20 dp h) cc_X10_103 hc_64.1 hc_64.2 (by decide) rfl rfl ⟨by decide, by decide⟩ ⟨by decide, by decide⟩ rfl (Nat.le_of_ble_eq_true rfl) dX10_deletionFiles_64 (fun r_21 S_21 h => ?_)
        refine cg_if_ne C 73 (by decide) dX10_deletionFiles_67 (fun c_ => ?_) (fun c_ => ?_)
        · have h := h.1 c_
          exact cg_sub [1, 2, 3, 4] rfl (tb_X10_deletionFiles_73 C  hR4 x0 (some b7) x2 x3 S_21 h)
        · have h := h.2 c_
          exact cg_sub [1, 2, 3, 4] rfl (tb_X10_deletionFiles_70 C  hR4 x0 (some b7) x2 x3 S_21 h)
set_option maxRecDepth 20000 in
theorem tb_X10_deletionFiles_4 (C : cC p s m args meth c cX10_deletionFiles 6 (some .int) A D Y tp dp RX10) {post : Int32 → cS → Prop} {R4 : Nat → Option Nat → Int32 → Int32 → cS → Prop} (hR4 : ∀ (x0 : Nat) (x1 : Option Nat) (x2 : Int32) (x3 : Int32) (S : cS), R4 x0 x1 x2 x3 S → cG p l e (cRm 5 0 0 107) s m args below meth c A D Y 6 (MQ below (cQi post D Y A) args s 0 0 A) 0 0 4 [(0, .ref x0), (1, va_rf x1), (2, .int x2), (3, .int x3)] [] S) (x0 : Nat) (x1 : Option Nat) (x2 : Int32) (x3 : Int32) (S : cS) (h : k_X10_deletionFiles_4 post dp R4 x0 x1 x2 x3 S) : cG p l e (cRm 5 0 0 107) s m args below meth c A D Y 6 (MQ below (cQi post D Y A) args s 0 0 A) 0 0 4 [(0, .ref x0), (1, va_rf x1), (2, .int x2), (3, .int x3)] [] S := by
  unfold k_X10_deletionFiles_4 at h
  obtain ho | ⟨b2, ho⟩ := c_opt x1
  · replace h := h.1 ho
    subst ho
    refine cg_lv (lv' := [(0, .ref x0), (1, .null), (2, .int x2), (3, .int x3)]) rfl ?_
    refine cg_st (st' := []) rfl ?_
    refine cg_iload_n C (i := 3) rfl 3 rfl dX10_deletionFiles_4 ?_
    refine cg_aload_n C (i := 0) rfl 0 rfl dX10_deletionFiles_5 ?_
    obtain ⟨hc_6, h⟩ := h
    obtain ⟨b3, hb_b3, h⟩ := h
    refine cg_get C (k := 10) (j := 1) (.ref b3) hc_6.1 hc_6.2 (by decide) rfl (by decide) rfl (show cV _ 10 1 x0 = _ from congrArg va_rf hb_b3) cWs_wsX100 cl_X10_12 rfl dX10_deletionFiles_6 ?_
    obtain ⟨hc_9, h⟩ := h
    refine cg_calli C (t_Jx4a65c_size_8abf5 l b3 S dp h) cc_X10_22 hc_9.1 hc_9.2 (by decide) rfl rfl ⟨by decide, by decide⟩ ⟨by decide, by decide⟩ rfl (Nat.le_of_ble_eq_true rfl) dX10_deletionFiles_9 (fun r_4 S_4 h => ?_)
    refine cg_icmp_ge C 79 (by decide) dX10_deletionFiles_12 (fun c_ => ?_) (fun c_ => ?_)
    · have h := h.1 c_
      refine cg_iload_n C (i := 2) rfl 2 rfl dX10_deletionFiles_79 ?_
      exact cg_iret C h dX10_deletionFiles_80 (by decide) (by decide)
    · have h := h.2 c_
      refine cg_aload_n C (i := 0) rfl 0 rfl dX10_deletionFiles_15 ?_
      obtain ⟨hc_16, h⟩ := h
      obtain ⟨b5, hb_b5, h⟩ := h
      refine cg_get C (k := 10) (j := 1) (.ref b5) hc_16.1 hc_16.2 (by decide) rfl (by decide) rfl (show cV _ 10 1 x0 = _ from congrArg va_rf hb_b5) cWs_wsX100 cl_X10_12 rfl dX10_deletionFiles_16 ?_
      refine cg_iload_n C (i := 3) rfl 3 rfl dX10_deletionFiles_19 ?_
      obtain ⟨hc_20, h⟩ := h
      refine cg_callr C (t_Jx4a65c_get_915e3 l b5 x3 S_4 dp h) cc_X10_26 hc_20.1 hc_20.2 (by decide) rfl rfl ⟨by decide, by decide⟩ ⟨by decide, by decide⟩ rfl (Nat.le_of_ble_eq_true rfl) dX10_deletionFiles_20 (fun r_6 S_6 h => ?_)
      obtain ⟨hc_23, h⟩ := h
      refine cg_ccast C (k := 2) hc_23.1 hc_23.2 (by decide) rfl cnc_X10_30 dX10_deletionFiles_23 ?_
      refine cg_astore (lv' := [(4, .ref r_6), (0, .ref x0), (1, .null), (2, .int x2), (3, .int x3)]) C (Nat.le_of_ble_eq_true rfl) rfl dX10_deletionFiles_26 ?_
      refine cg_aloadN_n C (i := 1) rfl 2 rfl dX10_deletionFiles_28 ?_
      refine cg_ifnonnullN C dX10_deletionFiles_29 ?_
      refine cg_null C dX10_deletionFiles_32 ?_
      refine cg_goto C 45 (by decide) dX10_deletionFiles_33 ?_
      exact cg_sub [1, 2, 3, 4, 0] rfl (tb_X10_deletionFiles_45 C  hR4 x0 none x2 x3 r_6 none S_6 h)
  · replace h := h.2 b2 ho
    subst ho
    refine cg_lv (lv' := [(0, .ref x0), (1, .ref b2), (2, .int x2), (3, .int x3)]) rfl ?_
    refine cg_st (st' := []) rfl ?_
    refine cg_iload_n C (i := 3) rfl 3 rfl dX10_deletionFiles_4 ?_
    refine cg_aload_n C (i := 0) rfl 0 rfl dX10_deletionFiles_5 ?_
    obtain ⟨hc_6, h⟩ := h
    obtain ⟨b22, hb_b22, h⟩ := h
    refine cg_get C (k := 10) (j := 1) (.ref b22) hc_6.1 hc_6.2 (by decide) rfl (by decide) rfl (show cV _ 10 1 x0 = _ from congrArg va_rf hb_b22) cWs_wsX100 cl_X10_12 rfl dX10_deletionFiles_6 ?_
    obtain ⟨hc_9, h⟩ := h
    refine cg_calli C (t_Jx4a65c_size_8abf5 l b22 S dp h) cc_X10_22 hc_9.1 hc_9.2 (by decide) rfl rfl ⟨by decide, by decide⟩ ⟨by decide, by decide⟩ rfl (Nat.le_of_ble_eq_true rfl) dX10_deletionFiles_9 (fun r_23 S_23 h => ?_)
    refine cg_icmp_ge C 79 (by decide) dX10_deletionFiles_12 (fun c_ => ?_) (fun c_ => ?_)
    · have h := h.1 c_
      refine cg_iload_n C (i := 2) rfl 2 rfl dX10_deletionFiles_79 ?_
      exact cg_iret C h dX10_deletionFiles_80 (by decide) (by decide)
    · have h := h.2 c_
      refine cg_aload_n C (i := 0) rfl 0 rfl dX10_deletionFiles_15 ?_
      obtain ⟨hc_16, h⟩ := h
      obtain ⟨b24, hb_b24, h⟩ := h
      refine cg_get C (k := 10) (j := 1) (.ref b24) hc_16.1 hc_16.2 (by decide) rfl (by decide) rfl (show cV _ 10 1 x0 = _ from congrArg va_rf hb_b24) cWs_wsX100 cl_X10_12 rfl dX10_deletionFiles_16 ?_
      refine cg_iload_n C (i := 3) rfl 3 rfl dX10_deletionFiles_19 ?_
      obtain ⟨hc_20, h⟩ := h
      refine cg_callr C (t_Jx4a65c_get_915e3 l b24 x3 S_23 dp h) cc_X10_26 hc_20.1 hc_20.2 (by decide) rfl rfl ⟨by decide, by decide⟩ ⟨by decide, by decide⟩ rfl (Nat.le_of_ble_eq_true rfl) dX10_deletionFiles_20 (fun r_25 S_25 h => ?_)
      obtain ⟨hc_23, h⟩ := h
      refine cg_ccast C (k := 2) hc_23.1 hc_23.2 (by decide) rfl cnc_X10_30 dX10_deletionFiles_23 ?_
      refine cg_astore (lv' := [(4, .ref r_25), (0, .ref x0), (1, .ref b2), (2, .int x2), (3, .int x3)]) C (Nat.le_of_ble_eq_true rfl) rfl dX10_deletionFiles_26 ?_
      refine cg_aload_n C (i := 1) rfl 2 rfl dX10_deletionFiles_28 ?_
      refine cg_ifnonnull C 36 (by decide) dX10_deletionFiles_29 ?_
      refine cg_aload_n C (i := 1) rfl 2 rfl dX10_deletionFiles_36 ?_
      refine cg_aload C 0 rfl dX10_deletionFiles_37 ?_
      obtain ⟨hc_39, h⟩ := h
      obtain ⟨b26, hb_b26, h⟩ := h
      refine cg_get C (k := 2) (j := 0) (.ref b26) hc_39.1 hc_39.2 (by decide) rfl (by decide) rfl (show cV _ 2 0 r_25 = _ from congrArg va_rf hb_b26) cWs_wsX20 cl_X10_36 rfl dX10_deletionFiles_39 ?_
      obtain ⟨hc_42, h⟩ := h
      refine cg_callq C (t_X10_holdingOf l b2 b26 S_25 dp h) cc_X10_95 hc_42.1 hc_42.2 (by decide) rfl rfl ⟨by decide, by decide⟩ ⟨by decide, by decide⟩ rfl (Nat.le_of_ble_eq_true rfl) dX10_deletionFiles_42 (fun r_27 S_27 h => ?_)
      obtain ho | ⟨b28, ho⟩ := c_opt r_27
      · replace h := h.1 ho
        subst ho
        refine cg_cast (.null) rfl ?_
        exact cg_sub [1, 2, 3, 4, 0] rfl (tb_X10_deletionFiles_45 C  hR4 x0 (some b2) x2 x3 r_25 none S_27 h)
      · replace h := h.2 b28 ho
        subst ho
        refine cg_cast (.ref b28) rfl ?_
        exact cg_sub [1, 2, 3, 4, 0] rfl (tb_X10_deletionFiles_45 C  hR4 x0 (some b2) x2 x3 r_25 (some b28) S_27 h)
set_option maxRecDepth 20000 in
theorem tl_X10_deletionFiles_4 (C : cC p s m args meth c cX10_deletionFiles 6 (some .int) A D Y tp dp RX10) {post : Int32 → cS → Prop}   (x0 : Nat) (x1 : Option Nat) (x2 : Int32) (x3 : Int32) (S : cS) (h : k_X10_deletionFiles_4L post dp  x0 x1 x2 x3 S) : cG p l e (cRm 5 0 0 107) s m args below meth c A D Y 6 (MQ below (cQi post D Y A) args s 0 0 A) 0 0 4 [(0, .ref x0), (1, va_rf x1), (2, .int x2), (3, .int x3)] [] S :=
  h (fun y => cG p l e (cRm 5 0 0 107) s m args below meth c A D Y 6 (MQ below (cQi post D Y A) args s 0 0 A) 0 0 4 [(0, .ref (y.1)), (1, va_rf (y.2.1)), (2, .int (y.2.2.1)), (3, .int (y.2.2.2.1))] [] (y.2.2.2.2)) (fun y hy => tb_X10_deletionFiles_4 C   (fun b0 b1 b2 b3 S z => z) (y.1) (y.2.1) (y.2.2.1) (y.2.2.2.1) (y.2.2.2.2) hy)
end S_X10_deletionFiles
set_option maxHeartbeats 1000000 in
set_option maxRecDepth 20000 in
theorem t_X10_deletionFiles (l : Launch) (x0 : Nat) (x1 : Option Nat) (S : cS) (dp : Nat) {P : Int32 → cS → Prop} (h : k_X10_deletionFiles P dp x0 x1 S) : cMet (cQi P) l yX10_deletionFiles cX10_deletionFiles 6 (some .int) 5 0 0 107 [.ref x0, va_rf x1] S dp := by
  unfold k_X10_deletionFiles at h
  obtain ho | ⟨b1, ho⟩ := c_opt x1
  · replace h := h.1 ho
    subst ho
    intro D Y tp sz
    refine cg_body (by decide +kernel) (Nat.le_of_ble_eq_true rfl) ?_
    intro p e s m args below meth c C
    generalize va_A (cWd Y S) sz = A at C ⊢
    have C : cC p s m args meth c cX10_deletionFiles 6 (some .int) A D Y tp dp RX10 := C
    refine cg_lv (lv' := [(0, .ref x0), (1, .null)]) rfl ?_
    refine cg_iconst C (x := nI 0) rfl dX10_deletionFiles_0 ?_
    refine cg_istore_n C (i := 2) (lv' := [(2, .int ((nI 0))), (0, .ref x0), (1, .null)]) rfl (Nat.le_of_ble_eq_true rfl) rfl dX10_deletionFiles_1 ?_
    refine cg_iconst C (x := nI 0) rfl dX10_deletionFiles_2 ?_
    refine cg_istore_n C (i := 3) (lv' := [(3, .int ((nI 0))), (2, .int ((nI 0))), (0, .ref x0), (1, .null)]) rfl (Nat.le_of_ble_eq_true rfl) rfl dX10_deletionFiles_3 ?_
    exact cg_sub [2, 3, 1, 0] rfl (tl_X10_deletionFiles_4 C   x0 none (((nI 0))) (((nI 0))) S h)
  · replace h := h.2 b1 ho
    subst ho
    intro D Y tp sz
    refine cg_body (by decide +kernel) (Nat.le_of_ble_eq_true rfl) ?_
    intro p e s m args below meth c C
    generalize va_A (cWd Y S) sz = A at C ⊢
    have C : cC p s m args meth c cX10_deletionFiles 6 (some .int) A D Y tp dp RX10 := C
    refine cg_lv (lv' := [(0, .ref x0), (1, .ref b1)]) rfl ?_
    refine cg_iconst C (x := nI 0) rfl dX10_deletionFiles_0 ?_
    refine cg_istore_n C (i := 2) (lv' := [(2, .int ((nI 0))), (0, .ref x0), (1, .ref b1)]) rfl (Nat.le_of_ble_eq_true rfl) rfl dX10_deletionFiles_1 ?_
    refine cg_iconst C (x := nI 0) rfl dX10_deletionFiles_2 ?_
    refine cg_istore_n C (i := 3) (lv' := [(3, .int ((nI 0))), (2, .int ((nI 0))), (0, .ref x0), (1, .ref b1)]) rfl (Nat.le_of_ble_eq_true rfl) rfl dX10_deletionFiles_3 ?_
    exact cg_sub [2, 3, 1, 0] rfl (tl_X10_deletionFiles_4 C   x0 (some b1) (((nI 0))) (((nI 0))) S h)
def k_X11_type (Q : Int32 → cS → Prop) (dp : Nat) (x0 : Nat) (x1 : Int32) (S : cS) : Prop :=
((x1 < ((nI 32)) →
  False) ∧
 (¬ x1 < ((nI 32)) →
  ((x1 ≤ ((nI 126)) →
    cA S x0 11 ∧ ((∃ b1 : Nat, cr S 352 x0 = some b1 ∧ (cA S b1 3 ∧ ((∃ b2 : Nat, cr S 96 b1 = some b2 ∧ (cA S b2 9 ∧ (((((ci S 289 b2)) < ((nI 40)) →
      cA S x0 11 ∧ ((∃ b3 : Nat, cr S 352 x0 = some b3 ∧ (cA S b3 3 ∧ ((∃ b4 : Nat, cr S 96 b3 = some b4 ∧ (cA S b4 9 ∧ (k_X9_putSign (fun r_5 S_5 => 
      Q r_5 S_5) dp b4 x1 S)))))))) ∧
     (¬ ((ci S 289 b2)) < ((nI 40)) →
      False)))))))))) ∧
   (¬ x1 ≤ ((nI 126)) →
    False))))
set_option maxHeartbeats 1000000 in
set_option maxRecDepth 20000 in
theorem t_X11_type (l : Launch) (x0 : Nat) (x1 : Int32) (S : cS) (dp : Nat) {P : Int32 → cS → Prop} (h : k_X11_type P dp x0 x1 S) : cMet (cQi P) l yX11_type cX11_type 2 (some .int) 1 0 0 21 [.ref x0, .int x1] S dp := by
  intro D Y tp sz
  refine cg_body (by decide +kernel) (Nat.le_of_ble_eq_true rfl) ?_
  intro p e s m args below meth c C
  generalize va_A (cWd Y S) sz = A at C ⊢
  have C : cC p s m args meth c cX11_type 2 (some .int) A D Y tp dp RX11 := C
  refine cg_lv (lv' := [(0, .ref x0), (1, .int x1)]) rfl ?_
  unfold k_X11_type at h
  refine cg_iload_n C (i := 1) rfl 1 rfl dX11_type_0 ?_
  refine cg_bipush C (x := nI 32) rfl dX11_type_1 ?_
  refine cg_icmp_lt C 12 (by decide) dX11_type_3 (fun c_ => ?_) (fun c_ => ?_)
  · have h := h.1 c_
    exact h.elim
  · have h := h.2 c_
    refine cg_iload_n C (i := 1) rfl 1 rfl dX11_type_6 ?_
    refine cg_bipush C (x := nI 126) rfl dX11_type_7 ?_
    refine cg_icmp_le C 22 (by decide) dX11_type_9 (fun c_ => ?_) (fun c_ => ?_)
    · have h := h.1 c_
      refine cg_aload_n C (i := 0) rfl 0 rfl dX11_type_22 ?_
      obtain ⟨hc_23, h⟩ := h
      obtain ⟨b1, hb_b1, h⟩ := h
      refine cg_get C (k := 11) (j := 0) (.ref b1) hc_23.1 hc_23.2 (by decide) rfl (by decide) rfl (show cV _ 11 0 x0 = _ from congrArg va_rf hb_b1) cWs_wsX110 cl_X11_10 rfl dX11_type_23 ?_
      obtain ⟨hc_26, h⟩ := h
      obtain ⟨b2, hb_b2, h⟩ := h
      refine cg_get C (k := 3) (j := 0) (.ref b2) hc_26.1 hc_26.2 (by decide) rfl (by decide) rfl (show cV _ 3 0 b1 = _ from congrArg va_rf hb_b2) cWs_wsX30 cl_X11_107 rfl dX11_type_26 ?_
      obtain ⟨hc_29, h⟩ := h
      refine cg_get C (k := 9) (j := 1) (.int (ci S 289 b2)) hc_29.1 hc_29.2 (by decide) rfl (by decide) rfl rfl cWs_wsX90 cl_X11_111 rfl dX11_type_29 ?_
      refine cg_bipush C (x := nI 40) rfl dX11_type_32 ?_
      refine cg_icmp_lt C 47 (by decide) dX11_type_34 (fun c_ => ?_) (fun c_ => ?_)
      · have h := h.1 c_
        refine cg_aload_n C (i := 0) rfl 0 rfl dX11_type_47 ?_
        obtain ⟨hc_48, h⟩ := h
        obtain ⟨b3, hb_b3, h⟩ := h
        refine cg_get C (k := 11) (j := 0) (.ref b3) hc_48.1 hc_48.2 (by decide) rfl (by decide) rfl (show cV _ 11 0 x0 = _ from congrArg va_rf hb_b3) cWs_wsX110 cl_X11_10 rfl dX11_type_48 ?_
        obtain ⟨hc_51, h⟩ := h
        obtain ⟨b4, hb_b4, h⟩ := h
        refine cg_get C (k := 3) (j := 0) (.ref b4) hc_51.1 hc_51.2 (by decide) rfl (by decide) rfl (show cV _ 3 0 b3 = _ from congrArg va_rf hb_b4) cWs_wsX30 cl_X11_107 rfl dX11_type_51 ?_
        refine cg_iload_n C (i := 1) rfl 1 rfl dX11_type_54 ?_
        obtain ⟨hc_55, h⟩ := h
        refine cg_calli C (t_X9_putSign l b4 x1 S dp h) cc_X11_121 hc_55.1 hc_55.2 (by decide) rfl rfl ⟨by decide, by decide⟩ ⟨by decide, by decide⟩ rfl (Nat.le_of_ble_eq_true rfl) dX11_type_55 (fun r_5 S_5 h => ?_)
        exact cg_iret C h dX11_type_58 (by decide) (by decide)
      · have h := h.2 c_
        exact h.elim
    · have h := h.2 c_
      exact h.elim
def k_X11_stop (Q : Int32 → cS → Prop) (dp : Nat) (mc ms : Nat) (x0 : Nat) (S : cS) : Prop :=
cA S x0 11 ∧ ((∃ b1 : Nat, cr S 352 x0 = some b1 ∧ (cA S b1 3 ∧ ((0 ≤ mc ∧ 0 ≤ ms) ∧ (k_X3_readPad (fun r_2 S_2 => 
((¬ r_2 = ((nI 1)) →
  False) ∧
 (r_2 = ((nI 1)) →
  cA S_2 x0 11 ∧ ((∃ b3 : Nat, cr S_2 352 x0 = some b3 ∧ (cA S_2 b3 3 ∧ (((((nI 10)) ≤ ((ci S_2 100 b3)) →
    False) ∧
   (¬ ((nI 10)) ≤ ((ci S_2 100 b3)) →
    cA S_2 x0 11 ∧ ((∃ b4 : Nat, cr S_2 352 x0 = some b4 ∧ (cA S_2 b4 3 ∧ (((((ci S_2 104 b4)) = 0 →
      cA S_2 x0 11 ∧ ((∃ b5 : Nat, cr S_2 352 x0 = some b5 ∧ (cA S_2 b5 3 ∧ ((∃ mc6 ms7 : Nat, 0 + mc6 ≤ mc ∧ 0 + ms7 ≤ ms ∧ (k_X3_putStop (fun r_8 S_8 => 
      (0 + mc6 ≤ mc ∧ 0 + ms7 ≤ ms) ∧ (Q r_8 S_8)) dp mc6 ms7 b5 S_2))))))) ∧
     (¬ ((ci S_2 104 b4)) = 0 →
      False))))))))))))))) dp b1 S)))))
set_option maxHeartbeats 1000000 in
set_option maxRecDepth 20000 in
theorem t_X11_stop (l : Launch) (mc ms : Nat) (x0 : Nat) (S : cS) (dp : Nat) {P : Int32 → cS → Prop} (h : k_X11_stop P dp mc ms x0 S) : cMet (cQi P) l yX11_stop cX11_stop 1 (some .int) 4 mc ms 91 [.ref x0] S dp := by
  intro D Y tp sz
  refine cg_body (by decide +kernel) (Nat.le_of_ble_eq_true rfl) ?_
  intro p e s m args below meth c C
  generalize va_A (cWd Y S) sz = A at C ⊢
  have C : cC p s m args meth c cX11_stop 1 (some .int) A D Y tp dp RX11 := C
  refine cg_lv (lv' := [(0, .ref x0)]) rfl ?_
  unfold k_X11_stop at h
  refine cg_aload_n C (i := 0) rfl 0 rfl dX11_stop_0 ?_
  obtain ⟨hc_1, h⟩ := h
  obtain ⟨b1, hb_b1, h⟩ := h
  refine cg_get C (k := 11) (j := 0) (.ref b1) hc_1.1 hc_1.2 (by decide) rfl (by decide) rfl (show cV _ 11 0 x0 = _ from congrArg va_rf hb_b1) cWs_wsX110 cl_X11_10 rfl dX11_stop_1 ?_
  obtain ⟨hc_4, h⟩ := h
  obtain ⟨hb_4, h⟩ := h
  refine cg_calli C (t_X3_readPad l b1 S dp h) cc_X11_129 hc_4.1 hc_4.2 (by decide) rfl rfl ⟨by decide, by decide⟩ hb_4 rfl (Nat.le_of_ble_eq_true rfl) dX11_stop_4 (fun r_2 S_2 h => ?_)
  simp only [Nat.add_zero]
  refine cg_iconst C (x := nI 1) rfl dX11_stop_7 ?_
  refine cg_icmp_ne C 33 (by decide) dX11_stop_8 (fun c_ => ?_) (fun c_ => ?_)
  · have h := h.1 c_
    exact h.elim
  · have h := h.2 c_
    refine cg_aload_n C (i := 0) rfl 0 rfl dX11_stop_11 ?_
    obtain ⟨hc_12, h⟩ := h
    obtain ⟨b3, hb_b3, h⟩ := h
    refine cg_get C (k := 11) (j := 0) (.ref b3) hc_12.1 hc_12.2 (by decide) rfl (by decide) rfl (show cV _ 11 0 x0 = _ from congrArg va_rf hb_b3) cWs_wsX110 cl_X11_10 rfl dX11_stop_12 ?_
    obtain ⟨hc_15, h⟩ := h
    refine cg_get C (k := 3) (j := 4) (.int (ci S_2 100 b3)) hc_15.1 hc_15.2 (by decide) rfl (by decide) rfl rfl cWs_wsX30 cl_X11_133 rfl dX11_stop_15 ?_
    refine cg_bipush C (x := nI 10) rfl dX11_stop_18 ?_
    refine cg_icmp_ge C 33 (by decide) dX11_stop_20 (fun c_ => ?_) (fun c_ => ?_)
    · have h := h.1 c_
      exact h.elim
    · have h := h.2 c_
      refine cg_aload_n C (i := 0) rfl 0 rfl dX11_stop_23 ?_
      obtain ⟨hc_24, h⟩ := h
      obtain ⟨b4, hb_b4, h⟩ := h
      refine cg_get C (k := 11) (j := 0) (.ref b4) hc_24.1 hc_24.2 (by decide) rfl (by decide) rfl (show cV _ 11 0 x0 = _ from congrArg va_rf hb_b4) cWs_wsX110 cl_X11_10 rfl dX11_stop_24 ?_
      obtain ⟨hc_27, h⟩ := h
      refine cg_get C (k := 3) (j := 8) (.int (ci S_2 104 b4)) hc_27.1 hc_27.2 (by decide) rfl (by decide) rfl rfl cWs_wsX30 cl_X11_136 rfl dX11_stop_27 ?_
      refine cg_if_eq C 43 (by decide) dX11_stop_30 (fun c_ => ?_) (fun c_ => ?_)
      · have h := h.1 c_
        refine cg_aload_n C (i := 0) rfl 0 rfl dX11_stop_43 ?_
        obtain ⟨hc_44, h⟩ := h
        obtain ⟨b5, hb_b5, h⟩ := h
        refine cg_get C (k := 11) (j := 0) (.ref b5) hc_44.1 hc_44.2 (by decide) rfl (by decide) rfl (show cV _ 11 0 x0 = _ from congrArg va_rf hb_b5) cWs_wsX110 cl_X11_10 rfl dX11_stop_44 ?_
        obtain ⟨hc_47, h⟩ := h
        obtain ⟨mc6, ms7, hm_1, hm_2, h⟩ := h
        refine cg_calli C (t_X3_putStop l mc6 ms7 b5 S_2 dp h) cc_X11_141 hc_47.1 hc_47.2 (by decide) rfl rfl ⟨by decide, by decide⟩ ⟨hm_1, hm_2⟩ rfl (Nat.le_of_ble_eq_true rfl) dX11_stop_47 (fun r_8 S_8 h => ?_)
        obtain ⟨hb_50, h⟩ := h
        exact cg_iret C h dX11_stop_50 hb_50.1 hb_50.2
      · have h := h.2 c_
        exact h.elim
def k_X11_synonym (Q : Int32 → cS → Prop) (dp : Nat) (mc ms : Nat) (x0 : Nat) (S : cS) : Prop :=
cA S x0 11 ∧ ((∃ b1 : Nat, cr S 352 x0 = some b1 ∧ (cA S b1 3 ∧ ((0 ≤ mc ∧ 0 ≤ ms) ∧ (k_X3_readPad (fun r_2 S_2 => 
((¬ r_2 = ((nI 2)) →
  False) ∧
 (r_2 = ((nI 2)) →
  cA S_2 x0 11 ∧ ((∃ b3 : Nat, cr S_2 352 x0 = some b3 ∧ (cA S_2 b3 3 ∧ (((((nI 10)) ≤ ((ci S_2 103 b3)) →
    False) ∧
   (¬ ((nI 10)) ≤ ((ci S_2 103 b3)) →
    cA S_2 x0 11 ∧ ((∃ b4 : Nat, cr S_2 352 x0 = some b4 ∧ (cA S_2 b4 3 ∧ (((((ci S_2 104 b4)) = 0 →
      cA S_2 x0 11 ∧ ((∃ b5 : Nat, cr S_2 352 x0 = some b5 ∧ (cA S_2 b5 3 ∧ ((∃ mc6 ms7 : Nat, 0 + mc6 ≤ mc ∧ 0 + ms7 ≤ ms ∧ (k_X3_putPair (fun r_8 S_8 => 
      (0 + mc6 ≤ mc ∧ 0 + ms7 ≤ ms) ∧ (Q r_8 S_8)) dp mc6 ms7 b5 S_2))))))) ∧
     (¬ ((ci S_2 104 b4)) = 0 →
      False))))))))))))))) dp b1 S)))))
set_option maxHeartbeats 1000000 in
set_option maxRecDepth 20000 in
theorem t_X11_synonym (l : Launch) (mc ms : Nat) (x0 : Nat) (S : cS) (dp : Nat) {P : Int32 → cS → Prop} (h : k_X11_synonym P dp mc ms x0 S) : cMet (cQi P) l yX11_synonym cX11_synonym 1 (some .int) 4 mc ms 89 [.ref x0] S dp := by
  intro D Y tp sz
  refine cg_body (by decide +kernel) (Nat.le_of_ble_eq_true rfl) ?_
  intro p e s m args below meth c C
  generalize va_A (cWd Y S) sz = A at C ⊢
  have C : cC p s m args meth c cX11_synonym 1 (some .int) A D Y tp dp RX11 := C
  refine cg_lv (lv' := [(0, .ref x0)]) rfl ?_
  unfold k_X11_synonym at h
  refine cg_aload_n C (i := 0) rfl 0 rfl dX11_synonym_0 ?_
  obtain ⟨hc_1, h⟩ := h
  obtain ⟨b1, hb_b1, h⟩ := h
  refine cg_get C (k := 11) (j := 0) (.ref b1) hc_1.1 hc_1.2 (by decide) rfl (by decide) rfl (show cV _ 11 0 x0 = _ from congrArg va_rf hb_b1) cWs_wsX110 cl_X11_10 rfl dX11_synonym_1 ?_
  obtain ⟨hc_4, h⟩ := h
  obtain ⟨hb_4, h⟩ := h
  refine cg_calli C (t_X3_readPad l b1 S dp h) cc_X11_129 hc_4.1 hc_4.2 (by decide) rfl rfl ⟨by decide, by decide⟩ hb_4 rfl (Nat.le_of_ble_eq_true rfl) dX11_synonym_4 (fun r_2 S_2 h => ?_)
  simp only [Nat.add_zero]
  refine cg_iconst C (x := nI 2) rfl dX11_synonym_7 ?_
  refine cg_icmp_ne C 33 (by decide) dX11_synonym_8 (fun c_ => ?_) (fun c_ => ?_)
  · have h := h.1 c_
    exact h.elim
  · have h := h.2 c_
    refine cg_aload_n C (i := 0) rfl 0 rfl dX11_synonym_11 ?_
    obtain ⟨hc_12, h⟩ := h
    obtain ⟨b3, hb_b3, h⟩ := h
    refine cg_get C (k := 11) (j := 0) (.ref b3) hc_12.1 hc_12.2 (by decide) rfl (by decide) rfl (show cV _ 11 0 x0 = _ from congrArg va_rf hb_b3) cWs_wsX110 cl_X11_10 rfl dX11_synonym_12 ?_
    obtain ⟨hc_15, h⟩ := h
    refine cg_get C (k := 3) (j := 7) (.int (ci S_2 103 b3)) hc_15.1 hc_15.2 (by decide) rfl (by decide) rfl rfl cWs_wsX30 cl_X11_144 rfl dX11_synonym_15 ?_
    refine cg_bipush C (x := nI 10) rfl dX11_synonym_18 ?_
    refine cg_icmp_ge C 33 (by decide) dX11_synonym_20 (fun c_ => ?_) (fun c_ => ?_)
    · have h := h.1 c_
      exact h.elim
    · have h := h.2 c_
      refine cg_aload_n C (i := 0) rfl 0 rfl dX11_synonym_23 ?_
      obtain ⟨hc_24, h⟩ := h
      obtain ⟨b4, hb_b4, h⟩ := h
      refine cg_get C (k := 11) (j := 0) (.ref b4) hc_24.1 hc_24.2 (by decide) rfl (by decide) rfl (show cV _ 11 0 x0 = _ from congrArg va_rf hb_b4) cWs_wsX110 cl_X11_10 rfl dX11_synonym_24 ?_
      obtain ⟨hc_27, h⟩ := h
      refine cg_get C (k := 3) (j := 8) (.int (ci S_2 104 b4)) hc_27.1 hc_27.2 (by decide) rfl (by decide) rfl rfl cWs_wsX30 cl_X11_136 rfl dX11_synonym_27 ?_
      refine cg_if_eq C 43 (by decide) dX11_synonym_30 (fun c_ => ?_) (fun c_ => ?_)
      · have h := h.1 c_
        refine cg_aload_n C (i := 0) rfl 0 rfl dX11_synonym_43 ?_
        obtain ⟨hc_44, h⟩ := h
        obtain ⟨b5, hb_b5, h⟩ := h
        refine cg_get C (k := 11) (j := 0) (.ref b5) hc_44.1 hc_44.2 (by decide) rfl (by decide) rfl (show cV _ 11 0 x0 = _ from congrArg va_rf hb_b5) cWs_wsX110 cl_X11_10 rfl dX11_synonym_44 ?_
        obtain ⟨hc_47, h⟩ := h
        obtain ⟨mc6, ms7, hm_1, hm_2, h⟩ := h
        refine cg_calli C (t_X3_putPair l mc6 ms7 b5 S_2 dp h) cc_X11_149 hc_47.1 hc_47.2 (by decide) rfl rfl ⟨by decide, by decide⟩ ⟨hm_1, hm_2⟩ rfl (Nat.le_of_ble_eq_true rfl) dX11_synonym_47 (fun r_8 S_8 h => ?_)
        obtain ⟨hb_50, h⟩ := h
        exact cg_iret C h dX11_synonym_50 hb_50.1 hb_50.2
      · have h := h.2 c_
        exact h.elim
def k_X11_checkField (Q : cS → Prop) (dp : Nat) (x0 : Int32) (S : cS) : Prop :=
((x0 < 0 →
  False) ∧
 (¬ x0 < 0 →
  ((x0 < ((nI 2)) →
    Q S) ∧
   (¬ x0 < ((nI 2)) →
    False))))
set_option maxHeartbeats 1000000 in
set_option maxRecDepth 20000 in
theorem t_X11_checkField (l : Launch) (x0 : Int32) (S : cS) (dp : Nat) {P : cS → Prop} (h : k_X11_checkField P dp x0 S) : cMet (cQv P) l yX11_checkField cX11_checkField 1 none 0 0 0 0 [.int x0] S dp := by
  intro D Y tp sz
  refine cg_body (by decide +kernel) (Nat.le_of_ble_eq_true rfl) ?_
  intro p e s m args below meth c C
  generalize va_A (cWd Y S) sz = A at C ⊢
  have C : cC p s m args meth c cX11_checkField 1 none A D Y tp dp RX11 := C
  refine cg_lv (lv' := [(0, .int x0)]) rfl ?_
  unfold k_X11_checkField at h
  refine cg_iload_n C (i := 0) rfl 0 rfl dX11_checkField_0 ?_
  refine cg_if_lt C 9 (by decide) dX11_checkField_1 (fun c_ => ?_) (fun c_ => ?_)
  · have h := h.1 c_
    exact h.elim
  · have h := h.2 c_
    refine cg_iload_n C (i := 0) rfl 0 rfl dX11_checkField_4 ?_
    refine cg_iconst C (x := nI 2) rfl dX11_checkField_5 ?_
    refine cg_icmp_lt C 20 (by decide) dX11_checkField_6 (fun c_ => ?_) (fun c_ => ?_)
    · have h := h.1 c_
      exact cg_vret C h dX11_checkField_20 (by decide) (by decide)
    · have h := h.2 c_
      exact h.elim
def k_X11_text (Q : Int32 → cS → Prop) (dp : Nat) (mc ms : Nat) (x0 : Nat) (x1 : Int32) (S : cS) : Prop :=
(0 ≤ mc ∧ 0 ≤ ms) ∧ (k_X11_checkField (fun S_1 => 
cA S_1 x0 11 ∧ ((∃ b2 : Nat, cr S_1 352 x0 = some b2 ∧ (cA S_1 b2 3 ∧ ((∃ mc3 ms4 : Nat, 0 + mc3 ≤ mc ∧ 0 + ms4 ≤ ms ∧ (k_X3_takePad (fun r_5 S_5 => 
cA S_5 x0 11 ∧ ((∃ b6 : Nat, cr S_5 352 x0 = some b6 ∧ (cA S_5 b6 3 ∧ ((∃ mc7 ms8 : Nat, 0 + mc3 + mc7 ≤ mc ∧ 0 + ms4 + ms8 ≤ ms ∧ (k_X3_tokenise (fun S_9 => 
cA S_9 x0 11 ∧ ((∃ b10 : Nat, cr S_9 353 x0 = some b10 ∧ (cA S_9 b10 0 ∧ ((0 + mc3 + mc7 ≤ mc ∧ 0 + ms4 + ms8 ≤ ms) ∧ (k_X0_putText (fun S_11 => 
cA S_11 r_5 9 ∧ ((0 + mc3 + mc7 ≤ mc ∧ 0 + ms4 + ms8 ≤ ms) ∧ (Q ((ci S_11 292 r_5)) S_11))) dp b10 x1 r_5 S_9)))))) dp mc7 ms8 b6 r_5 ((nI 1)) S_5))))))) dp mc3 ms4 b2 S_1))))))) dp x1 S)
set_option maxHeartbeats 1000000 in
set_option maxRecDepth 20000 in
theorem t_X11_text (l : Launch) (mc ms : Nat) (x0 : Nat) (x1 : Int32) (S : cS) (dp : Nat) {P : Int32 → cS → Prop} (h : k_X11_text P dp mc ms x0 x1 S) : cMet (cQi P) l yX11_text cX11_text 3 (some .int) 5 mc ms 113 [.ref x0, .int x1] S dp := by
  intro D Y tp sz
  refine cg_body (by decide +kernel) (Nat.le_of_ble_eq_true rfl) ?_
  intro p e s m args below meth c C
  generalize va_A (cWd Y S) sz = A at C ⊢
  have C : cC p s m args meth c cX11_text 3 (some .int) A D Y tp dp RX11 := C
  refine cg_lv (lv' := [(0, .ref x0), (1, .int x1)]) rfl ?_
  unfold k_X11_text at h
  refine cg_iload_n C (i := 1) rfl 1 rfl dX11_text_0 ?_
  obtain ⟨hb_1, h⟩ := h
  refine cg_callsv C (t_X11_checkField l x1 S dp h) cc_X11_152 rfl ⟨by decide, by decide⟩ hb_1 rfl (Nat.le_of_ble_eq_true rfl) dX11_text_1 (fun S_1 h => ?_)
  simp only [Nat.add_zero]
  refine cg_aload_n C (i := 0) rfl 0 rfl dX11_text_4 ?_
  obtain ⟨hc_5, h⟩ := h
  obtain ⟨b2, hb_b2, h⟩ := h
  refine cg_get C (k := 11) (j := 0) (.ref b2) hc_5.1 hc_5.2 (by decide) rfl (by decide) rfl (show cV _ 11 0 x0 = _ from congrArg va_rf hb_b2) cWs_wsX110 cl_X11_10 rfl dX11_text_5 ?_
  obtain ⟨hc_8, h⟩ := h
  obtain ⟨mc3, ms4, hm_1, hm_2, h⟩ := h
  refine cg_callr C (t_X3_takePad l mc3 ms4 b2 S_1 dp h) cc_X11_125 hc_8.1 hc_8.2 (by decide) rfl rfl ⟨by decide, by decide⟩ ⟨hm_1, hm_2⟩ rfl (Nat.le_of_ble_eq_true rfl) dX11_text_8 (fun r_5 S_5 h => ?_)
  refine cg_astore_n (lv' := [(2, .ref r_5), (0, .ref x0), (1, .int x1)]) C (i := 2) rfl (Nat.le_of_ble_eq_true rfl) rfl dX11_text_11 ?_
  refine cg_aload_n C (i := 0) rfl 1 rfl dX11_text_12 ?_
  obtain ⟨hc_13, h⟩ := h
  obtain ⟨b6, hb_b6, h⟩ := h
  refine cg_get C (k := 11) (j := 0) (.ref b6) hc_13.1 hc_13.2 (by decide) rfl (by decide) rfl (show cV _ 11 0 x0 = _ from congrArg va_rf hb_b6) cWs_wsX110 cl_X11_10 rfl dX11_text_13 ?_
  refine cg_aload_n C (i := 2) rfl 0 rfl dX11_text_16 ?_
  refine cg_iconst C (x := nI 1) rfl dX11_text_17 ?_
  obtain ⟨hc_18, h⟩ := h
  obtain ⟨mc7, ms8, hm_1, hm_2, h⟩ := h
  refine cg_callv C (t_X3_tokenise l mc7 ms8 b6 r_5 ((nI 1)) S_5 dp h) cc_X11_155 hc_18.1 hc_18.2 (by decide) rfl rfl ⟨by decide, by decide⟩ ⟨hm_1, hm_2⟩ rfl (Nat.le_of_ble_eq_true rfl) dX11_text_18 (fun S_9 h => ?_)
  refine cg_aload_n C (i := 0) rfl 1 rfl dX11_text_21 ?_
  obtain ⟨hc_22, h⟩ := h
  obtain ⟨b10, hb_b10, h⟩ := h
  refine cg_get C (k := 11) (j := 1) (.ref b10) hc_22.1 hc_22.2 (by decide) rfl (by decide) rfl (show cV _ 11 1 x0 = _ from congrArg va_rf hb_b10) cWs_wsX110 cl_X11_19 rfl dX11_text_22 ?_
  refine cg_iload_n C (i := 1) rfl 2 rfl dX11_text_25 ?_
  refine cg_aload_n C (i := 2) rfl 0 rfl dX11_text_26 ?_
  obtain ⟨hc_27, h⟩ := h
  obtain ⟨hb_27, h⟩ := h
  refine cg_callv C (t_X0_putText l b10 x1 r_5 S_9 dp h) cc_X11_159 hc_27.1 hc_27.2 (by decide) rfl rfl ⟨by decide, by decide⟩ hb_27 rfl (Nat.le_of_ble_eq_true rfl) dX11_text_27 (fun S_11 h => ?_)
  simp only [Nat.add_zero]
  refine cg_aload_n C (i := 2) rfl 0 rfl dX11_text_30 ?_
  obtain ⟨hc_31, h⟩ := h
  refine cg_get C (k := 9) (j := 4) (.int (ci S_11 292 r_5)) hc_31.1 hc_31.2 (by decide) rfl (by decide) rfl rfl cWs_wsX90 cl_X11_163 rfl dX11_text_31 ?_
  obtain ⟨hb_34, h⟩ := h
  exact cg_iret C h dX11_text_34 hb_34.1 hb_34.2
def k_X11_columns (Q : cS → Prop) (dp : Nat) (x0 : Nat) (x1 : Int32) (x2 : Int32) (S : cS) : Prop :=
((x1 < 0 →
  False) ∧
 (¬ x1 < 0 →
  ((((nI 9)) < x1 →
    False) ∧
   (¬ ((nI 9)) < x1 →
    ((x2 < 0 →
      False) ∧
     (¬ x2 < 0 →
      ((x2 ≤ ((nI 999)) →
        cA S x0 11 ∧ ((∃ b1 : Nat, cr S 353 x0 = some b1 ∧ (cA S b1 0 ∧ (∀ S2 : cS, S2 = cSi S 1 b1 x1 → cA S2 x0 11 ∧ ((∃ b3 : Nat, cr S2 353 x0 = some b3 ∧ (cA S2 b3 0 ∧ (∀ S4 : cS, S4 = cSi S2 2 b3 x2 → Q S4))))))))) ∧
       (¬ x2 ≤ ((nI 999)) →
        False))))))))
set_option maxHeartbeats 1000000 in
set_option maxRecDepth 20000 in
theorem t_X11_columns (l : Launch) (x0 : Nat) (x1 : Int32) (x2 : Int32) (S : cS) (dp : Nat) {P : cS → Prop} (h : k_X11_columns P dp x0 x1 x2 S) : cMet (cQv P) l yX11_columns cX11_columns 3 none 0 0 0 0 [.ref x0, .int x1, .int x2] S dp := by
  intro D Y tp sz
  refine cg_body (by decide +kernel) (Nat.le_of_ble_eq_true rfl) ?_
  intro p e s m args below meth c C
  generalize va_A (cWd Y S) sz = A at C ⊢
  have C : cC p s m args meth c cX11_columns 3 none A D Y tp dp RX11 := C
  refine cg_lv (lv' := [(0, .ref x0), (1, .int x1), (2, .int x2)]) rfl ?_
  unfold k_X11_columns at h
  refine cg_iload_n C (i := 1) rfl 1 rfl dX11_columns_0 ?_
  refine cg_if_lt C 21 (by decide) dX11_columns_1 (fun c_ => ?_) (fun c_ => ?_)
  · have h := h.1 c_
    exact h.elim
  · have h := h.2 c_
    refine cg_iload_n C (i := 1) rfl 1 rfl dX11_columns_4 ?_
    refine cg_bipush C (x := nI 9) rfl dX11_columns_5 ?_
    refine cg_icmp_gt C 21 (by decide) dX11_columns_7 (fun c_ => ?_) (fun c_ => ?_)
    · have h := h.1 c_
      exact h.elim
    · have h := h.2 c_
      refine cg_iload_n C (i := 2) rfl 2 rfl dX11_columns_10 ?_
      refine cg_if_lt C 21 (by decide) dX11_columns_11 (fun c_ => ?_) (fun c_ => ?_)
      · have h := h.1 c_
        exact h.elim
      · have h := h.2 c_
        refine cg_iload_n C (i := 2) rfl 2 rfl dX11_columns_14 ?_
        refine cg_sipush C (x := nI 999) rfl dX11_columns_15 ?_
        refine cg_icmp_le C 31 (by decide) dX11_columns_18 (fun c_ => ?_) (fun c_ => ?_)
        · have h := h.1 c_
          refine cg_aload_n C (i := 0) rfl 0 rfl dX11_columns_31 ?_
          obtain ⟨hc_32, h⟩ := h
          obtain ⟨b1, hb_b1, h⟩ := h
          refine cg_get C (k := 11) (j := 1) (.ref b1) hc_32.1 hc_32.2 (by decide) rfl (by decide) rfl (show cV _ 11 1 x0 = _ from congrArg va_rf hb_b1) cWs_wsX110 cl_X11_19 rfl dX11_columns_32 ?_
          refine cg_iload_n C (i := 1) rfl 1 rfl dX11_columns_35 ?_
          obtain ⟨hc_36, h⟩ := h
          refine cg_puti C (k := 0) (j := 1) (ty := tyX0) (fty := .int) hc_36.1 hc_36.2 (by decide) rfl (by decide) rfl (by decide) rfl cWs_wsX00 tyX0_ok nmX0 cl_X11_168 rfl rfl rfl rfl rfl dX11_columns_36 ?_
          refine cg_nm (fun S2 e_S2 => ?_)
          have h := h S2 e_S2
          refine cg_aload_n C (i := 0) rfl 0 rfl dX11_columns_39 ?_
          obtain ⟨hc_40, h⟩ := h
          obtain ⟨b3, hb_b3, h⟩ := h
          refine cg_get C (k := 11) (j := 1) (.ref b3) hc_40.1 hc_40.2 (by decide) rfl (by decide) rfl (show cV _ 11 1 x0 = _ from congrArg va_rf hb_b3) cWs_wsX110 cl_X11_19 rfl dX11_columns_40 ?_
          refine cg_iload_n C (i := 2) rfl 2 rfl dX11_columns_43 ?_
          obtain ⟨hc_44, h⟩ := h
          refine cg_puti C (k := 0) (j := 2) (ty := tyX0) (fty := .int) hc_44.1 hc_44.2 (by decide) rfl (by decide) rfl (by decide) rfl cWs_wsX00 tyX0_ok nmX0 cl_X11_171 rfl rfl rfl rfl rfl dX11_columns_44 ?_
          refine cg_nm (fun S4 e_S4 => ?_)
          have h := h S4 e_S4
          exact cg_vret C h dX11_columns_47 (by decide) (by decide)
        · have h := h.2 c_
          exact h.elim
def k_X11_checkKey (Q : cS → Prop) (dp : Nat) (x0 : Int32) (S : cS) : Prop :=
((x0 < 0 →
  False) ∧
 (¬ x0 < 0 →
  ((x0 < ((nI 100)) →
    Q S) ∧
   (¬ x0 < ((nI 100)) →
    False))))
set_option maxHeartbeats 1000000 in
set_option maxRecDepth 20000 in
theorem t_X11_checkKey (l : Launch) (x0 : Int32) (S : cS) (dp : Nat) {P : cS → Prop} (h : k_X11_checkKey P dp x0 S) : cMet (cQv P) l yX11_checkKey cX11_checkKey 1 none 0 0 0 0 [.int x0] S dp := by
  intro D Y tp sz
  refine cg_body (by decide +kernel) (Nat.le_of_ble_eq_true rfl) ?_
  intro p e s m args below meth c C
  generalize va_A (cWd Y S) sz = A at C ⊢
  have C : cC p s m args meth c cX11_checkKey 1 none A D Y tp dp RX11 := C
  refine cg_lv (lv' := [(0, .int x0)]) rfl ?_
  unfold k_X11_checkKey at h
  refine cg_iload_n C (i := 0) rfl 0 rfl dX11_checkKey_0 ?_
  refine cg_if_lt C 10 (by decide) dX11_checkKey_1 (fun c_ => ?_) (fun c_ => ?_)
  · have h := h.1 c_
    exact h.elim
  · have h := h.2 c_
    refine cg_iload_n C (i := 0) rfl 0 rfl dX11_checkKey_4 ?_
    refine cg_bipush C (x := nI 100) rfl dX11_checkKey_5 ?_
    refine cg_icmp_lt C 21 (by decide) dX11_checkKey_7 (fun c_ => ?_) (fun c_ => ?_)
    · have h := h.1 c_
      exact cg_vret C h dX11_checkKey_21 (by decide) (by decide)
    · have h := h.2 c_
      exact h.elim
def k_X11_checkUp (Q : cS → Prop) (dp : Nat) (x0 : Nat) (S : cS) : Prop :=
cA S x0 11 ∧ (((((ci S 370 x0)) = 0 →
  Q S) ∧
 (¬ ((ci S 370 x0)) = 0 →
  False)))
set_option maxHeartbeats 1000000 in
set_option maxRecDepth 20000 in
theorem t_X11_checkUp (l : Launch) (x0 : Nat) (S : cS) (dp : Nat) {P : cS → Prop} (h : k_X11_checkUp P dp x0 S) : cMet (cQv P) l yX11_checkUp cX11_checkUp 1 none 0 0 0 0 [.ref x0] S dp := by
  intro D Y tp sz
  refine cg_body (by decide +kernel) (Nat.le_of_ble_eq_true rfl) ?_
  intro p e s m args below meth c C
  generalize va_A (cWd Y S) sz = A at C ⊢
  have C : cC p s m args meth c cX11_checkUp 1 none A D Y tp dp RX11 := C
  refine cg_lv (lv' := [(0, .ref x0)]) rfl ?_
  unfold k_X11_checkUp at h
  refine cg_aload_n C (i := 0) rfl 0 rfl dX11_checkUp_0 ?_
  obtain ⟨hc_1, h⟩ := h
  refine cg_get C (k := 11) (j := 18) (.int (ci S 370 x0)) hc_1.1 hc_1.2 (by decide) rfl (by decide) rfl rfl cWs_wsX110 cl_X11_96 rfl dX11_checkUp_1 ?_
  refine cg_if_eq C 18 (by decide) dX11_checkUp_4 (fun c_ => ?_) (fun c_ => ?_)
  · have h := h.1 c_
    exact cg_vret C h dX11_checkUp_18 (by decide) (by decide)
  · have h := h.2 c_
    exact h.elim
def k_X11_bufferPlaceOf_2 (Q : Int32 → cS → Prop) (dp : Nat) (R2 : Nat → Int32 → Int32 → cS → Prop) (x0 : Nat) (x1 : Int32) (x2 : Int32) (S : cS) : Prop :=
cA S x0 11 ∧ ((∃ b1 : Nat, cr S 354 x0 = some b1 ∧ (cA S b1 12 ∧ (k_Jx4a65c_size_8abf5 (fun r_2 S_2 => 
((r_2 ≤ x2 →
  Q (((-1))) S_2) ∧
 (¬ r_2 ≤ x2 →
  cA S_2 x0 11 ∧ ((∃ b3 : Nat, cr S_2 354 x0 = some b3 ∧ (cA S_2 b3 12 ∧ (k_Jx4a65c_get_915e3 (fun r_4 S_4 => 
  cA S_4 r_4 0 ∧ (cA S_4 r_4 0 ∧ (((¬ ((ci S_4 0 r_4)) = x1 →
    ∀ x2_5 : Int32, x2_5 = x2 + nI 1 → R2 x0 x1 x2_5 S_4) ∧
   (((ci S_4 0 r_4)) = x1 →
    Q x2 S_4))))) dp b3 x2 S_2))))))) dp b1 S))))
def k_X11_bufferPlaceOf_2L (Q : Int32 → cS → Prop) (dp : Nat)  (x0 : Nat) (x1 : Int32) (x2 : Int32) (S : cS) : Prop :=
  lfp (X := Nat × Int32 × Int32 × cS) (fun P y => k_X11_bufferPlaceOf_2 Q dp  (fun b0 b1 b2 S => P (b0, b1, b2, S)) y.1 y.2.1 y.2.2.1 y.2.2.2) (x0, x1, x2, S)
def k_X11_bufferPlaceOf (Q : Int32 → cS → Prop) (dp : Nat) (x0 : Nat) (x1 : Int32) (S : cS) : Prop :=
k_X11_bufferPlaceOf_2L Q dp  x0 x1 (((nI 0))) S
section S_X11_bufferPlaceOf
variable {p : Program} {l : Launch} {e : Env} {s : State} {m : MethodId} {args : Array Value} {below : List Frame} {meth : Method} {c : Code} {A : Nat → Prop} {D : va_G} {Y : cY} {tp dp : Nat}
set_option maxRecDepth 20000 in
theorem tb_X11_bufferPlaceOf_2 (C : cC p s m args meth c cX11_bufferPlaceOf 3 (some .int) A D Y tp dp RX11) {post : Int32 → cS → Prop} {R2 : Nat → Int32 → Int32 → cS → Prop} (hR2 : ∀ (x0 : Nat) (x1 : Int32) (x2 : Int32) (S : cS), R2 x0 x1 x2 S → cG p l e (cRm 3 0 0 64) s m args below meth c A D Y 3 (MQ below (cQi post D Y A) args s 0 0 A) 0 0 2 [(0, .ref x0), (1, .int x1), (2, .int x2)] [] S) (x0 : Nat) (x1 : Int32) (x2 : Int32) (S : cS) (h : k_X11_bufferPlaceOf_2 post dp R2 x0 x1 x2 S) : cG p l e (cRm 3 0 0 64) s m args below meth c A D Y 3 (MQ below (cQi post D Y A) args s 0 0 A) 0 0 2 [(0, .ref x0), (1, .int x1), (2, .int x2)] [] S := by
  unfold k_X11_bufferPlaceOf_2 at h
  refine cg_iload_n C (i := 2) rfl 2 rfl dX11_bufferPlaceOf_2 ?_
  refine cg_aload_n C (i := 0) rfl 0 rfl dX11_bufferPlaceOf_3 ?_
  obtain ⟨hc_4, h⟩ := h
  obtain ⟨b1, hb_b1, h⟩ := h
  refine cg_get C (k := 11) (j := 2) (.ref b1) hc_4.1 hc_4.2 (by decide) rfl (by decide) rfl (show cV _ 11 2 x0 = _ from congrArg va_rf hb_b1) cWs_wsX110 cl_X11_26 rfl dX11_bufferPlaceOf_4 ?_
  obtain ⟨hc_7, h⟩ := h
  refine cg_calli C (t_Jx4a65c_size_8abf5 l b1 S dp h) cc_X11_180 hc_7.1 hc_7.2 (by decide) rfl rfl ⟨by decide, by decide⟩ ⟨by decide, by decide⟩ rfl (Nat.le_of_ble_eq_true rfl) dX11_bufferPlaceOf_7 (fun r_2 S_2 h => ?_)
  refine cg_icmp_ge C 39 (by decide) dX11_bufferPlaceOf_10 (fun c_ => ?_) (fun c_ => ?_)
  · have h := h.1 c_
    refine cg_iconst C (x := (-1)) rfl dX11_bufferPlaceOf_39 ?_
    exact cg_iret C h dX11_bufferPlaceOf_40 (by decide) (by decide)
  · have h := h.2 c_
    refine cg_aload_n C (i := 0) rfl 0 rfl dX11_bufferPlaceOf_13 ?_
    obtain ⟨hc_14, h⟩ := h
    obtain ⟨b3, hb_b3, h⟩ := h
    refine cg_get C (k := 11) (j := 2) (.ref b3) hc_14.1 hc_14.2 (by decide) rfl (by decide) rfl (show cV _ 11 2 x0 = _ from congrArg va_rf hb_b3) cWs_wsX110 cl_X11_26 rfl dX11_bufferPlaceOf_14 ?_
    refine cg_iload_n C (i := 2) rfl 2 rfl dX11_bufferPlaceOf_17 ?_
    obtain ⟨hc_18, h⟩ := h
    refine cg_callr C (t_Jx4a65c_get_915e3 l b3 x2 S_2 dp h) cc_X11_277 hc_18.1 hc_18.2 (by decide) rfl rfl ⟨by decide, by decide⟩ ⟨by decide, by decide⟩ rfl (Nat.le_of_ble_eq_true rfl) dX11_bufferPlaceOf_18 (fun r_4 S_4 h => ?_)
    obtain ⟨hc_21, h⟩ := h
    refine cg_ccast C (k := 0) hc_21.1 hc_21.2 (by decide) rfl cnc_X11_16 dX11_bufferPlaceOf_21 ?_
    obtain ⟨hc_24, h⟩ := h
    refine cg_get C (k := 0) (j := 0) (.int (ci S_4 0 r_4)) hc_24.1 hc_24.2 (by decide) rfl (by decide) rfl rfl cWs_wsX00 cl_X11_193 rfl dX11_bufferPlaceOf_24 ?_
    refine cg_iload_n C (i := 1) rfl 1 rfl dX11_bufferPlaceOf_27 ?_
    refine cg_icmp_ne C 33 (by decide) dX11_bufferPlaceOf_28 (fun c_ => ?_) (fun c_ => ?_)
    · have h := h.1 c_
      obtain ⟨x2_5, e_x2_5⟩ : ∃ z : Int32, z = x2 + nI 1 := ⟨_, rfl⟩
      have h := h x2_5 e_x2_5
      refine cg_iinc C (lv' := [(2, .int x2_5), (0, .ref x0), (1, .int x1)]) 2 rfl (by rw [e_x2_5]; rfl) (Nat.le_of_ble_eq_true rfl) rfl dX11_bufferPlaceOf_33 ?_
      refine cg_goto C 2 (by decide) dX11_bufferPlaceOf_36 ?_
      exact cg_sub [1, 2, 0] rfl (hR2 x0 x1 x2_5 S_4 h)
    · have h := h.2 c_
      refine cg_iload_n C (i := 2) rfl 2 rfl dX11_bufferPlaceOf_31 ?_
      exact cg_iret C h dX11_bufferPlaceOf_32 (by decide) (by decide)
set_option maxRecDepth 20000 in
theorem tl_X11_bufferPlaceOf_2 (C : cC p s m args meth c cX11_bufferPlaceOf 3 (some .int) A D Y tp dp RX11) {post : Int32 → cS → Prop}   (x0 : Nat) (x1 : Int32) (x2 : Int32) (S : cS) (h : k_X11_bufferPlaceOf_2L post dp  x0 x1 x2 S) : cG p l e (cRm 3 0 0 64) s m args below meth c A D Y 3 (MQ below (cQi post D Y A) args s 0 0 A) 0 0 2 [(0, .ref x0), (1, .int x1), (2, .int x2)] [] S :=
  h (fun y => cG p l e (cRm 3 0 0 64) s m args below meth c A D Y 3 (MQ below (cQi post D Y A) args s 0 0 A) 0 0 2 [(0, .ref (y.1)), (1, .int (y.2.1)), (2, .int (y.2.2.1))] [] (y.2.2.2)) (fun y hy => tb_X11_bufferPlaceOf_2 C   (fun b0 b1 b2 S z => z) (y.1) (y.2.1) (y.2.2.1) (y.2.2.2) hy)
end S_X11_bufferPlaceOf
set_option maxHeartbeats 1000000 in
set_option maxRecDepth 20000 in
theorem t_X11_bufferPlaceOf (l : Launch) (x0 : Nat) (x1 : Int32) (S : cS) (dp : Nat) {P : Int32 → cS → Prop} (h : k_X11_bufferPlaceOf P dp x0 x1 S) : cMet (cQi P) l yX11_bufferPlaceOf cX11_bufferPlaceOf 3 (some .int) 3 0 0 64 [.ref x0, .int x1] S dp := by
  intro D Y tp sz
  refine cg_body (by decide +kernel) (Nat.le_of_ble_eq_true rfl) ?_
  intro p e s m args below meth c C
  generalize va_A (cWd Y S) sz = A at C ⊢
  have C : cC p s m args meth c cX11_bufferPlaceOf 3 (some .int) A D Y tp dp RX11 := C
  refine cg_lv (lv' := [(0, .ref x0), (1, .int x1)]) rfl ?_
  unfold k_X11_bufferPlaceOf at h
  refine cg_iconst C (x := nI 0) rfl dX11_bufferPlaceOf_0 ?_
  refine cg_istore_n C (i := 2) (lv' := [(2, .int ((nI 0))), (0, .ref x0), (1, .int x1)]) rfl (Nat.le_of_ble_eq_true rfl) rfl dX11_bufferPlaceOf_1 ?_
  exact cg_sub [1, 2, 0] rfl (tl_X11_bufferPlaceOf_2 C   x0 x1 (((nI 0))) S h)
def k_X11_dropKey (Q : Int32 → cS → Prop) (dp : Nat) (x0 : Nat) (x1 : Int32) (S : cS) : Prop :=
cA S x0 11 ∧ (k_X11_bufferPlaceOf (fun r_1 S_1 => 
((r_1 = (((-1))) →
  cA S_1 x0 11 ∧ ((∃ b2 : Nat, cr S_1 355 x0 = some b2 ∧ (cA S_1 b2 10 ∧ (k_X10_kill (fun r_3 S_3 => 
  isZ r_3 ∧ (Q r_3 S_3)) dp b2 x1 S_1))))) ∧
 (¬ r_1 = (((-1))) →
  cA S_1 x0 11 ∧ ((∃ b4 : Nat, cr S_1 354 x0 = some b4 ∧ (cA S_1 b4 12 ∧ (k_Jx4a65c_remove_915e3 (fun r_5 S_5 => 
  Q ((bI true)) S_5) dp b4 r_1 S_1))))))) dp x0 x1 S)
set_option maxHeartbeats 1000000 in
set_option maxRecDepth 20000 in
theorem t_X11_dropKey (l : Launch) (x0 : Nat) (x1 : Int32) (S : cS) (dp : Nat) {P : Int32 → cS → Prop} (h : k_X11_dropKey P dp x0 x1 S) : cMet (cQi P) l yX11_dropKey cX11_dropKey 3 (some .boolean) 6 0 0 130 [.ref x0, .int x1] S dp := by
  intro D Y tp sz
  refine cg_body (by decide +kernel) (Nat.le_of_ble_eq_true rfl) ?_
  intro p e s m args below meth c C
  generalize va_A (cWd Y S) sz = A at C ⊢
  have C : cC p s m args meth c cX11_dropKey 3 (some .boolean) A D Y tp dp RX11 := C
  refine cg_lv (lv' := [(0, .ref x0), (1, .int x1)]) rfl ?_
  unfold k_X11_dropKey at h
  refine cg_aload_n C (i := 0) rfl 0 rfl dX11_dropKey_0 ?_
  refine cg_iload_n C (i := 1) rfl 1 rfl dX11_dropKey_1 ?_
  obtain ⟨hc_2, h⟩ := h
  refine cg_calli C (t_X11_bufferPlaceOf l x0 x1 S dp h) cc_X11_183 hc_2.1 hc_2.2 (by decide) rfl rfl ⟨by decide, by decide⟩ ⟨by decide, by decide⟩ rfl (Nat.le_of_ble_eq_true rfl) dX11_dropKey_2 (fun r_1 S_1 h => ?_)
  refine cg_istore_n C (i := 2) (lv' := [(2, .int r_1), (0, .ref x0), (1, .int x1)]) rfl (Nat.le_of_ble_eq_true rfl) rfl dX11_dropKey_5 ?_
  refine cg_iload_n C (i := 2) rfl 0 rfl dX11_dropKey_6 ?_
  refine cg_iconst C (x := (-1)) rfl dX11_dropKey_7 ?_
  refine cg_icmp_eq C 22 (by decide) dX11_dropKey_8 (fun c_ => ?_) (fun c_ => ?_)
  · have h := h.1 c_
    refine cg_aload_n C (i := 0) rfl 1 rfl dX11_dropKey_22 ?_
    obtain ⟨hc_23, h⟩ := h
    obtain ⟨b2, hb_b2, h⟩ := h
    refine cg_get C (k := 11) (j := 3) (.ref b2) hc_23.1 hc_23.2 (by decide) rfl (by decide) rfl (show cV _ 11 3 x0 = _ from congrArg va_rf hb_b2) cWs_wsX110 cl_X11_35 rfl dX11_dropKey_23 ?_
    refine cg_iload_n C (i := 1) rfl 2 rfl dX11_dropKey_26 ?_
    obtain ⟨hc_27, h⟩ := h
    refine cg_calli C (t_X10_kill l b2 x1 S_1 dp h) cc_X11_493 hc_27.1 hc_27.2 (by decide) rfl rfl ⟨by decide, by decide⟩ ⟨by decide, by decide⟩ rfl (Nat.le_of_ble_eq_true rfl) dX11_dropKey_27 (fun r_3 S_3 h => ?_)
    obtain ⟨hz_30, h⟩ := h
    exact cg_zret C (isZ_nar hz_30) h dX11_dropKey_30 (by decide) (by decide)
  · have h := h.2 c_
    refine cg_aload_n C (i := 0) rfl 1 rfl dX11_dropKey_11 ?_
    obtain ⟨hc_12, h⟩ := h
    obtain ⟨b4, hb_b4, h⟩ := h
    refine cg_get C (k := 11) (j := 2) (.ref b4) hc_12.1 hc_12.2 (by decide) rfl (by decide) rfl (show cV _ 11 2 x0 = _ from congrArg va_rf hb_b4) cWs_wsX110 cl_X11_26 rfl dX11_dropKey_12 ?_
    refine cg_iload_n C (i := 2) rfl 0 rfl dX11_dropKey_15 ?_
    obtain ⟨hc_16, h⟩ := h
    refine cg_callr C (t_Jx4a65c_remove_915e3 l b4 r_1 S_1 dp h) cc_X11_321 hc_16.1 hc_16.2 (by decide) rfl rfl ⟨by decide, by decide⟩ ⟨by decide, by decide⟩ rfl (Nat.le_of_ble_eq_true rfl) dX11_dropKey_16 (fun r_5 S_5 h => ?_)
    refine cg_pop C rfl dX11_dropKey_19 ?_
    refine cg_iconst C (x := nI 1) rfl dX11_dropKey_20 ?_
    refine cg_cast (.int (bI true)) rfl ?_
    exact cg_zret C (bI_nar _) h dX11_dropKey_21 (by decide) (by decide)
def k_X11_add_39 (Q : Int32 → cS → Prop) (dp : Nat) (mc ms : Nat)  (x0 : Nat) (x1 : Int32) (cd dd : Nat) (S : cS) : Prop :=
cA S x0 11 ∧ ((cd ≤ mc ∧ dd ≤ ms) ∧ (k_X11_dropKey (fun r_5 S_5 => 
cA S_5 x0 11 ∧ ((∃ b6 : Nat, cr S_5 352 x0 = some b6 ∧ (cA S_5 b6 3 ∧ (∀ S7 : cS, S7 = cSi S_5 104 b6 ((bI true)) → cA S7 x0 11 ∧ ((∃ b8 : Nat, cr S7 353 x0 = some b8 ∧ (cA S7 b8 0 ∧ (∀ S9 : cS, S9 = cSi S7 0 b8 x1 → cA S9 x0 11 ∧ ((∃ b10 : Nat, cr S9 352 x0 = some b10 ∧ (cA S9 x0 11 ∧ ((∃ b11 : Nat, cr S9 353 x0 = some b11 ∧ (cA S9 b11 0 ∧ ((cd ≤ mc ∧ dd ≤ ms) ∧ (k_X0_textOf (fun r_12 S_12 => 
cA S_12 b10 3 ∧ ((∃ mc13 ms14 : Nat, cd + mc13 ≤ mc ∧ dd + ms14 ≤ ms ∧ (k_X3_tokenise (fun S_15 => 
cA S_15 x0 11 ∧ ((∃ b16 : Nat, cr S_15 352 x0 = some b16 ∧ (cA S_15 x0 11 ∧ ((∃ b17 : Nat, cr S_15 353 x0 = some b17 ∧ (cA S_15 b17 0 ∧ ((cd + mc13 ≤ mc ∧ dd + ms14 ≤ ms) ∧ (k_X0_textOf (fun r_18 S_18 => 
cA S_18 b16 3 ∧ ((∃ mc19 ms20 : Nat, cd + mc13 + mc19 ≤ mc ∧ dd + ms14 + ms20 ≤ ms ∧ (k_X3_tokenise (fun S_21 => 
cA S_21 x0 11 ∧ ((∃ b22 : Nat, cr S_21 354 x0 = some b22 ∧ (cA S_21 x0 11 ∧ ((∃ b23 : Nat, cr S_21 353 x0 = some b23 ∧ (cA S_21 b22 12 ∧ ((∃ mc24 ms25 : Nat, cd + mc13 + mc19 + mc24 ≤ mc ∧ dd + ms14 + ms20 + ms25 ≤ ms ∧ (k_Jx4a65c_add_9ea2d (fun r_26 S_26 => 
(cd + mc13 + mc19 + mc24 + 1 ≤ mc ∧ dd + ms14 + ms20 + ms25 + 5 ≤ ms) ∧ (∀ q27 : Nat, q27 ∉ cL S_26 → ∀ S28 : cS, S28 = cNew S_26 q27 0 → (∃ mc29 ms30 : Nat, cd + mc13 + mc19 + mc24 + 1 + mc29 ≤ mc ∧ dd + ms14 + ms20 + ms25 + 5 + ms30 ≤ ms ∧ (k_X0_init (fun S_31 => 
cA S_31 x0 11 ∧ (∀ S32 : cS, S32 = cSr S_31 353 x0 ((some q27)) → cA S32 x0 11 ∧ ((∃ b33 : Nat, cr S32 354 x0 = some b33 ∧ (cA S32 b33 12 ∧ ((cd + mc13 + mc19 + mc24 + 1 + mc29 ≤ mc ∧ dd + ms14 + ms20 + ms25 + 5 + ms30 ≤ ms) ∧ (k_Jx4a65c_size_8abf5 (fun r_34 S_34 => 
(cd + mc13 + mc19 + mc24 + 1 + mc29 ≤ mc ∧ dd + ms14 + ms20 + ms25 + 5 + ms30 ≤ ms) ∧ (Q r_34 S_34)) dp b33 S32))))))) dp mc29 ms30 q27 S28)))) dp mc24 ms25 b22 b23 S_21)))))))))) dp mc19 ms20 b16 r_18 ((nI 1)) S_18)))) dp b17 ((nI 1)) S_15))))))))) dp mc13 ms14 b10 r_12 ((nI 1)) S_12)))) dp b11 ((nI 0)) S9))))))))))))))))) dp x0 x1 S))
def k_X11_add (Q : Int32 → cS → Prop) (dp : Nat) (mc ms : Nat) (x0 : Nat) (x1 : Int32) (S : cS) : Prop :=
(0 ≤ mc ∧ 0 ≤ ms) ∧ (k_X11_checkKey (fun S_1 => 
cA S_1 x0 11 ∧ ((0 ≤ mc ∧ 0 ≤ ms) ∧ (k_X11_checkUp (fun S_2 => 
cA S_2 x0 11 ∧ ((∃ b3 : Nat, cr S_2 354 x0 = some b3 ∧ (cA S_2 b3 12 ∧ ((0 ≤ mc ∧ 0 ≤ ms) ∧ (k_Jx4a65c_size_8abf5 (fun r_4 S_4 => 
((r_4 < ((nI 12)) →
  k_X11_add_39 Q dp mc ms  x0 x1 0 0 S_4) ∧
 (¬ r_4 < ((nI 12)) →
  cA S_4 x0 11 ∧ ((0 ≤ mc ∧ 0 ≤ ms) ∧ (k_X11_bufferPlaceOf (fun r_35 S_35 => 
  ((¬ r_35 = (((-1))) →
    k_X11_add_39 Q dp mc ms  x0 x1 0 0 S_35) ∧
   (r_35 = (((-1))) →
    False))) dp x0 x1 S_4))))) dp b3 S_2)))))) dp x0 S_1))) dp x1 S)
section S_X11_add
variable {p : Program} {l : Launch} {e : Env} {s : State} {m : MethodId} {args : Array Value} {below : List Frame} {meth : Method} {c : Code} {A : Nat → Prop} {D : va_G} {Y : cY} {tp dp : Nat}
set_option maxRecDepth 20000 in
theorem tb_X11_add_39 {mc ms : Nat} (C : cC p s m args meth c cX11_add 2 (some .int) A D Y tp dp RX11) {post : Int32 → cS → Prop}   (x0 : Nat) (x1 : Int32) (cd dd : Nat) (S : cS) (h : k_X11_add_39 post dp mc ms  x0 x1 cd dd S) : cG p l e (cRm 8 mc ms 188) s m args below meth c A D Y 2 (MQ below (cQi post D Y A) args s mc ms A) cd dd 39 [(0, .ref x0), (1, .int x1)] [] S := by
  unfold k_X11_add_39 at h
  refine cg_aload_n C (i := 0) rfl 0 rfl dX11_add_39 ?_
  refine cg_iload_n C (i := 1) rfl 1 rfl dX11_add_40 ?_
  obtain ⟨hc_41, h⟩ := h
  obtain ⟨hb_41, h⟩ := h
  refine cg_calli C (t_X11_dropKey l x0 x1 S dp h) cc_X11_189 hc_41.1 hc_41.2 (by decide) rfl rfl ⟨by decide, by decide⟩ hb_41 rfl (Nat.le_of_ble_eq_true rfl) dX11_add_41 (fun r_5 S_5 h => ?_)
  simp only [Nat.add_zero]
  refine cg_pop C rfl dX11_add_44 ?_
  refine cg_aload_n C (i := 0) rfl 0 rfl dX11_add_45 ?_
  obtain ⟨hc_46, h⟩ := h
  obtain ⟨b6, hb_b6, h⟩ := h
  refine cg_get C (k := 11) (j := 0) (.ref b6) hc_46.1 hc_46.2 (by decide) rfl (by decide) rfl (show cV _ 11 0 x0 = _ from congrArg va_rf hb_b6) cWs_wsX110 cl_X11_10 rfl dX11_add_46 ?_
  refine cg_iconst C (x := nI 1) rfl dX11_add_49 ?_
  obtain ⟨hc_50, h⟩ := h
  refine cg_cast (.int (bI true)) rfl ?_
  refine cg_puti C (k := 3) (j := 8) (ty := tyX3) (fty := .boolean) hc_50.1 hc_50.2 (by decide) rfl (by decide) rfl (by decide) rfl cWs_wsX30 tyX3_ok nmX3 cl_X11_136 rfl rfl rfl (bI_nar _) (bI_fit _) dX11_add_50 ?_
  refine cg_nm (fun S7 e_S7 => ?_)
  have h := h S7 e_S7
  refine cg_aload_n C (i := 0) rfl 0 rfl dX11_add_53 ?_
  obtain ⟨hc_54, h⟩ := h
  obtain ⟨b8, hb_b8, h⟩ := h
  refine cg_get C (k := 11) (j := 1) (.ref b8) hc_54.1 hc_54.2 (by decide) rfl (by decide) rfl (show cV _ 11 1 x0 = _ from congrArg va_rf hb_b8) cWs_wsX110 cl_X11_19 rfl dX11_add_54 ?_
  refine cg_iload_n C (i := 1) rfl 1 rfl dX11_add_57 ?_
  obtain ⟨hc_58, h⟩ := h
  refine cg_puti C (k := 0) (j := 0) (ty := tyX0) (fty := .int) hc_58.1 hc_58.2 (by decide) rfl (by decide) rfl (by decide) rfl cWs_wsX00 tyX0_ok nmX0 cl_X11_193 rfl rfl rfl rfl rfl dX11_add_58 ?_
  refine cg_nm (fun S9 e_S9 => ?_)
  have h := h S9 e_S9
  refine cg_aload_n C (i := 0) rfl 0 rfl dX11_add_61 ?_
  obtain ⟨hc_62, h⟩ := h
  obtain ⟨b10, hb_b10, h⟩ := h
  refine cg_get C (k := 11) (j := 0) (.ref b10) hc_62.1 hc_62.2 (by decide) rfl (by decide) rfl (show cV _ 11 0 x0 = _ from congrArg va_rf hb_b10) cWs_wsX110 cl_X11_10 rfl dX11_add_62 ?_
  refine cg_aload_n C (i := 0) rfl 0 rfl dX11_add_65 ?_
  obtain ⟨hc_66, h⟩ := h
  obtain ⟨b11, hb_b11, h⟩ := h
  refine cg_get C (k := 11) (j := 1) (.ref b11) hc_66.1 hc_66.2 (by decide) rfl (by decide) rfl (show cV _ 11 1 x0 = _ from congrArg va_rf hb_b11) cWs_wsX110 cl_X11_19 rfl dX11_add_66 ?_
  refine cg_iconst C (x := nI 0) rfl dX11_add_69 ?_
  obtain ⟨hc_70, h⟩ := h
  obtain ⟨hb_70, h⟩ := h
  refine cg_callr C (t_X0_textOf l b11 ((nI 0)) S9 dp h) cc_X11_196 hc_70.1 hc_70.2 (by decide) rfl rfl ⟨by decide, by decide⟩ hb_70 rfl (Nat.le_of_ble_eq_true rfl) dX11_add_70 (fun r_12 S_12 h => ?_)
  simp only [Nat.add_zero]
  refine cg_iconst C (x := nI 1) rfl dX11_add_73 ?_
  obtain ⟨hc_74, h⟩ := h
  obtain ⟨mc13, ms14, hm_1, hm_2, h⟩ := h
  refine cg_callv C (t_X3_tokenise l mc13 ms14 b10 r_12 ((nI 1)) S_12 dp h) cc_X11_155 hc_74.1 hc_74.2 (by decide) rfl rfl ⟨by decide, by decide⟩ ⟨hm_1, hm_2⟩ rfl (Nat.le_of_ble_eq_true rfl) dX11_add_74 (fun S_15 h => ?_)
  refine cg_aload_n C (i := 0) rfl 0 rfl dX11_add_77 ?_
  obtain ⟨hc_78, h⟩ := h
  obtain ⟨b16, hb_b16, h⟩ := h
  refine cg_get C (k := 11) (j := 0) (.ref b16) hc_78.1 hc_78.2 (by decide) rfl (by decide) rfl (show cV _ 11 0 x0 = _ from congrArg va_rf hb_b16) cWs_wsX110 cl_X11_10 rfl dX11_add_78 ?_
  refine cg_aload_n C (i := 0) rfl 0 rfl dX11_add_81 ?_
  obtain ⟨hc_82, h⟩ := h
  obtain ⟨b17, hb_b17, h⟩ := h
  refine cg_get C (k := 11) (j := 1) (.ref b17) hc_82.1 hc_82.2 (by decide) rfl (by decide) rfl (show cV _ 11 1 x0 = _ from congrArg va_rf hb_b17) cWs_wsX110 cl_X11_19 rfl dX11_add_82 ?_
  refine cg_iconst C (x := nI 1) rfl dX11_add_85 ?_
  obtain ⟨hc_86, h⟩ := h
  obtain ⟨hb_86, h⟩ := h
  refine cg_callr C (t_X0_textOf l b17 ((nI 1)) S_15 dp h) cc_X11_196 hc_86.1 hc_86.2 (by decide) rfl rfl ⟨by decide, by decide⟩ hb_86 rfl (Nat.le_of_ble_eq_true rfl) dX11_add_86 (fun r_18 S_18 h => ?_)
  simp only [Nat.add_zero]
  refine cg_iconst C (x := nI 1) rfl dX11_add_89 ?_
  obtain ⟨hc_90, h⟩ := h
  obtain ⟨mc19, ms20, hm_1, hm_2, h⟩ := h
  refine cg_callv C (t_X3_tokenise l mc19 ms20 b16 r_18 ((nI 1)) S_18 dp h) cc_X11_155 hc_90.1 hc_90.2 (by decide) rfl rfl ⟨by decide, by decide⟩ ⟨hm_1, hm_2⟩ rfl (Nat.le_of_ble_eq_true rfl) dX11_add_90 (fun S_21 h => ?_)
  refine cg_aload_n C (i := 0) rfl 0 rfl dX11_add_93 ?_
  obtain ⟨hc_94, h⟩ := h
  obtain ⟨b22, hb_b22, h⟩ := h
  refine cg_get C (k := 11) (j := 2) (.ref b22) hc_94.1 hc_94.2 (by decide) rfl (by decide) rfl (show cV _ 11 2 x0 = _ from congrArg va_rf hb_b22) cWs_wsX110 cl_X11_26 rfl dX11_add_94 ?_
  refine cg_aload_n C (i := 0) rfl 0 rfl dX11_add_97 ?_
  obtain ⟨hc_98, h⟩ := h
  obtain ⟨b23, hb_b23, h⟩ := h
  refine cg_get C (k := 11) (j := 1) (.ref b23) hc_98.1 hc_98.2 (by decide) rfl (by decide) rfl (show cV _ 11 1 x0 = _ from congrArg va_rf hb_b23) cWs_wsX110 cl_X11_19 rfl dX11_add_98 ?_
  obtain ⟨hc_101, h⟩ := h
  obtain ⟨mc24, ms25, hm_1, hm_2, h⟩ := h
  refine cg_calli C (t_Jx4a65c_add_9ea2d l mc24 ms25 b22 b23 S_21 dp h) cc_X11_200 hc_101.1 hc_101.2 (by decide) rfl rfl ⟨by decide, by decide⟩ ⟨hm_1, hm_2⟩ rfl (Nat.le_of_ble_eq_true rfl) dX11_add_101 (fun r_26 S_26 h => ?_)
  refine cg_pop C rfl dX11_add_104 ?_
  refine cg_aload_n C (i := 0) rfl 0 rfl dX11_add_105 ?_
  obtain ⟨hc_106, h⟩ := h
  refine cg_new C (k := 0) (N := 5) (fs := [.int 0, .int 0, .int 0, .null, .null]) (by decide) rfl cWs_wsX00 tyX0_ok cn_X11_16 ci_X0 ct_X0 (fun j_ hj_ => by rcases (show j_ = 0 ∨ j_ = 1 ∨ j_ = 2 ∨ j_ = 3 ∨ j_ = 4 by omega) with rfl | rfl | rfl | rfl | rfl <;> rfl) rfl hc_106.1 hc_106.2 dX11_add_106 (fun q27 hf_q27 => ?_)
  have h := h q27 hf_q27
  refine cg_nm (fun S28 e_S28 => ?_)
  have h := h S28 e_S28
  refine cg_dup C rfl dX11_add_109 ?_
  obtain ⟨mc29, ms30, hm_1, hm_2, h⟩ := h
  refine cg_callIN C (t_X0_init l mc29 ms30 q27 S28 dp h) czn_X11_18 rfl ⟨by decide, by decide⟩ ⟨hm_1, hm_2⟩ rfl (Nat.le_of_ble_eq_true rfl) dX11_add_110 (fun S_31 h => ?_)
  obtain ⟨hc_113, h⟩ := h
  refine cg_putr C (k := 11) (j := 1) (x := (some q27)) (ty := tyX11) (fty := tyX11 1) hc_113.1 hc_113.2 (by decide) rfl (by decide) rfl (by decide) rfl cWs_wsX110 tyX11_ok nmX11 cl_X11_19 rfl rfl rfl rfl rfl dX11_add_113 ?_
  refine cg_nm (fun S32 e_S32 => ?_)
  have h := h S32 e_S32
  refine cg_aload_n C (i := 0) rfl 0 rfl dX11_add_116 ?_
  obtain ⟨hc_117, h⟩ := h
  obtain ⟨b33, hb_b33, h⟩ := h
  refine cg_get C (k := 11) (j := 2) (.ref b33) hc_117.1 hc_117.2 (by decide) rfl (by decide) rfl (show cV _ 11 2 x0 = _ from congrArg va_rf hb_b33) cWs_wsX110 cl_X11_26 rfl dX11_add_117 ?_
  obtain ⟨hc_120, h⟩ := h
  obtain ⟨hb_120, h⟩ := h
  refine cg_calli C (t_Jx4a65c_size_8abf5 l b33 S32 dp h) cc_X11_180 hc_120.1 hc_120.2 (by decide) rfl rfl ⟨by decide, by decide⟩ hb_120 rfl (Nat.le_of_ble_eq_true rfl) dX11_add_120 (fun r_34 S_34 h => ?_)
  simp only [Nat.add_zero]
  obtain ⟨hb_123, h⟩ := h
  exact cg_iret C h dX11_add_123 hb_123.1 hb_123.2
end S_X11_add
set_option maxHeartbeats 1000000 in
set_option maxRecDepth 20000 in
theorem t_X11_add (l : Launch) (mc ms : Nat) (x0 : Nat) (x1 : Int32) (S : cS) (dp : Nat) {P : Int32 → cS → Prop} (h : k_X11_add P dp mc ms x0 x1 S) : cMet (cQi P) l yX11_add cX11_add 2 (some .int) 8 mc ms 188 [.ref x0, .int x1] S dp := by
  intro D Y tp sz
  refine cg_body (by decide +kernel) (Nat.le_of_ble_eq_true rfl) ?_
  intro p e s m args below meth c C
  generalize va_A (cWd Y S) sz = A at C ⊢
  have C : cC p s m args meth c cX11_add 2 (some .int) A D Y tp dp RX11 := C
  refine cg_lv (lv' := [(0, .ref x0), (1, .int x1)]) rfl ?_
  unfold k_X11_add at h
  refine cg_iload_n C (i := 1) rfl 1 rfl dX11_add_0 ?_
  obtain ⟨hb_1, h⟩ := h
  refine cg_callsv C (t_X11_checkKey l x1 S dp h) cc_X11_174 rfl ⟨by decide, by decide⟩ hb_1 rfl (Nat.le_of_ble_eq_true rfl) dX11_add_1 (fun S_1 h => ?_)
  simp only [Nat.add_zero]
  refine cg_aload_n C (i := 0) rfl 0 rfl dX11_add_4 ?_
  obtain ⟨hc_5, h⟩ := h
  obtain ⟨hb_5, h⟩ := h
  refine cg_callv C (t_X11_checkUp l x0 S_1 dp h) cc_X11_177 hc_5.1 hc_5.2 (by decide) rfl rfl ⟨by decide, by decide⟩ hb_5 rfl (Nat.le_of_ble_eq_true rfl) dX11_add_5 (fun S_2 h => ?_)
  simp only [Nat.add_zero]
  refine cg_aload_n C (i := 0) rfl 0 rfl dX11_add_8 ?_
  obtain ⟨hc_9, h⟩ := h
  obtain ⟨b3, hb_b3, h⟩ := h
  refine cg_get C (k := 11) (j := 2) (.ref b3) hc_9.1 hc_9.2 (by decide) rfl (by decide) rfl (show cV _ 11 2 x0 = _ from congrArg va_rf hb_b3) cWs_wsX110 cl_X11_26 rfl dX11_add_9 ?_
  obtain ⟨hc_12, h⟩ := h
  obtain ⟨hb_12, h⟩ := h
  refine cg_calli C (t_Jx4a65c_size_8abf5 l b3 S_2 dp h) cc_X11_180 hc_12.1 hc_12.2 (by decide) rfl rfl ⟨by decide, by decide⟩ hb_12 rfl (Nat.le_of_ble_eq_true rfl) dX11_add_12 (fun r_4 S_4 h => ?_)
  simp only [Nat.add_zero]
  refine cg_bipush C (x := nI 12) rfl dX11_add_15 ?_
  refine cg_icmp_lt C 39 (by decide) dX11_add_17 (fun c_ => ?_) (fun c_ => ?_)
  · have h := h.1 c_
    exact cg_sub [0, 1] rfl (tb_X11_add_39 C   x0 x1 0 0 S_4 h)
  · have h := h.2 c_
    refine cg_aload_n C (i := 0) rfl 0 rfl dX11_add_20 ?_
    refine cg_iload_n C (i := 1) rfl 1 rfl dX11_add_21 ?_
    obtain ⟨hc_22, h⟩ := h
    obtain ⟨hb_22, h⟩ := h
    refine cg_calli C (t_X11_bufferPlaceOf l x0 x1 S_4 dp h) cc_X11_183 hc_22.1 hc_22.2 (by decide) rfl rfl ⟨by decide, by decide⟩ hb_22 rfl (Nat.le_of_ble_eq_true rfl) dX11_add_22 (fun r_35 S_35 h => ?_)
    simp only [Nat.add_zero]
    refine cg_iconst C (x := (-1)) rfl dX11_add_25 ?_
    refine cg_icmp_ne C 39 (by decide) dX11_add_26 (fun c_ => ?_) (fun c_ => ?_)
    · have h := h.1 c_
      exact cg_sub [0, 1] rfl (tb_X11_add_39 C   x0 x1 0 0 S_35 h)
    · have h := h.2 c_
      exact h.elim
def k_X11_delete (Q : Int32 → cS → Prop) (dp : Nat) (x0 : Nat) (x1 : Int32) (S : cS) : Prop :=
k_X11_checkKey (fun S_1 => 
cA S_1 x0 11 ∧ (k_X11_checkUp (fun S_2 => 
cA S_2 x0 11 ∧ (k_X11_dropKey (fun r_3 S_3 => 
isZ r_3 ∧ (Q r_3 S_3)) dp x0 x1 S_2)) dp x0 S_1)) dp x1 S
set_option maxHeartbeats 1000000 in
set_option maxRecDepth 20000 in
theorem t_X11_delete (l : Launch) (x0 : Nat) (x1 : Int32) (S : cS) (dp : Nat) {P : Int32 → cS → Prop} (h : k_X11_delete P dp x0 x1 S) : cMet (cQi P) l yX11_delete cX11_delete 2 (some .boolean) 7 0 0 152 [.ref x0, .int x1] S dp := by
  intro D Y tp sz
  refine cg_body (by decide +kernel) (Nat.le_of_ble_eq_true rfl) ?_
  intro p e s m args below meth c C
  generalize va_A (cWd Y S) sz = A at C ⊢
  have C : cC p s m args meth c cX11_delete 2 (some .boolean) A D Y tp dp RX11 := C
  refine cg_lv (lv' := [(0, .ref x0), (1, .int x1)]) rfl ?_
  unfold k_X11_delete at h
  refine cg_iload_n C (i := 1) rfl 1 rfl dX11_delete_0 ?_
  refine cg_callsv C (t_X11_checkKey l x1 S dp h) cc_X11_174 rfl ⟨by decide, by decide⟩ ⟨by decide, by decide⟩ rfl (Nat.le_of_ble_eq_true rfl) dX11_delete_1 (fun S_1 h => ?_)
  refine cg_aload_n C (i := 0) rfl 0 rfl dX11_delete_4 ?_
  obtain ⟨hc_5, h⟩ := h
  refine cg_callv C (t_X11_checkUp l x0 S_1 dp h) cc_X11_177 hc_5.1 hc_5.2 (by decide) rfl rfl ⟨by decide, by decide⟩ ⟨by decide, by decide⟩ rfl (Nat.le_of_ble_eq_true rfl) dX11_delete_5 (fun S_2 h => ?_)
  refine cg_aload_n C (i := 0) rfl 0 rfl dX11_delete_8 ?_
  refine cg_iload_n C (i := 1) rfl 1 rfl dX11_delete_9 ?_
  obtain ⟨hc_10, h⟩ := h
  refine cg_calli C (t_X11_dropKey l x0 x1 S_2 dp h) cc_X11_189 hc_10.1 hc_10.2 (by decide) rfl rfl ⟨by decide, by decide⟩ ⟨by decide, by decide⟩ rfl (Nat.le_of_ble_eq_true rfl) dX11_delete_10 (fun r_3 S_3 h => ?_)
  obtain ⟨hz_13, h⟩ := h
  exact cg_zret C (isZ_nar hz_13) h dX11_delete_13 (by decide) (by decide)
def k_Jx4a65c_isEmpty_aae02 (Q : Int32 → cS → Prop) (dp : Nat) (x0 : Nat) (S : cS) : Prop :=
cA S x0 12 ∧ (((¬ ((ci S 386 x0)) = 0 →
  Q ((bI false)) S) ∧
 (((ci S 386 x0)) = 0 →
  Q ((bI true)) S)))
set_option maxHeartbeats 1000000 in
set_option maxRecDepth 20000 in
theorem t_Jx4a65c_isEmpty_aae02 (l : Launch) (x0 : Nat) (S : cS) (dp : Nat) {P : Int32 → cS → Prop} (h : k_Jx4a65c_isEmpty_aae02 P dp x0 S) : cMet (cQi P) l yJx4a65c_isEmpty_aae02 cJx4a65c_isEmpty_aae02 1 (some .boolean) 0 0 0 0 [.ref x0] S dp := by
  intro D Y tp sz
  refine cg_body (by decide +kernel) (Nat.le_of_ble_eq_true rfl) ?_
  intro p e s m args below meth c C
  generalize va_A (cWd Y S) sz = A at C ⊢
  have C : cC p s m args meth c cJx4a65c_isEmpty_aae02 1 (some .boolean) A D Y tp dp RJx4a65c := C
  refine cg_lv (lv' := [(0, .ref x0)]) rfl ?_
  unfold k_Jx4a65c_isEmpty_aae02 at h
  refine cg_aload_n C (i := 0) rfl 0 rfl dJx4a65c_isEmpty_aae02_0 ?_
  obtain ⟨hc_1, h⟩ := h
  refine cg_get C (k := 12) (j := 2) (.int (ci S 386 x0)) hc_1.1 hc_1.2 (by decide) rfl (by decide) rfl rfl cWs_wsJx4a65c0 cl_Jx4a65c_48 rfl dJx4a65c_isEmpty_aae02_1 ?_
  refine cg_if_ne C 11 (by decide) dJx4a65c_isEmpty_aae02_4 (fun c_ => ?_) (fun c_ => ?_)
  · have h := h.1 c_
    refine cg_iconst C (x := nI 0) rfl dJx4a65c_isEmpty_aae02_11 ?_
    refine cg_cast (.int (bI false)) rfl ?_
    exact cg_zret C (bI_nar _) h dJx4a65c_isEmpty_aae02_12 (by decide) (by decide)
  · have h := h.2 c_
    refine cg_iconst C (x := nI 1) rfl dJx4a65c_isEmpty_aae02_7 ?_
    refine cg_goto C 12 (by decide) dJx4a65c_isEmpty_aae02_8 ?_
    refine cg_cast (.int (bI true)) rfl ?_
    exact cg_zret C (bI_nar _) h dJx4a65c_isEmpty_aae02_12 (by decide) (by decide)
def k_Jx4a65c_clear_da8c8_27 (Q : cS → Prop) (dp : Nat) (R27 : Nat → Int32 → Int32 → cS → Prop) (x1 : Nat) (x2 : Int32) (x3 : Int32) (S : cS) : Prop :=
((x1 = dp →
  ((x2 ≤ x3 →
    Q S) ∧
   (¬ x2 ≤ x3 →
    False))) ∧
 (¬ x1 = dp →
  ((x2 ≤ x3 →
    Q S) ∧
   (¬ x2 ≤ x3 →
    cX S x1 17 x3 ∧ (∀ S5 : cS, S5 = cSO S x1 (x3).toNatClampNeg none → ∀ x3_6 : Int32, x3_6 = x3 + nI 1 → R27 x1 x2 x3_6 S5)))))
def k_Jx4a65c_clear_da8c8_27L (Q : cS → Prop) (dp : Nat)  (x1 : Nat) (x2 : Int32) (x3 : Int32) (S : cS) : Prop :=
  lfp (X := Nat × Int32 × Int32 × cS) (fun P y => k_Jx4a65c_clear_da8c8_27 Q dp  (fun b0 b1 b2 S => P (b0, b1, b2, S)) y.1 y.2.1 y.2.2.1 y.2.2.2) (x1, x2, x3, S)
def k_Jx4a65c_clear_da8c8 (Q : cS → Prop) (dp : Nat) (x0 : Nat) (S : cS) : Prop :=
cA S x0 12 ∧ (cA S x0 12 ∧ (∀ S1 : cS, S1 = cSi S 384 x0 ((((ci S 384 x0)) + ((nI 1)))) → cA S1 x0 12 ∧ ((∃ b2 : Nat, cr S1 385 x0 = some b2 ∧ (((b2 = dp →
  cA S1 x0 12 ∧ (∀ x2_3 : Int32, x2_3 = (ci S1 386 x0) → cA S1 x0 12 ∧ (∀ S4 : cS, S4 = cSi S1 386 x0 ((nI 0)) → k_Jx4a65c_clear_da8c8_27L Q dp  dp x2_3 (((nI 0))) S4))) ∧
 (¬ b2 = dp →
  cA S1 x0 12 ∧ (∀ x2_7 : Int32, x2_7 = (ci S1 386 x0) → cA S1 x0 12 ∧ (∀ S8 : cS, S8 = cSi S1 386 x0 ((nI 0)) → k_Jx4a65c_clear_da8c8_27L Q dp  b2 x2_7 (((nI 0))) S8)))))))))
section S_Jx4a65c_clear_da8c8
variable {p : Program} {l : Launch} {e : Env} {s : State} {m : MethodId} {args : Array Value} {below : List Frame} {meth : Method} {c : Code} {A : Nat → Prop} {D : va_G} {Y : cY} {tp dp : Nat}
set_option maxRecDepth 20000 in
theorem tb_Jx4a65c_clear_da8c8_27 (C : cC p s m args meth c cJx4a65c_clear_da8c8 4 none A D Y tp dp RJx4a65c) {post : cS → Prop} {R27 : Nat → Int32 → Int32 → cS → Prop} (hR27 : ∀ (x1 : Nat) (x2 : Int32) (x3 : Int32) (S : cS), R27 x1 x2 x3 S → cG p l e (cRm 0 0 0 0) s m args below meth c A D Y 4 (MQ below (cQv post D Y A) args s 0 0 A) 0 0 27 [(1, .ref x1), (2, .int x2), (3, .int x3)] [] S) (x1 : Nat) (x2 : Int32) (x3 : Int32) (S : cS) (h : k_Jx4a65c_clear_da8c8_27 post dp R27 x1 x2 x3 S) : cG p l e (cRm 0 0 0 0) s m args below meth c A D Y 4 (MQ below (cQv post D Y A) args s 0 0 A) 0 0 27 [(1, .ref x1), (2, .int x2), (3, .int x3)] [] S := by
  unfold k_Jx4a65c_clear_da8c8_27 at h
  by_cases hd : x1 = dp
  · have h := h.1 hd
    refine cg_lv (lv' := [(1, .ref dp), (2, .int x2), (3, .int x3)]) (by rw [hd]) ?_
    refine cg_st (st' := []) (by first | rfl | rw [hd]) ?_
    refine cg_iload_n C (i := 3) rfl 2 rfl dJx4a65c_clear_da8c8_27 ?_
    refine cg_iload_n C (i := 2) rfl 1 rfl dJx4a65c_clear_da8c8_28 ?_
    refine cg_icmp_ge C 42 (by decide) dJx4a65c_clear_da8c8_29 (fun c_ => ?_) (fun c_ => ?_)
    · have h := h.1 c_
      exact cg_vret C h dJx4a65c_clear_da8c8_42 (by decide) (by decide)
    · have h := h.2 c_
      refine cg_aload_n C (i := 1) rfl 0 rfl dJx4a65c_clear_da8c8_32 ?_
      refine cg_iload_n C (i := 3) rfl 2 rfl dJx4a65c_clear_da8c8_33 ?_
      refine cg_null C dJx4a65c_clear_da8c8_34 ?_
      exact h.elim
  · have h := h.2 hd
    refine cg_iload_n C (i := 3) rfl 2 rfl dJx4a65c_clear_da8c8_27 ?_
    refine cg_iload_n C (i := 2) rfl 1 rfl dJx4a65c_clear_da8c8_28 ?_
    refine cg_icmp_ge C 42 (by decide) dJx4a65c_clear_da8c8_29 (fun c_ => ?_) (fun c_ => ?_)
    · have h := h.1 c_
      exact cg_vret C h dJx4a65c_clear_da8c8_42 (by decide) (by decide)
    · have h := h.2 c_
      refine cg_aload_n C (i := 1) rfl 0 rfl dJx4a65c_clear_da8c8_32 ?_
      refine cg_iload_n C (i := 3) rfl 2 rfl dJx4a65c_clear_da8c8_33 ?_
      refine cg_null C dJx4a65c_clear_da8c8_34 ?_
      obtain ⟨hc_35, h⟩ := h
      refine cg_aastoreN C hc_35 dJx4a65c_clear_da8c8_35 ?_
      refine cg_nm (fun S5 e_S5 => ?_)
      have h := h S5 e_S5
      obtain ⟨x3_6, e_x3_6⟩ : ∃ z : Int32, z = x3 + nI 1 := ⟨_, rfl⟩
      have h := h x3_6 e_x3_6
      refine cg_iinc C (lv' := [(3, .int x3_6), (1, .ref x1), (2, .int x2)]) 2 rfl (by rw [e_x3_6]; rfl) (Nat.le_of_ble_eq_true rfl) rfl dJx4a65c_clear_da8c8_36 ?_
      refine cg_goto C 27 (by decide) dJx4a65c_clear_da8c8_39 ?_
      exact cg_sub [1, 2, 0] rfl (hR27 x1 x2 x3_6 S5 h)
set_option maxRecDepth 20000 in
theorem tl_Jx4a65c_clear_da8c8_27 (C : cC p s m args meth c cJx4a65c_clear_da8c8 4 none A D Y tp dp RJx4a65c) {post : cS → Prop}   (x1 : Nat) (x2 : Int32) (x3 : Int32) (S : cS) (h : k_Jx4a65c_clear_da8c8_27L post dp  x1 x2 x3 S) : cG p l e (cRm 0 0 0 0) s m args below meth c A D Y 4 (MQ below (cQv post D Y A) args s 0 0 A) 0 0 27 [(1, .ref x1), (2, .int x2), (3, .int x3)] [] S :=
  h (fun y => cG p l e (cRm 0 0 0 0) s m args below meth c A D Y 4 (MQ below (cQv post D Y A) args s 0 0 A) 0 0 27 [(1, .ref (y.1)), (2, .int (y.2.1)), (3, .int (y.2.2.1))] [] (y.2.2.2)) (fun y hy => tb_Jx4a65c_clear_da8c8_27 C   (fun b0 b1 b2 S z => z) (y.1) (y.2.1) (y.2.2.1) (y.2.2.2) hy)
end S_Jx4a65c_clear_da8c8
set_option maxHeartbeats 1000000 in
set_option maxRecDepth 20000 in
theorem t_Jx4a65c_clear_da8c8 (l : Launch) (x0 : Nat) (S : cS) (dp : Nat) {P : cS → Prop} (h : k_Jx4a65c_clear_da8c8 P dp x0 S) : cMet (cQv P) l yJx4a65c_clear_da8c8 cJx4a65c_clear_da8c8 4 none 0 0 0 0 [.ref x0] S dp := by
  intro D Y tp sz
  refine cg_body (by decide +kernel) (Nat.le_of_ble_eq_true rfl) ?_
  intro p e s m args below meth c C
  generalize va_A (cWd Y S) sz = A at C ⊢
  have C : cC p s m args meth c cJx4a65c_clear_da8c8 4 none A D Y tp dp RJx4a65c := C
  refine cg_lv (lv' := [(0, .ref x0)]) rfl ?_
  unfold k_Jx4a65c_clear_da8c8 at h
  refine cg_aload_n C (i := 0) rfl 0 rfl dJx4a65c_clear_da8c8_0 ?_
  refine cg_dup C rfl dJx4a65c_clear_da8c8_1 ?_
  obtain ⟨hc_2, h⟩ := h
  refine cg_getS C (k := 12) (j := 0) (.int (ci S 384 x0)) hc_2.1 hc_2.2 (by decide) rfl (by decide) rfl rfl cWs_wsJx4a65c0 cl_mod12 (Or.inr csf_mod) dJx4a65c_clear_da8c8_2 ?_
  refine cg_iconst C (x := nI 1) rfl dJx4a65c_clear_da8c8_5 ?_
  refine cg_iadd C dJx4a65c_clear_da8c8_6 ?_
  obtain ⟨hc_7, h⟩ := h
  refine cg_putiS C (k := 12) (j := 0) (ty := tyJx4a65c) (fty := .int) hc_7.1 hc_7.2 (by decide) rfl (by decide) rfl (by decide) rfl cWs_wsJx4a65c0 tyJx4a65c_ok nmJx4a65c cl_mod12 (Or.inr csf_mod) rfl rfl rfl rfl dJx4a65c_clear_da8c8_7 ?_
  refine cg_nm (fun S1 e_S1 => ?_)
  have h := h S1 e_S1
  refine cg_aload_n C (i := 0) rfl 0 rfl dJx4a65c_clear_da8c8_10 ?_
  obtain ⟨hc_11, h⟩ := h
  obtain ⟨b2, hb_b2, h⟩ := h
  by_cases hd : b2 = dp
  · have h := h.1 hd
    refine cg_get C (k := 12) (j := 1) (.ref dp) hc_11.1 hc_11.2 (by decide) rfl (by decide) rfl (show cV _ 12 1 x0 = _ from congrArg va_rf (hb_b2.trans (congrArg some hd))) cWs_wsJx4a65c0 cl_Jx4a65c_9 rfl dJx4a65c_clear_da8c8_11 ?_
    refine cg_astore_n (lv' := [(1, .ref dp), (0, .ref x0)]) C (i := 1) rfl (Nat.le_of_ble_eq_true rfl) rfl dJx4a65c_clear_da8c8_14 ?_
    refine cg_aload_n C (i := 0) rfl 1 rfl dJx4a65c_clear_da8c8_15 ?_
    obtain ⟨hc_16, h⟩ := h
    refine cg_get C (k := 12) (j := 2) (.int (ci S1 386 x0)) hc_16.1 hc_16.2 (by decide) rfl (by decide) rfl rfl cWs_wsJx4a65c0 cl_Jx4a65c_48 rfl dJx4a65c_clear_da8c8_16 ?_
    refine cg_nmI (fun x2_3 e_x2_3 => ?_)
    have h := h x2_3 e_x2_3
    refine cg_istore_n C (i := 2) (lv' := [(2, .int x2_3), (1, .ref dp), (0, .ref x0)]) rfl (Nat.le_of_ble_eq_true rfl) rfl dJx4a65c_clear_da8c8_19 ?_
    refine cg_aload_n C (i := 0) rfl 2 rfl dJx4a65c_clear_da8c8_20 ?_
    refine cg_iconst C (x := nI 0) rfl dJx4a65c_clear_da8c8_21 ?_
    refine cg_dup_x1 C rfl rfl dJx4a65c_clear_da8c8_22 ?_
    obtain ⟨hc_23, h⟩ := h
    refine cg_puti C (k := 12) (j := 2) (ty := tyJx4a65c) (fty := .int) hc_23.1 hc_23.2 (by decide) rfl (by decide) rfl (by decide) rfl cWs_wsJx4a65c0 tyJx4a65c_ok nmJx4a65c cl_Jx4a65c_48 rfl rfl rfl rfl rfl dJx4a65c_clear_da8c8_23 ?_
    refine cg_nm (fun S4 e_S4 => ?_)
    have h := h S4 e_S4
    refine cg_istore_n C (i := 3) (lv' := [(3, .int ((nI 0))), (2, .int x2_3), (1, .ref dp), (0, .ref x0)]) rfl (Nat.le_of_ble_eq_true rfl) rfl dJx4a65c_clear_da8c8_26 ?_
    exact cg_sub [2, 1, 0] rfl (tl_Jx4a65c_clear_da8c8_27 C   dp x2_3 (((nI 0))) S4 h)
  · have h := h.2 hd
    refine cg_get C (k := 12) (j := 1) (.ref b2) hc_11.1 hc_11.2 (by decide) rfl (by decide) rfl (show cV _ 12 1 x0 = _ from congrArg va_rf (hb_b2)) cWs_wsJx4a65c0 cl_Jx4a65c_9 rfl dJx4a65c_clear_da8c8_11 ?_
    refine cg_astore_n (lv' := [(1, .ref b2), (0, .ref x0)]) C (i := 1) rfl (Nat.le_of_ble_eq_true rfl) rfl dJx4a65c_clear_da8c8_14 ?_
    refine cg_aload_n C (i := 0) rfl 1 rfl dJx4a65c_clear_da8c8_15 ?_
    obtain ⟨hc_16, h⟩ := h
    refine cg_get C (k := 12) (j := 2) (.int (ci S1 386 x0)) hc_16.1 hc_16.2 (by decide) rfl (by decide) rfl rfl cWs_wsJx4a65c0 cl_Jx4a65c_48 rfl dJx4a65c_clear_da8c8_16 ?_
    refine cg_nmI (fun x2_7 e_x2_7 => ?_)
    have h := h x2_7 e_x2_7
    refine cg_istore_n C (i := 2) (lv' := [(2, .int x2_7), (1, .ref b2), (0, .ref x0)]) rfl (Nat.le_of_ble_eq_true rfl) rfl dJx4a65c_clear_da8c8_19 ?_
    refine cg_aload_n C (i := 0) rfl 2 rfl dJx4a65c_clear_da8c8_20 ?_
    refine cg_iconst C (x := nI 0) rfl dJx4a65c_clear_da8c8_21 ?_
    refine cg_dup_x1 C rfl rfl dJx4a65c_clear_da8c8_22 ?_
    obtain ⟨hc_23, h⟩ := h
    refine cg_puti C (k := 12) (j := 2) (ty := tyJx4a65c) (fty := .int) hc_23.1 hc_23.2 (by decide) rfl (by decide) rfl (by decide) rfl cWs_wsJx4a65c0 tyJx4a65c_ok nmJx4a65c cl_Jx4a65c_48 rfl rfl rfl rfl rfl dJx4a65c_clear_da8c8_23 ?_
    refine cg_nm (fun S8 e_S8 => ?_)
    have h := h S8 e_S8
    refine cg_istore_n C (i := 3) (lv' := [(3, .int ((nI 0))), (2, .int x2_7), (1, .ref b2), (0, .ref x0)]) rfl (Nat.le_of_ble_eq_true rfl) rfl dJx4a65c_clear_da8c8_26 ?_
    exact cg_sub [2, 1, 0] rfl (tl_Jx4a65c_clear_da8c8_27 C   b2 x2_7 (((nI 0))) S8 h)
def k_X11_goDown (Q : cS → Prop) (dp : Nat) (mc ms : Nat) (x0 : Nat) (S : cS) : Prop :=
cA S x0 11 ∧ (∀ S1 : cS, S1 = cSi S 370 x0 ((bI true)) → cA S1 x0 11 ∧ (∀ S2 : cS, S2 = cSi S1 369 x0 (((-1))) → cA S2 x0 11 ∧ ((∃ b3 : Nat, cr S2 354 x0 = some b3 ∧ (cA S2 b3 12 ∧ ((0 ≤ mc ∧ 0 ≤ ms) ∧ (k_Jx4a65c_clear_da8c8 (fun S_4 => 
cA S_4 x0 11 ∧ (∀ S5 : cS, S5 = cSr S_4 356 x0 none → cA S5 x0 11 ∧ (∀ S6 : cS, S6 = cSi S5 357 x0 ((nI 0)) → cA S6 x0 11 ∧ ((∃ b7 : Nat, cr S6 360 x0 = some b7 ∧ (cA S6 b7 12 ∧ ((0 ≤ mc ∧ 0 ≤ ms) ∧ (k_Jx4a65c_clear_da8c8 (fun S_8 => 
cA S_8 x0 11 ∧ ((∃ b9 : Nat, cr S_8 365 x0 = some b9 ∧ (cA S_8 b9 1 ∧ ((0 ≤ mc ∧ 0 ≤ ms) ∧ (k_X1_forget (fun S_10 => 
cA S_10 x0 11 ∧ (∀ S11 : cS, S11 = cSr S_10 359 x0 none → (0 + 1 ≤ mc ∧ 0 + 2 ≤ ms) ∧ (∀ q12 : Nat, q12 ∉ cL S11 → ∀ S13 : cS, S13 = cNew S11 q12 10 → (∃ mc14 ms15 : Nat, 0 + 1 + mc14 ≤ mc ∧ 0 + 2 + ms15 ≤ ms ∧ (k_X10_init (fun S_16 => 
cA S_16 x0 11 ∧ (∀ S17 : cS, S17 = cSr S_16 355 x0 ((some q12)) → (0 + 1 + mc14 ≤ mc ∧ 0 + 2 + ms15 ≤ ms) ∧ (Q S17))) dp mc14 ms15 q12 (((-1))) S13))))) dp b9 S_8)))))) dp b7 S6)))))))) dp b3 S2)))))))
set_option maxHeartbeats 1000000 in
set_option maxRecDepth 20000 in
theorem t_X11_goDown (l : Launch) (mc ms : Nat) (x0 : Nat) (S : cS) (dp : Nat) {P : cS → Prop} (h : k_X11_goDown P dp mc ms x0 S) : cMet (cQv P) l yX11_goDown cX11_goDown 1 none 5 mc ms 113 [.ref x0] S dp := by
  intro D Y tp sz
  refine cg_body (by decide +kernel) (Nat.le_of_ble_eq_true rfl) ?_
  intro p e s m args below meth c C
  generalize va_A (cWd Y S) sz = A at C ⊢
  have C : cC p s m args meth c cX11_goDown 1 none A D Y tp dp RX11 := C
  refine cg_lv (lv' := [(0, .ref x0)]) rfl ?_
  unfold k_X11_goDown at h
  refine cg_aload_n C (i := 0) rfl 0 rfl dX11_goDown_0 ?_
  refine cg_iconst C (x := nI 1) rfl dX11_goDown_1 ?_
  obtain ⟨hc_2, h⟩ := h
  refine cg_cast (.int (bI true)) rfl ?_
  refine cg_puti C (k := 11) (j := 18) (ty := tyX11) (fty := .boolean) hc_2.1 hc_2.2 (by decide) rfl (by decide) rfl (by decide) rfl cWs_wsX110 tyX11_ok nmX11 cl_X11_96 rfl rfl rfl (bI_nar _) (bI_fit _) dX11_goDown_2 ?_
  refine cg_nm (fun S1 e_S1 => ?_)
  have h := h S1 e_S1
  refine cg_aload_n C (i := 0) rfl 0 rfl dX11_goDown_5 ?_
  refine cg_iconst C (x := (-1)) rfl dX11_goDown_6 ?_
  obtain ⟨hc_7, h⟩ := h
  refine cg_puti C (k := 11) (j := 17) (ty := tyX11) (fty := .int) hc_7.1 hc_7.2 (by decide) rfl (by decide) rfl (by decide) rfl cWs_wsX110 tyX11_ok nmX11 cl_X11_93 rfl rfl rfl rfl rfl dX11_goDown_7 ?_
  refine cg_nm (fun S2 e_S2 => ?_)
  have h := h S2 e_S2
  refine cg_aload_n C (i := 0) rfl 0 rfl dX11_goDown_10 ?_
  obtain ⟨hc_11, h⟩ := h
  obtain ⟨b3, hb_b3, h⟩ := h
  refine cg_get C (k := 11) (j := 2) (.ref b3) hc_11.1 hc_11.2 (by decide) rfl (by decide) rfl (show cV _ 11 2 x0 = _ from congrArg va_rf hb_b3) cWs_wsX110 cl_X11_26 rfl dX11_goDown_11 ?_
  obtain ⟨hc_14, h⟩ := h
  obtain ⟨hb_14, h⟩ := h
  refine cg_callv C (t_Jx4a65c_clear_da8c8 l b3 S2 dp h) cc_X11_499 hc_14.1 hc_14.2 (by decide) rfl rfl ⟨by decide, by decide⟩ hb_14 rfl (Nat.le_of_ble_eq_true rfl) dX11_goDown_14 (fun S_4 h => ?_)
  simp only [Nat.add_zero]
  refine cg_aload_n C (i := 0) rfl 0 rfl dX11_goDown_17 ?_
  refine cg_null C dX11_goDown_18 ?_
  obtain ⟨hc_19, h⟩ := h
  refine cg_putr C (k := 11) (j := 4) (x := none) (ty := tyX11) (fty := tyX11 4) hc_19.1 hc_19.2 (by decide) rfl (by decide) rfl (by decide) rfl cWs_wsX110 tyX11_ok nmX11 cl_X11_39 rfl rfl rfl rfl rfl dX11_goDown_19 ?_
  refine cg_nm (fun S5 e_S5 => ?_)
  have h := h S5 e_S5
  refine cg_aload_n C (i := 0) rfl 0 rfl dX11_goDown_22 ?_
  refine cg_iconst C (x := nI 0) rfl dX11_goDown_23 ?_
  obtain ⟨hc_24, h⟩ := h
  refine cg_puti C (k := 11) (j := 5) (ty := tyX11) (fty := .int) hc_24.1 hc_24.2 (by decide) rfl (by decide) rfl (by decide) rfl cWs_wsX110 tyX11_ok nmX11 cl_X11_42 rfl rfl rfl rfl rfl dX11_goDown_24 ?_
  refine cg_nm (fun S6 e_S6 => ?_)
  have h := h S6 e_S6
  refine cg_aload_n C (i := 0) rfl 0 rfl dX11_goDown_27 ?_
  obtain ⟨hc_28, h⟩ := h
  obtain ⟨b7, hb_b7, h⟩ := h
  refine cg_get C (k := 11) (j := 8) (.ref b7) hc_28.1 hc_28.2 (by decide) rfl (by decide) rfl (show cV _ 11 8 x0 = _ from congrArg va_rf hb_b7) cWs_wsX110 cl_X11_52 rfl dX11_goDown_28 ?_
  obtain ⟨hc_31, h⟩ := h
  obtain ⟨hb_31, h⟩ := h
  refine cg_callv C (t_Jx4a65c_clear_da8c8 l b7 S6 dp h) cc_X11_499 hc_31.1 hc_31.2 (by decide) rfl rfl ⟨by decide, by decide⟩ hb_31 rfl (Nat.le_of_ble_eq_true rfl) dX11_goDown_31 (fun S_8 h => ?_)
  simp only [Nat.add_zero]
  refine cg_aload_n C (i := 0) rfl 0 rfl dX11_goDown_34 ?_
  obtain ⟨hc_35, h⟩ := h
  obtain ⟨b9, hb_b9, h⟩ := h
  refine cg_get C (k := 11) (j := 13) (.ref b9) hc_35.1 hc_35.2 (by decide) rfl (by decide) rfl (show cV _ 11 13 x0 = _ from congrArg va_rf hb_b9) cWs_wsX110 cl_X11_80 rfl dX11_goDown_35 ?_
  obtain ⟨hc_38, h⟩ := h
  obtain ⟨hb_38, h⟩ := h
  refine cg_callv C (t_X1_forget l b9 S_8 dp h) cc_X11_502 hc_38.1 hc_38.2 (by decide) rfl rfl ⟨by decide, by decide⟩ hb_38 rfl (Nat.le_of_ble_eq_true rfl) dX11_goDown_38 (fun S_10 h => ?_)
  simp only [Nat.add_zero]
  refine cg_aload_n C (i := 0) rfl 0 rfl dX11_goDown_41 ?_
  refine cg_null C dX11_goDown_42 ?_
  obtain ⟨hc_43, h⟩ := h
  refine cg_putr C (k := 11) (j := 7) (x := none) (ty := tyX11) (fty := tyX11 7) hc_43.1 hc_43.2 (by decide) rfl (by decide) rfl (by decide) rfl cWs_wsX110 tyX11_ok nmX11 cl_X11_49 rfl rfl rfl rfl rfl dX11_goDown_43 ?_
  refine cg_nm (fun S11 e_S11 => ?_)
  have h := h S11 e_S11
  refine cg_aload_n C (i := 0) rfl 0 rfl dX11_goDown_46 ?_
  obtain ⟨hc_47, h⟩ := h
  refine cg_new C (k := 10) (N := 2) (fs := [.int 0, .null]) (by decide) rfl cWs_wsX100 tyX10_ok cn_X11_30 ci_X10 ct_X10 (fun j_ hj_ => by rcases (show j_ = 0 ∨ j_ = 1 by omega) with rfl | rfl <;> rfl) rfl hc_47.1 hc_47.2 dX11_goDown_47 (fun q12 hf_q12 => ?_)
  have h := h q12 hf_q12
  refine cg_nm (fun S13 e_S13 => ?_)
  have h := h S13 e_S13
  refine cg_dup C rfl dX11_goDown_50 ?_
  refine cg_iconst C (x := (-1)) rfl dX11_goDown_51 ?_
  obtain ⟨mc14, ms15, hm_1, hm_2, h⟩ := h
  refine cg_callI C (t_X10_init l mc14 ms15 q12 (((-1))) S13 dp h) cz_X11_32 rfl ⟨by decide, by decide⟩ ⟨hm_1, hm_2⟩ rfl (Nat.le_of_ble_eq_true rfl) dX11_goDown_52 (fun S_16 h => ?_)
  obtain ⟨hc_55, h⟩ := h
  refine cg_putr C (k := 11) (j := 3) (x := (some q12)) (ty := tyX11) (fty := tyX11 3) hc_55.1 hc_55.2 (by decide) rfl (by decide) rfl (by decide) rfl cWs_wsX110 tyX11_ok nmX11 cl_X11_35 rfl rfl rfl rfl rfl dX11_goDown_55 ?_
  refine cg_nm (fun S17 e_S17 => ?_)
  have h := h S17 e_S17
  obtain ⟨hb_58, h⟩ := h
  exact cg_vret C h dX11_goDown_58 hb_58.1 hb_58.2
def k_X11_doWrite_30 (Q : Int32 → cS → Prop) (dp : Nat) (mc ms : Nat)  (x0 : Nat) (cd dd : Nat) (S : cS) : Prop :=
cA S x0 11 ∧ (cA S x0 11 ∧ (∀ S1 : cS, S1 = cSi S 368 x0 ((((ci S 368 x0)) + ((nI 1)))) → (cd ≤ mc ∧ dd ≤ ms) ∧ (Q ((bI true)) S1)))
def k_X11_doWrite (Q : Int32 → cS → Prop) (dp : Nat) (mc ms : Nat) (x0 : Nat) (S : cS) : Prop :=
cA S x0 11 ∧ (((¬ ((ci S 369 x0)) = 0 →
  cA S x0 11 ∧ (((((ci S 369 x0)) ≤ 0 →
    k_X11_doWrite_30 Q dp mc ms  x0 0 0 S) ∧
   (¬ ((ci S 369 x0)) ≤ 0 →
    cA S x0 11 ∧ (cA S x0 11 ∧ (∀ S2 : cS, S2 = cSi S 369 x0 ((((ci S 369 x0)) - ((nI 1)))) → k_X11_doWrite_30 Q dp mc ms  x0 0 0 S2)))))) ∧
 (((ci S 369 x0)) = 0 →
  cA S x0 11 ∧ ((∃ mc3 ms4 : Nat, 0 + mc3 ≤ mc ∧ 0 + ms4 ≤ ms ∧ (k_X11_goDown (fun S_5 => 
  (0 + mc3 ≤ mc ∧ 0 + ms4 ≤ ms) ∧ (Q ((bI false)) S_5)) dp mc3 ms4 x0 S))))))
section S_X11_doWrite
variable {p : Program} {l : Launch} {e : Env} {s : State} {m : MethodId} {args : Array Value} {below : List Frame} {meth : Method} {c : Code} {A : Nat → Prop} {D : va_G} {Y : cY} {tp dp : Nat}
set_option maxRecDepth 20000 in
theorem tb_X11_doWrite_30 {mc ms : Nat} (C : cC p s m args meth c cX11_doWrite 1 (some .boolean) A D Y tp dp RX11) {post : Int32 → cS → Prop}   (x0 : Nat) (cd dd : Nat) (S : cS) (h : k_X11_doWrite_30 post dp mc ms  x0 cd dd S) : cG p l e (cRm 6 mc ms 133) s m args below meth c A D Y 1 (MQ below (cQi post D Y A) args s mc ms A) cd dd 30 [(0, .ref x0)] [] S := by
  unfold k_X11_doWrite_30 at h
  refine cg_aload_n C (i := 0) rfl 0 rfl dX11_doWrite_30 ?_
  refine cg_dup C rfl dX11_doWrite_31 ?_
  obtain ⟨hc_32, h⟩ := h
  refine cg_get C (k := 11) (j := 16) (.int (ci S 368 x0)) hc_32.1 hc_32.2 (by decide) rfl (by decide) rfl rfl cWs_wsX110 cl_X11_90 rfl dX11_doWrite_32 ?_
  refine cg_iconst C (x := nI 1) rfl dX11_doWrite_35 ?_
  refine cg_iadd C dX11_doWrite_36 ?_
  obtain ⟨hc_37, h⟩ := h
  refine cg_puti C (k := 11) (j := 16) (ty := tyX11) (fty := .int) hc_37.1 hc_37.2 (by decide) rfl (by decide) rfl (by decide) rfl cWs_wsX110 tyX11_ok nmX11 cl_X11_90 rfl rfl rfl rfl rfl dX11_doWrite_37 ?_
  refine cg_nm (fun S1 e_S1 => ?_)
  have h := h S1 e_S1
  refine cg_iconst C (x := nI 1) rfl dX11_doWrite_40 ?_
  obtain ⟨hb_41, h⟩ := h
  refine cg_cast (.int (bI true)) rfl ?_
  exact cg_zret C (bI_nar _) h dX11_doWrite_41 hb_41.1 hb_41.2
end S_X11_doWrite
set_option maxHeartbeats 1000000 in
set_option maxRecDepth 20000 in
theorem t_X11_doWrite (l : Launch) (mc ms : Nat) (x0 : Nat) (S : cS) (dp : Nat) {P : Int32 → cS → Prop} (h : k_X11_doWrite P dp mc ms x0 S) : cMet (cQi P) l yX11_doWrite cX11_doWrite 1 (some .boolean) 6 mc ms 133 [.ref x0] S dp := by
  intro D Y tp sz
  refine cg_body (by decide +kernel) (Nat.le_of_ble_eq_true rfl) ?_
  intro p e s m args below meth c C
  generalize va_A (cWd Y S) sz = A at C ⊢
  have C : cC p s m args meth c cX11_doWrite 1 (some .boolean) A D Y tp dp RX11 := C
  refine cg_lv (lv' := [(0, .ref x0)]) rfl ?_
  unfold k_X11_doWrite at h
  refine cg_aload_n C (i := 0) rfl 0 rfl dX11_doWrite_0 ?_
  obtain ⟨hc_1, h⟩ := h
  refine cg_get C (k := 11) (j := 17) (.int (ci S 369 x0)) hc_1.1 hc_1.2 (by decide) rfl (by decide) rfl rfl cWs_wsX110 cl_X11_93 rfl dX11_doWrite_1 ?_
  refine cg_if_ne C 13 (by decide) dX11_doWrite_4 (fun c_ => ?_) (fun c_ => ?_)
  · have h := h.1 c_
    refine cg_aload_n C (i := 0) rfl 0 rfl dX11_doWrite_13 ?_
    obtain ⟨hc_14, h⟩ := h
    refine cg_get C (k := 11) (j := 17) (.int (ci S 369 x0)) hc_14.1 hc_14.2 (by decide) rfl (by decide) rfl rfl cWs_wsX110 cl_X11_93 rfl dX11_doWrite_14 ?_
    refine cg_if_le C 30 (by decide) dX11_doWrite_17 (fun c_ => ?_) (fun c_ => ?_)
    · have h := h.1 c_
      exact cg_sub [0] rfl (tb_X11_doWrite_30 C   x0 0 0 S h)
    · have h := h.2 c_
      refine cg_aload_n C (i := 0) rfl 0 rfl dX11_doWrite_20 ?_
      refine cg_dup C rfl dX11_doWrite_21 ?_
      obtain ⟨hc_22, h⟩ := h
      refine cg_get C (k := 11) (j := 17) (.int (ci S 369 x0)) hc_22.1 hc_22.2 (by decide) rfl (by decide) rfl rfl cWs_wsX110 cl_X11_93 rfl dX11_doWrite_22 ?_
      refine cg_iconst C (x := nI 1) rfl dX11_doWrite_25 ?_
      refine cg_isub C dX11_doWrite_26 ?_
      obtain ⟨hc_27, h⟩ := h
      refine cg_puti C (k := 11) (j := 17) (ty := tyX11) (fty := .int) hc_27.1 hc_27.2 (by decide) rfl (by decide) rfl (by decide) rfl cWs_wsX110 tyX11_ok nmX11 cl_X11_93 rfl rfl rfl rfl rfl dX11_doWrite_27 ?_
      refine cg_nm (fun S2 e_S2 => ?_)
      have h := h S2 e_S2
      exact cg_sub [0] rfl (tb_X11_doWrite_30 C   x0 0 0 S2 h)
  · have h := h.2 c_
    refine cg_aload_n C (i := 0) rfl 0 rfl dX11_doWrite_7 ?_
    obtain ⟨hc_8, h⟩ := h
    obtain ⟨mc3, ms4, hm_1, hm_2, h⟩ := h
    refine cg_callv C (t_X11_goDown l mc3 ms4 x0 S dp h) cc_X11_496 hc_8.1 hc_8.2 (by decide) rfl rfl ⟨by decide, by decide⟩ ⟨hm_1, hm_2⟩ rfl (Nat.le_of_ble_eq_true rfl) dX11_doWrite_8 (fun S_5 h => ?_)
    refine cg_iconst C (x := nI 0) rfl dX11_doWrite_11 ?_
    obtain ⟨hb_12, h⟩ := h
    refine cg_cast (.int (bI false)) rfl ?_
    exact cg_zret C (bI_nar _) h dX11_doWrite_12 hb_12.1 hb_12.2
def k_X11_newSegment_24 (Q : Nat → cS → Prop) (dp : Nat) (mc ms : Nat) (R24 : Nat → Nat → Int32 → Nat → Nat → cS → Prop) (x1 : Nat) (x2 : Nat) (x3 : Int32) (cd dd : Nat) (S : cS) : Prop :=
cA S x1 12 ∧ ((cd ≤ mc ∧ dd ≤ ms) ∧ (k_Jx4a65c_size_8abf5 (fun r_7 S_7 => 
((r_7 ≤ x3 →
  (cd ≤ mc ∧ dd ≤ ms) ∧ (Q x2 S_7)) ∧
 (¬ r_7 ≤ x3 →
  cA S_7 x2 8 ∧ ((∃ b8 : Nat, cr S_7 257 x2 = some b8 ∧ (cA S_7 x1 12 ∧ ((cd ≤ mc ∧ dd ≤ ms) ∧ (k_Jx4a65c_get_915e3 (fun r_9 S_9 => 
  cA S_9 r_9 0 ∧ (cA S_9 b8 12 ∧ ((∃ mc10 ms11 : Nat, cd + mc10 ≤ mc ∧ dd + ms11 ≤ ms ∧ (k_Jx4a65c_add_9ea2d (fun r_12 S_12 => 
  ∀ x3_13 : Int32, x3_13 = x3 + nI 1 → R24 x1 x2 x3_13 (cd + mc10) (dd + ms11) S_12) dp mc10 ms11 b8 r_9 S_9))))) dp x1 x3 S_7)))))))) dp x1 S))
def k_X11_newSegment_24L (Q : Nat → cS → Prop) (dp : Nat) (mc ms : Nat)  (x1 : Nat) (x2 : Nat) (x3 : Int32) (cd dd : Nat) (S : cS) : Prop :=
  lfp (X := Nat × Nat × Int32 × Nat × Nat × cS) (fun P y => k_X11_newSegment_24 Q dp mc ms  (fun b0 b1 b2 b3 b4 S => P (b0, b1, b2, b3, b4, S)) y.1 y.2.1 y.2.2.1 y.2.2.2.1 y.2.2.2.2.1 y.2.2.2.2.2) (x1, x2, x3, cd, dd, S)
def k_X11_newSegment (Q : Nat → cS → Prop) (dp : Nat) (mc ms : Nat) (x0 : Nat) (x1 : Nat) (S : cS) : Prop :=
(0 + 1 ≤ mc ∧ 0 + 4 ≤ ms) ∧ (∀ q1 : Nat, q1 ∉ cL S → ∀ S2 : cS, S2 = cNew S q1 8 → cA S2 x0 11 ∧ ((∃ mc3 ms4 : Nat, 0 + 1 + mc3 ≤ mc ∧ 0 + 4 + ms4 ≤ ms ∧ (k_X8_init (fun S_5 => 
cA S_5 x0 11 ∧ (cA S_5 x0 11 ∧ (∀ S6 : cS, S6 = cSi S_5 366 x0 ((((ci S_5 366 x0)) + ((nI 1)))) → k_X11_newSegment_24L Q dp mc ms  x1 q1 (((nI 0))) (0 + 1 + mc3) (0 + 4 + ms4) S6))) dp mc3 ms4 q1 ((ci S2 366 x0)) S2))))
section S_X11_newSegment
variable {p : Program} {l : Launch} {e : Env} {s : State} {m : MethodId} {args : Array Value} {below : List Frame} {meth : Method} {c : Code} {A : Nat → Prop} {D : va_G} {Y : cY} {tp dp : Nat}
set_option maxRecDepth 20000 in
theorem tb_X11_newSegment_24 {mc ms : Nat} (C : cC p s m args meth c cX11_newSegment 4 (some (.object "SearchMill$Segment")) A D Y tp dp RX11) {post : Nat → cS → Prop} {R24 : Nat → Nat → Int32 → Nat → Nat → cS → Prop} (hR24 : ∀ (x1 : Nat) (x2 : Nat) (x3 : Int32) (cd dd : Nat) (S : cS), R24 x1 x2 x3 cd dd S → cG p l e (cRm 8 mc ms 188) s m args below meth c A D Y 4 (MQ below (cQr post D Y A) args s mc ms A) cd dd 24 [(1, .ref x1), (2, .ref x2), (3, .int x3)] [] S) (x1 : Nat) (x2 : Nat) (x3 : Int32) (cd dd : Nat) (S : cS) (h : k_X11_newSegment_24 post dp mc ms R24 x1 x2 x3 cd dd S) : cG p l e (cRm 8 mc ms 188) s m args below meth c A D Y 4 (MQ below (cQr post D Y A) args s mc ms A) cd dd 24 [(1, .ref x1), (2, .ref x2), (3, .int x3)] [] S := by
  unfold k_X11_newSegment_24 at h
  refine cg_iload_n C (i := 3) rfl 2 rfl dX11_newSegment_24 ?_
  refine cg_aload_n C (i := 1) rfl 0 rfl dX11_newSegment_25 ?_
  obtain ⟨hc_26, h⟩ := h
  obtain ⟨hb_26, h⟩ := h
  refine cg_calli C (t_Jx4a65c_size_8abf5 l x1 S dp h) cc_X11_180 hc_26.1 hc_26.2 (by decide) rfl rfl ⟨by decide, by decide⟩ hb_26 rfl (Nat.le_of_ble_eq_true rfl) dX11_newSegment_26 (fun r_7 S_7 h => ?_)
  simp only [Nat.add_zero]
  refine cg_icmp_ge C 54 (by decide) dX11_newSegment_29 (fun c_ => ?_) (fun c_ => ?_)
  · have h := h.1 c_
    refine cg_aload_n C (i := 2) rfl 1 rfl dX11_newSegment_54 ?_
    obtain ⟨hb_55, h⟩ := h
    exact cg_aret C rfl (by first | exact Or.inl ⟨_, rfl⟩ | exact Or.inr ⟨_, rfl⟩) h dX11_newSegment_55 hb_55.1 hb_55.2
  · have h := h.2 c_
    refine cg_aload_n C (i := 2) rfl 1 rfl dX11_newSegment_32 ?_
    obtain ⟨hc_33, h⟩ := h
    obtain ⟨b8, hb_b8, h⟩ := h
    refine cg_get C (k := 8) (j := 1) (.ref b8) hc_33.1 hc_33.2 (by decide) rfl (by decide) rfl (show cV _ 8 1 x2 = _ from congrArg va_rf hb_b8) cWs_wsX80 cl_X11_274 rfl dX11_newSegment_33 ?_
    refine cg_aload_n C (i := 1) rfl 0 rfl dX11_newSegment_36 ?_
    refine cg_iload_n C (i := 3) rfl 2 rfl dX11_newSegment_37 ?_
    obtain ⟨hc_38, h⟩ := h
    obtain ⟨hb_38, h⟩ := h
    refine cg_callr C (t_Jx4a65c_get_915e3 l x1 x3 S_7 dp h) cc_X11_277 hc_38.1 hc_38.2 (by decide) rfl rfl ⟨by decide, by decide⟩ hb_38 rfl (Nat.le_of_ble_eq_true rfl) dX11_newSegment_38 (fun r_9 S_9 h => ?_)
    simp only [Nat.add_zero]
    obtain ⟨hc_41, h⟩ := h
    refine cg_ccast C (k := 0) hc_41.1 hc_41.2 (by decide) rfl cnc_X11_16 dX11_newSegment_41 ?_
    obtain ⟨hc_44, h⟩ := h
    obtain ⟨mc10, ms11, hm_1, hm_2, h⟩ := h
    refine cg_calli C (t_Jx4a65c_add_9ea2d l mc10 ms11 b8 r_9 S_9 dp h) cc_X11_200 hc_44.1 hc_44.2 (by decide) rfl rfl ⟨by decide, by decide⟩ ⟨hm_1, hm_2⟩ rfl (Nat.le_of_ble_eq_true rfl) dX11_newSegment_44 (fun r_12 S_12 h => ?_)
    refine cg_pop C rfl dX11_newSegment_47 ?_
    obtain ⟨x3_13, e_x3_13⟩ : ∃ z : Int32, z = x3 + nI 1 := ⟨_, rfl⟩
    have h := h x3_13 e_x3_13
    refine cg_iinc C (lv' := [(3, .int x3_13), (1, .ref x1), (2, .ref x2)]) 2 rfl (by rw [e_x3_13]; rfl) (Nat.le_of_ble_eq_true rfl) rfl dX11_newSegment_48 ?_
    refine cg_goto C 24 (by decide) dX11_newSegment_51 ?_
    exact cg_sub [1, 2, 0] rfl (hR24 x1 x2 x3_13 (cd + mc10) (dd + ms11) S_12 h)
set_option maxRecDepth 20000 in
theorem tl_X11_newSegment_24 {mc ms : Nat} (C : cC p s m args meth c cX11_newSegment 4 (some (.object "SearchMill$Segment")) A D Y tp dp RX11) {post : Nat → cS → Prop}   (x1 : Nat) (x2 : Nat) (x3 : Int32) (cd dd : Nat) (S : cS) (h : k_X11_newSegment_24L post dp mc ms  x1 x2 x3 cd dd S) : cG p l e (cRm 8 mc ms 188) s m args below meth c A D Y 4 (MQ below (cQr post D Y A) args s mc ms A) cd dd 24 [(1, .ref x1), (2, .ref x2), (3, .int x3)] [] S :=
  h (fun y => cG p l e (cRm 8 mc ms 188) s m args below meth c A D Y 4 (MQ below (cQr post D Y A) args s mc ms A) (y.2.2.2.1) (y.2.2.2.2.1) 24 [(1, .ref (y.1)), (2, .ref (y.2.1)), (3, .int (y.2.2.1))] [] (y.2.2.2.2.2)) (fun y hy => tb_X11_newSegment_24 C   (fun b0 b1 b2 b3 b4 S z => z) (y.1) (y.2.1) (y.2.2.1) (y.2.2.2.1) (y.2.2.2.2.1) (y.2.2.2.2.2) hy)
end S_X11_newSegment
set_option maxHeartbeats 1000000 in
set_option maxRecDepth 20000 in
theorem t_X11_newSegment (l : Launch) (mc ms : Nat) (x0 : Nat) (x1 : Nat) (S : cS) (dp : Nat) {P : Nat → cS → Prop} (h : k_X11_newSegment P dp mc ms x0 x1 S) : cMet (cQr P) l yX11_newSegment cX11_newSegment 4 (some (.object "SearchMill$Segment")) 8 mc ms 188 [.ref x0, .ref x1] S dp := by
  intro D Y tp sz
  refine cg_body (by decide +kernel) (Nat.le_of_ble_eq_true rfl) ?_
  intro p e s m args below meth c C
  generalize va_A (cWd Y S) sz = A at C ⊢
  have C : cC p s m args meth c cX11_newSegment 4 (some (.object "SearchMill$Segment")) A D Y tp dp RX11 := C
  refine cg_lv (lv' := [(0, .ref x0), (1, .ref x1)]) rfl ?_
  unfold k_X11_newSegment at h
  obtain ⟨hc_0, h⟩ := h
  refine cg_new C (k := 8) (N := 4) (fs := [.int 0, .null, .null, .null]) (by decide) rfl cWs_wsX80 tyX8_ok cn_X11_265 ci_X8 ct_X8 (fun j_ hj_ => by rcases (show j_ = 0 ∨ j_ = 1 ∨ j_ = 2 ∨ j_ = 3 by omega) with rfl | rfl | rfl | rfl <;> rfl) rfl hc_0.1 hc_0.2 dX11_newSegment_0 (fun q1 hf_q1 => ?_)
  have h := h q1 hf_q1
  refine cg_nm (fun S2 e_S2 => ?_)
  have h := h S2 e_S2
  refine cg_dup C rfl dX11_newSegment_3 ?_
  refine cg_aload_n C (i := 0) rfl 0 rfl dX11_newSegment_4 ?_
  obtain ⟨hc_5, h⟩ := h
  refine cg_get C (k := 11) (j := 14) (.int (ci S2 366 x0)) hc_5.1 hc_5.2 (by decide) rfl (by decide) rfl rfl cWs_wsX110 cl_X11_84 rfl dX11_newSegment_5 ?_
  obtain ⟨mc3, ms4, hm_1, hm_2, h⟩ := h
  refine cg_callI C (t_X8_init l mc3 ms4 q1 ((ci S2 366 x0)) S2 dp h) cz_X11_519 rfl ⟨by decide, by decide⟩ ⟨hm_1, hm_2⟩ rfl (Nat.le_of_ble_eq_true rfl) dX11_newSegment_8 (fun S_5 h => ?_)
  refine cg_astore_n (lv' := [(2, .ref q1), (0, .ref x0), (1, .ref x1)]) C (i := 2) rfl (Nat.le_of_ble_eq_true rfl) rfl dX11_newSegment_11 ?_
  refine cg_aload_n C (i := 0) rfl 1 rfl dX11_newSegment_12 ?_
  refine cg_dup C rfl dX11_newSegment_13 ?_
  obtain ⟨hc_14, h⟩ := h
  refine cg_get C (k := 11) (j := 14) (.int (ci S_5 366 x0)) hc_14.1 hc_14.2 (by decide) rfl (by decide) rfl rfl cWs_wsX110 cl_X11_84 rfl dX11_newSegment_14 ?_
  refine cg_iconst C (x := nI 1) rfl dX11_newSegment_17 ?_
  refine cg_iadd C dX11_newSegment_18 ?_
  obtain ⟨hc_19, h⟩ := h
  refine cg_puti C (k := 11) (j := 14) (ty := tyX11) (fty := .int) hc_19.1 hc_19.2 (by decide) rfl (by decide) rfl (by decide) rfl cWs_wsX110 tyX11_ok nmX11 cl_X11_84 rfl rfl rfl rfl rfl dX11_newSegment_19 ?_
  refine cg_nm (fun S6 e_S6 => ?_)
  have h := h S6 e_S6
  refine cg_iconst C (x := nI 0) rfl dX11_newSegment_22 ?_
  refine cg_istore_n C (i := 3) (lv' := [(3, .int ((nI 0))), (2, .ref q1), (0, .ref x0), (1, .ref x1)]) rfl (Nat.le_of_ble_eq_true rfl) rfl dX11_newSegment_23 ?_
  exact cg_sub [3, 1, 0] rfl (tl_X11_newSegment_24 C   x1 q1 (((nI 0))) (0 + 1 + mc3) (0 + 4 + ms4) S6 h)
def k_X11_flushBuffer_12 (Q : Int32 → cS → Prop) (dp : Nat) (mc ms : Nat) (R12 : Nat → Int32 → Int32 → Nat → Nat → cS → Prop) (x0 : Nat) (x1 : Int32) (x2 : Int32) (cd dd : Nat) (S : cS) : Prop :=
((x1 ≤ x2 →
  cA S x0 11 ∧ ((∃ b4 : Nat, cr S 354 x0 = some b4 ∧ (cA S x0 11 ∧ ((∃ mc5 ms6 : Nat, cd + mc5 ≤ mc ∧ dd + ms6 ≤ ms ∧ (k_X11_newSegment (fun r_7 S_7 => 
  cA S_7 r_7 8 ∧ ((∃ mc8 ms9 : Nat, cd + mc5 + mc8 ≤ mc ∧ dd + ms6 + ms9 ≤ ms ∧ (k_X8_readTexts (fun S_10 => 
  cA S_10 r_7 8 ∧ ((∃ mc11 ms12 : Nat, cd + mc5 + mc8 + mc11 ≤ mc ∧ dd + ms6 + ms9 + ms12 ≤ ms ∧ (k_X8_readTexts (fun S_13 => 
  cA S_13 x0 11 ∧ ((∃ b14 : Nat, cr S_13 355 x0 = some b14 ∧ (cA S_13 x0 11 ∧ ((∃ b15 : Nat, cr S_13 355 x0 = some b15 ∧ (cA S_13 b15 10 ∧ ((cd + mc5 + mc8 + mc11 ≤ mc ∧ dd + ms6 + ms9 + ms12 ≤ ms) ∧ (k_X10_size (fun r_16 S_16 => 
  (cd + mc5 + mc8 + mc11 + 1 ≤ mc ∧ dd + ms6 + ms9 + ms12 + 2 ≤ ms) ∧ (∀ q17 : Nat, q17 ∉ cL S_16 → ∀ S18 : cS, S18 = cNew S_16 q17 2 → (∃ mc19 ms20 : Nat, cd + mc5 + mc8 + mc11 + 1 + mc19 ≤ mc ∧ dd + ms6 + ms9 + ms12 + 2 + ms20 ≤ ms ∧ (k_X2_init (fun S_21 => 
  cA S_21 b14 10 ∧ ((∃ mc22 ms23 : Nat, cd + mc5 + mc8 + mc11 + 1 + mc19 + mc22 ≤ mc ∧ dd + ms6 + ms9 + ms12 + 2 + ms20 + ms23 ≤ ms ∧ (k_X10_put (fun S_24 => 
  cA S_24 x0 11 ∧ ((∃ b25 : Nat, cr S_24 354 x0 = some b25 ∧ (cA S_24 b25 12 ∧ ((cd + mc5 + mc8 + mc11 + 1 + mc19 + mc22 ≤ mc ∧ dd + ms6 + ms9 + ms12 + 2 + ms20 + ms23 ≤ ms) ∧ (k_Jx4a65c_clear_da8c8 (fun S_26 => 
  cA S_26 r_7 8 ∧ ((cd + mc5 + mc8 + mc11 + 1 + mc19 + mc22 ≤ mc ∧ dd + ms6 + ms9 + ms12 + 2 + ms20 + ms23 ≤ ms) ∧ (Q ((ci S_26 256 r_7)) S_26))) dp b25 S_24)))))) dp mc22 ms23 b14 r_16 q17 S_21)))) dp mc19 ms20 q17 r_7 S18)))) dp b15 S_13))))))))) dp mc11 ms12 r_7 ((nI 1)) S_10)))) dp mc8 ms9 r_7 ((nI 0)) S_7)))) dp mc5 ms6 x0 b4 S))))))) ∧
 (¬ x1 ≤ x2 →
  cA S x0 11 ∧ ((∃ mc27 ms28 : Nat, cd + mc27 ≤ mc ∧ dd + ms28 ≤ ms ∧ (k_X11_doWrite (fun r_29 S_29 => 
  ((¬ r_29 = 0 →
    ∀ x2_30 : Int32, x2_30 = x2 + nI 1 → R12 x0 x1 x2_30 (cd + mc27) (dd + ms28) S_29) ∧
   (r_29 = 0 →
    (cd + mc27 ≤ mc ∧ dd + ms28 ≤ ms) ∧ (Q (((-2))) S_29)))) dp mc27 ms28 x0 S)))))
def k_X11_flushBuffer_12L (Q : Int32 → cS → Prop) (dp : Nat) (mc ms : Nat)  (x0 : Nat) (x1 : Int32) (x2 : Int32) (cd dd : Nat) (S : cS) : Prop :=
  lfp (X := Nat × Int32 × Int32 × Nat × Nat × cS) (fun P y => k_X11_flushBuffer_12 Q dp mc ms  (fun b0 b1 b2 b3 b4 S => P (b0, b1, b2, b3, b4, S)) y.1 y.2.1 y.2.2.1 y.2.2.2.1 y.2.2.2.2.1 y.2.2.2.2.2) (x0, x1, x2, cd, dd, S)
def k_X11_flushBuffer (Q : Int32 → cS → Prop) (dp : Nat) (mc ms : Nat) (x0 : Nat) (S : cS) : Prop :=
cA S x0 11 ∧ ((∃ b1 : Nat, cr S 354 x0 = some b1 ∧ (cA S b1 12 ∧ ((0 ≤ mc ∧ 0 ≤ ms) ∧ (k_Jx4a65c_size_8abf5 (fun r_2 S_2 => 
∀ x1_3 : Int32, x1_3 = (r_2 + ((nI 1))) → k_X11_flushBuffer_12L Q dp mc ms  x0 x1_3 (((nI 0))) 0 0 S_2) dp b1 S)))))
section S_X11_flushBuffer
variable {p : Program} {l : Launch} {e : Env} {s : State} {m : MethodId} {args : Array Value} {below : List Frame} {meth : Method} {c : Code} {A : Nat → Prop} {D : va_G} {Y : cY} {tp dp : Nat}
set_option maxRecDepth 20000 in
theorem tb_X11_flushBuffer_12 {mc ms : Nat} (C : cC p s m args meth c cX11_flushBuffer 3 (some .int) A D Y tp dp RX11) {post : Int32 → cS → Prop} {R12 : Nat → Int32 → Int32 → Nat → Nat → cS → Prop} (hR12 : ∀ (x0 : Nat) (x1 : Int32) (x2 : Int32) (cd dd : Nat) (S : cS), R12 x0 x1 x2 cd dd S → cG p l e (cRm 9 mc ms 219) s m args below meth c A D Y 3 (MQ below (cQi post D Y A) args s mc ms A) cd dd 12 [(0, .ref x0), (1, .int x1), (2, .int x2)] [] S) (x0 : Nat) (x1 : Int32) (x2 : Int32) (cd dd : Nat) (S : cS) (h : k_X11_flushBuffer_12 post dp mc ms R12 x0 x1 x2 cd dd S) : cG p l e (cRm 9 mc ms 219) s m args below meth c A D Y 3 (MQ below (cQi post D Y A) args s mc ms A) cd dd 12 [(0, .ref x0), (1, .int x1), (2, .int x2)] [] S := by
  unfold k_X11_flushBuffer_12 at h
  refine cg_iload_n C (i := 2) rfl 2 rfl dX11_flushBuffer_12 ?_
  refine cg_iload_n C (i := 1) rfl 1 rfl dX11_flushBuffer_13 ?_
  refine cg_icmp_ge C 33 (by decide) dX11_flushBuffer_14 (fun c_ => ?_) (fun c_ => ?_)
  · have h := h.1 c_
    refine cg_aload_n C (i := 0) rfl 0 rfl dX11_flushBuffer_33 ?_
    refine cg_aload_n C (i := 0) rfl 0 rfl dX11_flushBuffer_34 ?_
    obtain ⟨hc_35, h⟩ := h
    obtain ⟨b4, hb_b4, h⟩ := h
    refine cg_get C (k := 11) (j := 2) (.ref b4) hc_35.1 hc_35.2 (by decide) rfl (by decide) rfl (show cV _ 11 2 x0 = _ from congrArg va_rf hb_b4) cWs_wsX110 cl_X11_26 rfl dX11_flushBuffer_35 ?_
    obtain ⟨hc_38, h⟩ := h
    obtain ⟨mc5, ms6, hm_1, hm_2, h⟩ := h
    refine cg_callr C (t_X11_newSegment l mc5 ms6 x0 b4 S dp h) cc_X11_505 hc_38.1 hc_38.2 (by decide) rfl rfl ⟨by decide, by decide⟩ ⟨hm_1, hm_2⟩ rfl (Nat.le_of_ble_eq_true rfl) dX11_flushBuffer_38 (fun r_7 S_7 h => ?_)
    refine cg_astore_n (lv' := [(2, .ref r_7), (0, .ref x0), (1, .int x1)]) C (i := 2) rfl (Nat.le_of_ble_eq_true rfl) rfl dX11_flushBuffer_41 ?_
    refine cg_aload_n C (i := 2) rfl 0 rfl dX11_flushBuffer_42 ?_
    refine cg_iconst C (x := nI 0) rfl dX11_flushBuffer_43 ?_
    obtain ⟨hc_44, h⟩ := h
    obtain ⟨mc8, ms9, hm_1, hm_2, h⟩ := h
    refine cg_callv C (t_X8_readTexts l mc8 ms9 r_7 ((nI 0)) S_7 dp h) cc_X11_509 hc_44.1 hc_44.2 (by decide) rfl rfl ⟨by decide, by decide⟩ ⟨hm_1, hm_2⟩ rfl (Nat.le_of_ble_eq_true rfl) dX11_flushBuffer_44 (fun S_10 h => ?_)
    refine cg_aload_n C (i := 2) rfl 0 rfl dX11_flushBuffer_47 ?_
    refine cg_iconst C (x := nI 1) rfl dX11_flushBuffer_48 ?_
    obtain ⟨hc_49, h⟩ := h
    obtain ⟨mc11, ms12, hm_1, hm_2, h⟩ := h
    refine cg_callv C (t_X8_readTexts l mc11 ms12 r_7 ((nI 1)) S_10 dp h) cc_X11_509 hc_49.1 hc_49.2 (by decide) rfl rfl ⟨by decide, by decide⟩ ⟨hm_1, hm_2⟩ rfl (Nat.le_of_ble_eq_true rfl) dX11_flushBuffer_49 (fun S_13 h => ?_)
    refine cg_aload_n C (i := 0) rfl 1 rfl dX11_flushBuffer_52 ?_
    obtain ⟨hc_53, h⟩ := h
    obtain ⟨b14, hb_b14, h⟩ := h
    refine cg_get C (k := 11) (j := 3) (.ref b14) hc_53.1 hc_53.2 (by decide) rfl (by decide) rfl (show cV _ 11 3 x0 = _ from congrArg va_rf hb_b14) cWs_wsX110 cl_X11_35 rfl dX11_flushBuffer_53 ?_
    refine cg_aload_n C (i := 0) rfl 1 rfl dX11_flushBuffer_56 ?_
    obtain ⟨hc_57, h⟩ := h
    obtain ⟨b15, hb_b15, h⟩ := h
    refine cg_get C (k := 11) (j := 3) (.ref b15) hc_57.1 hc_57.2 (by decide) rfl (by decide) rfl (show cV _ 11 3 x0 = _ from congrArg va_rf hb_b15) cWs_wsX110 cl_X11_35 rfl dX11_flushBuffer_57 ?_
    obtain ⟨hc_60, h⟩ := h
    obtain ⟨hb_60, h⟩ := h
    refine cg_calli C (t_X10_size l b15 S_13 dp h) cc_X11_240 hc_60.1 hc_60.2 (by decide) rfl rfl ⟨by decide, by decide⟩ hb_60 rfl (Nat.le_of_ble_eq_true rfl) dX11_flushBuffer_60 (fun r_16 S_16 h => ?_)
    simp only [Nat.add_zero]
    obtain ⟨hc_63, h⟩ := h
    refine cg_new C (k := 2) (N := 2) (fs := [.null, .null]) (by decide) rfl cWs_wsX20 tyX2_ok cn_X11_259 ci_X2 ct_X2 (fun j_ hj_ => by rcases (show j_ = 0 ∨ j_ = 1 by omega) with rfl | rfl <;> rfl) rfl hc_63.1 hc_63.2 dX11_flushBuffer_63 (fun q17 hf_q17 => ?_)
    have h := h q17 hf_q17
    refine cg_nm (fun S18 e_S18 => ?_)
    have h := h S18 e_S18
    refine cg_dup C rfl dX11_flushBuffer_66 ?_
    refine cg_aload_n C (i := 2) rfl 0 rfl dX11_flushBuffer_67 ?_
    obtain ⟨mc19, ms20, hm_1, hm_2, h⟩ := h
    refine cg_callI C (t_X2_init l mc19 ms20 q17 r_7 S18 dp h) cz_X11_512 rfl ⟨by decide, by decide⟩ ⟨hm_1, hm_2⟩ rfl (Nat.le_of_ble_eq_true rfl) dX11_flushBuffer_68 (fun S_21 h => ?_)
    obtain ⟨hc_71, h⟩ := h
    obtain ⟨mc22, ms23, hm_1, hm_2, h⟩ := h
    refine cg_callv C (t_X10_put l mc22 ms23 b14 r_16 q17 S_21 dp h) cc_X11_515 hc_71.1 hc_71.2 (by decide) rfl rfl ⟨by decide, by decide⟩ ⟨hm_1, hm_2⟩ rfl (Nat.le_of_ble_eq_true rfl) dX11_flushBuffer_71 (fun S_24 h => ?_)
    refine cg_aload_n C (i := 0) rfl 1 rfl dX11_flushBuffer_74 ?_
    obtain ⟨hc_75, h⟩ := h
    obtain ⟨b25, hb_b25, h⟩ := h
    refine cg_get C (k := 11) (j := 2) (.ref b25) hc_75.1 hc_75.2 (by decide) rfl (by decide) rfl (show cV _ 11 2 x0 = _ from congrArg va_rf hb_b25) cWs_wsX110 cl_X11_26 rfl dX11_flushBuffer_75 ?_
    obtain ⟨hc_78, h⟩ := h
    obtain ⟨hb_78, h⟩ := h
    refine cg_callv C (t_Jx4a65c_clear_da8c8 l b25 S_24 dp h) cc_X11_499 hc_78.1 hc_78.2 (by decide) rfl rfl ⟨by decide, by decide⟩ hb_78 rfl (Nat.le_of_ble_eq_true rfl) dX11_flushBuffer_78 (fun S_26 h => ?_)
    simp only [Nat.add_zero]
    refine cg_aload_n C (i := 2) rfl 0 rfl dX11_flushBuffer_81 ?_
    obtain ⟨hc_82, h⟩ := h
    refine cg_get C (k := 8) (j := 0) (.int (ci S_26 256 r_7)) hc_82.1 hc_82.2 (by decide) rfl (by decide) rfl rfl cWs_wsX80 cl_X11_264 rfl dX11_flushBuffer_82 ?_
    obtain ⟨hb_85, h⟩ := h
    exact cg_iret C h dX11_flushBuffer_85 hb_85.1 hb_85.2
  · have h := h.2 c_
    refine cg_aload_n C (i := 0) rfl 0 rfl dX11_flushBuffer_17 ?_
    obtain ⟨hc_18, h⟩ := h
    obtain ⟨mc27, ms28, hm_1, hm_2, h⟩ := h
    refine cg_calli C (t_X11_doWrite l mc27 ms28 x0 S dp h) cc_X11_227 hc_18.1 hc_18.2 (by decide) rfl rfl ⟨by decide, by decide⟩ ⟨hm_1, hm_2⟩ rfl (Nat.le_of_ble_eq_true rfl) dX11_flushBuffer_18 (fun r_29 S_29 h => ?_)
    refine cg_if_ne C 27 (by decide) dX11_flushBuffer_21 (fun c_ => ?_) (fun c_ => ?_)
    · have h := h.1 c_
      obtain ⟨x2_30, e_x2_30⟩ : ∃ z : Int32, z = x2 + nI 1 := ⟨_, rfl⟩
      have h := h x2_30 e_x2_30
      refine cg_iinc C (lv' := [(2, .int x2_30), (0, .ref x0), (1, .int x1)]) 2 rfl (by rw [e_x2_30]; rfl) (Nat.le_of_ble_eq_true rfl) rfl dX11_flushBuffer_27 ?_
      refine cg_goto C 12 (by decide) dX11_flushBuffer_30 ?_
      exact cg_sub [1, 2, 0] rfl (hR12 x0 x1 x2_30 (cd + mc27) (dd + ms28) S_29 h)
    · have h := h.2 c_
      refine cg_bipush C (x := (-2)) rfl dX11_flushBuffer_24 ?_
      obtain ⟨hb_26, h⟩ := h
      exact cg_iret C h dX11_flushBuffer_26 hb_26.1 hb_26.2
set_option maxRecDepth 20000 in
theorem tl_X11_flushBuffer_12 {mc ms : Nat} (C : cC p s m args meth c cX11_flushBuffer 3 (some .int) A D Y tp dp RX11) {post : Int32 → cS → Prop}   (x0 : Nat) (x1 : Int32) (x2 : Int32) (cd dd : Nat) (S : cS) (h : k_X11_flushBuffer_12L post dp mc ms  x0 x1 x2 cd dd S) : cG p l e (cRm 9 mc ms 219) s m args below meth c A D Y 3 (MQ below (cQi post D Y A) args s mc ms A) cd dd 12 [(0, .ref x0), (1, .int x1), (2, .int x2)] [] S :=
  h (fun y => cG p l e (cRm 9 mc ms 219) s m args below meth c A D Y 3 (MQ below (cQi post D Y A) args s mc ms A) (y.2.2.2.1) (y.2.2.2.2.1) 12 [(0, .ref (y.1)), (1, .int (y.2.1)), (2, .int (y.2.2.1))] [] (y.2.2.2.2.2)) (fun y hy => tb_X11_flushBuffer_12 C   (fun b0 b1 b2 b3 b4 S z => z) (y.1) (y.2.1) (y.2.2.1) (y.2.2.2.1) (y.2.2.2.2.1) (y.2.2.2.2.2) hy)
end S_X11_flushBuffer
set_option maxHeartbeats 1000000 in
set_option maxRecDepth 20000 in
theorem t_X11_flushBuffer (l : Launch) (mc ms : Nat) (x0 : Nat) (S : cS) (dp : Nat) {P : Int32 → cS → Prop} (h : k_X11_flushBuffer P dp mc ms x0 S) : cMet (cQi P) l yX11_flushBuffer cX11_flushBuffer 3 (some .int) 9 mc ms 219 [.ref x0] S dp := by
  intro D Y tp sz
  refine cg_body (by decide +kernel) (Nat.le_of_ble_eq_true rfl) ?_
  intro p e s m args below meth c C
  generalize va_A (cWd Y S) sz = A at C ⊢
  have C : cC p s m args meth c cX11_flushBuffer 3 (some .int) A D Y tp dp RX11 := C
  refine cg_lv (lv' := [(0, .ref x0)]) rfl ?_
  unfold k_X11_flushBuffer at h
  refine cg_aload_n C (i := 0) rfl 0 rfl dX11_flushBuffer_0 ?_
  obtain ⟨hc_1, h⟩ := h
  obtain ⟨b1, hb_b1, h⟩ := h
  refine cg_get C (k := 11) (j := 2) (.ref b1) hc_1.1 hc_1.2 (by decide) rfl (by decide) rfl (show cV _ 11 2 x0 = _ from congrArg va_rf hb_b1) cWs_wsX110 cl_X11_26 rfl dX11_flushBuffer_1 ?_
  obtain ⟨hc_4, h⟩ := h
  obtain ⟨hb_4, h⟩ := h
  refine cg_calli C (t_Jx4a65c_size_8abf5 l b1 S dp h) cc_X11_180 hc_4.1 hc_4.2 (by decide) rfl rfl ⟨by decide, by decide⟩ hb_4 rfl (Nat.le_of_ble_eq_true rfl) dX11_flushBuffer_4 (fun r_2 S_2 h => ?_)
  simp only [Nat.add_zero]
  refine cg_iconst C (x := nI 1) rfl dX11_flushBuffer_7 ?_
  refine cg_iadd C dX11_flushBuffer_8 ?_
  refine cg_nmI (fun x1_3 e_x1_3 => ?_)
  have h := h x1_3 e_x1_3
  refine cg_istore_n C (i := 1) (lv' := [(1, .int x1_3), (0, .ref x0)]) rfl (Nat.le_of_ble_eq_true rfl) rfl dX11_flushBuffer_9 ?_
  refine cg_iconst C (x := nI 0) rfl dX11_flushBuffer_10 ?_
  refine cg_istore_n C (i := 2) (lv' := [(2, .int ((nI 0))), (1, .int x1_3), (0, .ref x0)]) rfl (Nat.le_of_ble_eq_true rfl) rfl dX11_flushBuffer_11 ?_
  exact cg_sub [2, 1, 0] rfl (tl_X11_flushBuffer_12 C   x0 x1_3 (((nI 0))) 0 0 S_2 h)
def k_X11_flush (Q : Int32 → cS → Prop) (dp : Nat) (mc ms : Nat) (x0 : Nat) (S : cS) : Prop :=
cA S x0 11 ∧ ((0 ≤ mc ∧ 0 ≤ ms) ∧ (k_X11_checkUp (fun S_1 => 
cA S_1 x0 11 ∧ (((((ci S_1 366 x0)) < ((nI 200)) →
  cA S_1 x0 11 ∧ ((∃ b2 : Nat, cr S_1 354 x0 = some b2 ∧ (cA S_1 b2 12 ∧ ((0 ≤ mc ∧ 0 ≤ ms) ∧ (k_Jx4a65c_isEmpty_aae02 (fun r_3 S_3 => 
  ((r_3 = 0 →
    cA S_3 x0 11 ∧ ((∃ mc4 ms5 : Nat, 0 + mc4 ≤ mc ∧ 0 + ms5 ≤ ms ∧ (k_X11_flushBuffer (fun r_6 S_6 => 
    (0 + mc4 ≤ mc ∧ 0 + ms5 ≤ ms) ∧ (Q r_6 S_6)) dp mc4 ms5 x0 S_3)))) ∧
   (¬ r_3 = 0 →
    (0 ≤ mc ∧ 0 ≤ ms) ∧ (Q (((-1))) S_3)))) dp b2 S_1)))))) ∧
 (¬ ((ci S_1 366 x0)) < ((nI 200)) →
  False)))) dp x0 S))
set_option maxHeartbeats 1000000 in
set_option maxRecDepth 20000 in
theorem t_X11_flush (l : Launch) (mc ms : Nat) (x0 : Nat) (S : cS) (dp : Nat) {P : Int32 → cS → Prop} (h : k_X11_flush P dp mc ms x0 S) : cMet (cQi P) l yX11_flush cX11_flush 1 (some .int) 10 mc ms 241 [.ref x0] S dp := by
  intro D Y tp sz
  refine cg_body (by decide +kernel) (Nat.le_of_ble_eq_true rfl) ?_
  intro p e s m args below meth c C
  generalize va_A (cWd Y S) sz = A at C ⊢
  have C : cC p s m args meth c cX11_flush 1 (some .int) A D Y tp dp RX11 := C
  refine cg_lv (lv' := [(0, .ref x0)]) rfl ?_
  unfold k_X11_flush at h
  refine cg_aload_n C (i := 0) rfl 0 rfl dX11_flush_0 ?_
  obtain ⟨hc_1, h⟩ := h
  obtain ⟨hb_1, h⟩ := h
  refine cg_callv C (t_X11_checkUp l x0 S dp h) cc_X11_177 hc_1.1 hc_1.2 (by decide) rfl rfl ⟨by decide, by decide⟩ hb_1 rfl (Nat.le_of_ble_eq_true rfl) dX11_flush_1 (fun S_1 h => ?_)
  simp only [Nat.add_zero]
  refine cg_aload_n C (i := 0) rfl 0 rfl dX11_flush_4 ?_
  obtain ⟨hc_5, h⟩ := h
  refine cg_get C (k := 11) (j := 14) (.int (ci S_1 366 x0)) hc_5.1 hc_5.2 (by decide) rfl (by decide) rfl rfl cWs_wsX110 cl_X11_84 rfl dX11_flush_5 ?_
  refine cg_sipush C (x := nI 200) rfl dX11_flush_8 ?_
  refine cg_icmp_lt C 24 (by decide) dX11_flush_11 (fun c_ => ?_) (fun c_ => ?_)
  · have h := h.1 c_
    refine cg_aload_n C (i := 0) rfl 0 rfl dX11_flush_24 ?_
    obtain ⟨hc_25, h⟩ := h
    obtain ⟨b2, hb_b2, h⟩ := h
    refine cg_get C (k := 11) (j := 2) (.ref b2) hc_25.1 hc_25.2 (by decide) rfl (by decide) rfl (show cV _ 11 2 x0 = _ from congrArg va_rf hb_b2) cWs_wsX110 cl_X11_26 rfl dX11_flush_25 ?_
    obtain ⟨hc_28, h⟩ := h
    obtain ⟨hb_28, h⟩ := h
    refine cg_calli C (t_Jx4a65c_isEmpty_aae02 l b2 S_1 dp h) cc_X11_206 hc_28.1 hc_28.2 (by decide) rfl rfl ⟨by decide, by decide⟩ hb_28 rfl (Nat.le_of_ble_eq_true rfl) dX11_flush_28 (fun r_3 S_3 h => ?_)
    simp only [Nat.add_zero]
    refine cg_if_eq C 36 (by decide) dX11_flush_31 (fun c_ => ?_) (fun c_ => ?_)
    · have h := h.1 c_
      refine cg_aload_n C (i := 0) rfl 0 rfl dX11_flush_36 ?_
      obtain ⟨hc_37, h⟩ := h
      obtain ⟨mc4, ms5, hm_1, hm_2, h⟩ := h
      refine cg_calli C (t_X11_flushBuffer l mc4 ms5 x0 S_3 dp h) cc_X11_210 hc_37.1 hc_37.2 (by decide) rfl rfl ⟨by decide, by decide⟩ ⟨hm_1, hm_2⟩ rfl (Nat.le_of_ble_eq_true rfl) dX11_flush_37 (fun r_6 S_6 h => ?_)
      obtain ⟨hb_40, h⟩ := h
      exact cg_iret C h dX11_flush_40 hb_40.1 hb_40.2
    · have h := h.2 c_
      refine cg_iconst C (x := (-1)) rfl dX11_flush_34 ?_
      obtain ⟨hb_35, h⟩ := h
      exact cg_iret C h dX11_flush_35 hb_35.1 hb_35.2
  · have h := h.2 c_
    exact h.elim
def k_X11_due (Q : Int32 → cS → Prop) (dp : Nat) (x0 : Nat) (S : cS) : Prop :=
cA S x0 11 ∧ (k_X11_checkUp (fun S_1 => 
cA S_1 x0 11 ∧ ((∃ b2 : Nat, cr S_1 355 x0 = some b2 ∧ (cA S_1 b2 10 ∧ (k_X10_duePlace (fun r_3 S_3 => 
Q r_3 S_3) dp b2 S_1))))) dp x0 S)
set_option maxHeartbeats 1000000 in
set_option maxRecDepth 20000 in
theorem t_X11_due (l : Launch) (x0 : Nat) (S : cS) (dp : Nat) {P : Int32 → cS → Prop} (h : k_X11_due P dp x0 S) : cMet (cQi P) l yX11_due cX11_due 1 (some .int) 4 0 0 86 [.ref x0] S dp := by
  intro D Y tp sz
  refine cg_body (by decide +kernel) (Nat.le_of_ble_eq_true rfl) ?_
  intro p e s m args below meth c C
  generalize va_A (cWd Y S) sz = A at C ⊢
  have C : cC p s m args meth c cX11_due 1 (some .int) A D Y tp dp RX11 := C
  refine cg_lv (lv' := [(0, .ref x0)]) rfl ?_
  unfold k_X11_due at h
  refine cg_aload_n C (i := 0) rfl 0 rfl dX11_due_0 ?_
  obtain ⟨hc_1, h⟩ := h
  refine cg_callv C (t_X11_checkUp l x0 S dp h) cc_X11_177 hc_1.1 hc_1.2 (by decide) rfl rfl ⟨by decide, by decide⟩ ⟨by decide, by decide⟩ rfl (Nat.le_of_ble_eq_true rfl) dX11_due_1 (fun S_1 h => ?_)
  refine cg_aload_n C (i := 0) rfl 0 rfl dX11_due_4 ?_
  obtain ⟨hc_5, h⟩ := h
  obtain ⟨b2, hb_b2, h⟩ := h
  refine cg_get C (k := 11) (j := 3) (.ref b2) hc_5.1 hc_5.2 (by decide) rfl (by decide) rfl (show cV _ 11 3 x0 = _ from congrArg va_rf hb_b2) cWs_wsX110 cl_X11_35 rfl dX11_due_5 ?_
  obtain ⟨hc_8, h⟩ := h
  refine cg_calli C (t_X10_duePlace l b2 S_1 dp h) cc_X11_213 hc_8.1 hc_8.2 (by decide) rfl rfl ⟨by decide, by decide⟩ ⟨by decide, by decide⟩ rfl (Nat.le_of_ble_eq_true rfl) dX11_due_8 (fun r_3 S_3 h => ?_)
  exact cg_iret C h dX11_due_11 (by decide) (by decide)
def k_X11_merge (Q : Int32 → cS → Prop) (dp : Nat) (mc ms : Nat) (x0 : Nat) (S : cS) : Prop :=
cA S x0 11 ∧ ((0 ≤ mc ∧ 0 ≤ ms) ∧ (k_X11_checkUp (fun S_1 => 
cA S_1 x0 11 ∧ ((∃ b2 : Nat, cr S_1 355 x0 = some b2 ∧ (cA S_1 b2 10 ∧ ((0 ≤ mc ∧ 0 ≤ ms) ∧ (k_X10_duePlace (fun r_3 S_3 => 
((r_3 = (((-1))) →
  False) ∧
 (¬ r_3 = (((-1))) →
  cA S_3 x0 11 ∧ (((cr S_3 356 x0 = none →
    cA S_3 x0 11 ∧ (((((ci S_3 366 x0)) < ((nI 200)) →
      cA S_3 x0 11 ∧ ((∃ b5 : Nat, cr S_3 355 x0 = some b5 ∧ (cA S_3 b5 10 ∧ ((∃ mc6 ms7 : Nat, 0 + mc6 ≤ mc ∧ 0 + ms7 ≤ ms ∧ (k_X10_copyOf (fun r_8 S_8 => 
      cA S_8 x0 11 ∧ (∀ S9 : cS, S9 = cSr S_8 356 x0 ((some r_8)) → cA S9 x0 11 ∧ (∀ S10 : cS, S10 = cSi S9 357 x0 ((nI 0)) → cA S10 x0 11 ∧ (((cr S10 356 x0 = none →
        False) ∧
       (∀ b11 : Nat, cr S10 356 x0 = some b11 →
        cA S10 b11 10 ∧ ((0 + mc6 ≤ mc ∧ 0 + ms7 ≤ ms) ∧ (k_X10_liveCount (fun r_12 S_12 => 
        (0 + mc6 ≤ mc ∧ 0 + ms7 ≤ ms) ∧ (Q r_12 S_12)) dp b11 S10)))))))) dp mc6 ms7 b5 r_3 ((nI 3)) S_3))))))) ∧
     (¬ ((ci S_3 366 x0)) < ((nI 200)) →
      False)))) ∧
   (∀ b4 : Nat, cr S_3 356 x0 = some b4 →
    False)))))) dp b2 S_1)))))) dp x0 S))
set_option maxHeartbeats 1000000 in
set_option maxRecDepth 20000 in
theorem t_X11_merge (l : Launch) (mc ms : Nat) (x0 : Nat) (S : cS) (dp : Nat) {P : Int32 → cS → Prop} (h : k_X11_merge P dp mc ms x0 S) : cMet (cQi P) l yX11_merge cX11_merge 2 (some .int) 9 mc ms 212 [.ref x0] S dp := by
  intro D Y tp sz
  refine cg_body (by decide +kernel) (Nat.le_of_ble_eq_true rfl) ?_
  intro p e s m args below meth c C
  generalize va_A (cWd Y S) sz = A at C ⊢
  have C : cC p s m args meth c cX11_merge 2 (some .int) A D Y tp dp RX11 := C
  refine cg_lv (lv' := [(0, .ref x0)]) rfl ?_
  unfold k_X11_merge at h
  refine cg_aload_n C (i := 0) rfl 0 rfl dX11_merge_0 ?_
  obtain ⟨hc_1, h⟩ := h
  obtain ⟨hb_1, h⟩ := h
  refine cg_callv C (t_X11_checkUp l x0 S dp h) cc_X11_177 hc_1.1 hc_1.2 (by decide) rfl rfl ⟨by decide, by decide⟩ hb_1 rfl (Nat.le_of_ble_eq_true rfl) dX11_merge_1 (fun S_1 h => ?_)
  simp only [Nat.add_zero]
  refine cg_aload_n C (i := 0) rfl 0 rfl dX11_merge_4 ?_
  obtain ⟨hc_5, h⟩ := h
  obtain ⟨b2, hb_b2, h⟩ := h
  refine cg_get C (k := 11) (j := 3) (.ref b2) hc_5.1 hc_5.2 (by decide) rfl (by decide) rfl (show cV _ 11 3 x0 = _ from congrArg va_rf hb_b2) cWs_wsX110 cl_X11_35 rfl dX11_merge_5 ?_
  obtain ⟨hc_8, h⟩ := h
  obtain ⟨hb_8, h⟩ := h
  refine cg_calli C (t_X10_duePlace l b2 S_1 dp h) cc_X11_213 hc_8.1 hc_8.2 (by decide) rfl rfl ⟨by decide, by decide⟩ hb_8 rfl (Nat.le_of_ble_eq_true rfl) dX11_merge_8 (fun r_3 S_3 h => ?_)
  simp only [Nat.add_zero]
  refine cg_istore_n C (i := 1) (lv' := [(1, .int r_3), (0, .ref x0)]) rfl (Nat.le_of_ble_eq_true rfl) rfl dX11_merge_11 ?_
  refine cg_iload_n C (i := 1) rfl 0 rfl dX11_merge_12 ?_
  refine cg_iconst C (x := (-1)) rfl dX11_merge_13 ?_
  refine cg_icmp_eq C 34 (by decide) dX11_merge_14 (fun c_ => ?_) (fun c_ => ?_)
  · have h := h.1 c_
    exact h.elim
  · have h := h.2 c_
    refine cg_aload_n C (i := 0) rfl 1 rfl dX11_merge_17 ?_
    obtain ⟨hc_18, h⟩ := h
    obtain ho | ⟨b4, ho⟩ := c_opt (cr S_3 356 x0)
    · have h := h.1 ho
      refine cg_get C (k := 11) (j := 4) (.null) hc_18.1 hc_18.2 (by decide) rfl (by decide) rfl (show cV _ 11 4 x0 = _ from congrArg va_rf ho) cWs_wsX110 cl_X11_39 rfl dX11_merge_18 ?_
      refine cg_ifnonnullN C dX11_merge_21 ?_
      refine cg_aload_n C (i := 0) rfl 1 rfl dX11_merge_24 ?_
      obtain ⟨hc_25, h⟩ := h
      refine cg_get C (k := 11) (j := 14) (.int (ci S_3 366 x0)) hc_25.1 hc_25.2 (by decide) rfl (by decide) rfl rfl cWs_wsX110 cl_X11_84 rfl dX11_merge_25 ?_
      refine cg_sipush C (x := nI 200) rfl dX11_merge_28 ?_
      refine cg_icmp_lt C 44 (by decide) dX11_merge_31 (fun c_ => ?_) (fun c_ => ?_)
      · have h := h.1 c_
        refine cg_aload_n C (i := 0) rfl 1 rfl dX11_merge_44 ?_
        refine cg_aload_n C (i := 0) rfl 1 rfl dX11_merge_45 ?_
        obtain ⟨hc_46, h⟩ := h
        obtain ⟨b5, hb_b5, h⟩ := h
        refine cg_get C (k := 11) (j := 3) (.ref b5) hc_46.1 hc_46.2 (by decide) rfl (by decide) rfl (show cV _ 11 3 x0 = _ from congrArg va_rf hb_b5) cWs_wsX110 cl_X11_35 rfl dX11_merge_46 ?_
        refine cg_iload_n C (i := 1) rfl 0 rfl dX11_merge_49 ?_
        refine cg_iconst C (x := nI 3) rfl dX11_merge_50 ?_
        obtain ⟨hc_51, h⟩ := h
        obtain ⟨mc6, ms7, hm_1, hm_2, h⟩ := h
        refine cg_callr C (t_X10_copyOf l mc6 ms7 b5 r_3 ((nI 3)) S_3 dp h) cc_X11_218 hc_51.1 hc_51.2 (by decide) rfl rfl ⟨by decide, by decide⟩ ⟨hm_1, hm_2⟩ rfl (Nat.le_of_ble_eq_true rfl) dX11_merge_51 (fun r_8 S_8 h => ?_)
        obtain ⟨hc_54, h⟩ := h
        refine cg_putr C (k := 11) (j := 4) (x := (some r_8)) (ty := tyX11) (fty := tyX11 4) hc_54.1 hc_54.2 (by decide) rfl (by decide) rfl (by decide) rfl cWs_wsX110 tyX11_ok nmX11 cl_X11_39 rfl rfl rfl rfl rfl dX11_merge_54 ?_
        refine cg_nm (fun S9 e_S9 => ?_)
        have h := h S9 e_S9
        refine cg_aload_n C (i := 0) rfl 1 rfl dX11_merge_57 ?_
        refine cg_iconst C (x := nI 0) rfl dX11_merge_58 ?_
        obtain ⟨hc_59, h⟩ := h
        refine cg_puti C (k := 11) (j := 5) (ty := tyX11) (fty := .int) hc_59.1 hc_59.2 (by decide) rfl (by decide) rfl (by decide) rfl cWs_wsX110 tyX11_ok nmX11 cl_X11_42 rfl rfl rfl rfl rfl dX11_merge_59 ?_
        refine cg_nm (fun S10 e_S10 => ?_)
        have h := h S10 e_S10
        refine cg_aload_n C (i := 0) rfl 1 rfl dX11_merge_62 ?_
        obtain ⟨hc_63, h⟩ := h
        obtain ho | ⟨b11, ho⟩ := c_opt (cr S10 356 x0)
        · have h := h.1 ho
          refine cg_get C (k := 11) (j := 4) (.null) hc_63.1 hc_63.2 (by decide) rfl (by decide) rfl (show cV _ 11 4 x0 = _ from congrArg va_rf ho) cWs_wsX110 cl_X11_39 rfl dX11_merge_63 ?_
          exact h.elim
        · have h := h.2 b11 ho
          refine cg_get C (k := 11) (j := 4) (.ref b11) hc_63.1 hc_63.2 (by decide) rfl (by decide) rfl (show cV _ 11 4 x0 = _ from congrArg va_rf ho) cWs_wsX110 cl_X11_39 rfl dX11_merge_63 ?_
          obtain ⟨hc_66, h⟩ := h
          obtain ⟨hb_66, h⟩ := h
          refine cg_calli C (t_X10_liveCount l b11 S10 dp h) cc_X11_222 hc_66.1 hc_66.2 (by decide) rfl rfl ⟨by decide, by decide⟩ hb_66 rfl (Nat.le_of_ble_eq_true rfl) dX11_merge_66 (fun r_12 S_12 h => ?_)
          simp only [Nat.add_zero]
          obtain ⟨hb_69, h⟩ := h
          exact cg_iret C h dX11_merge_69 hb_69.1 hb_69.2
      · have h := h.2 c_
        exact h.elim
    · have h := h.2 b4 ho
      refine cg_get C (k := 11) (j := 4) (.ref b4) hc_18.1 hc_18.2 (by decide) rfl (by decide) rfl (show cV _ 11 4 x0 = _ from congrArg va_rf ho) cWs_wsX110 cl_X11_39 rfl dX11_merge_18 ?_
      refine cg_ifnonnull C 34 (by decide) dX11_merge_21 ?_
      exact h.elim
def k_X11_endMerge_112 (Q : cS → Prop) (dp : Nat) (mc ms : Nat)  (x0 : Nat) (cd dd : Nat) (S : cS) : Prop :=
cA S x0 11 ∧ (∀ S12 : cS, S12 = cSr S 356 x0 none → cA S12 x0 11 ∧ (∀ S13 : cS, S13 = cSi S12 357 x0 ((nI 0)) → (cd ≤ mc ∧ dd ≤ ms) ∧ (Q S13)))
def k_X11_endMerge_68 (Q : cS → Prop) (dp : Nat) (mc ms : Nat) (R68 : Nat → Nat → Int32 → Nat → Int32 → Nat → Nat → cS → Prop) (x0 : Nat) (x3 : Nat) (x4 : Int32) (x6 : Nat) (x7 : Int32) (cd dd : Nat) (S : cS) : Prop :=
cA S x3 12 ∧ ((cd ≤ mc ∧ dd ≤ ms) ∧ (k_Jx4a65c_size_8abf5 (fun r_28 S_28 => 
((r_28 ≤ x7 →
  cA S_28 x0 11 ∧ ((∃ b29 : Nat, cr S_28 355 x0 = some b29 ∧ (cA S_28 b29 10 ∧ ((∃ mc30 ms31 : Nat, cd + mc30 ≤ mc ∧ dd + ms31 ≤ ms ∧ (k_X10_put (fun S_32 => 
  k_X11_endMerge_112 Q dp mc ms  x0 (cd + mc30) (dd + ms31) S_32) dp mc30 ms31 b29 x4 x6 S_28))))))) ∧
 (¬ r_28 ≤ x7 →
  cA S_28 x3 12 ∧ ((cd ≤ mc ∧ dd ≤ ms) ∧ (k_Jx4a65c_get_915e3 (fun r_33 S_33 => 
  cA S_33 r_33 0 ∧ (cA S_33 r_33 0 ∧ (cA S_33 x6 2 ∧ ((cd ≤ mc ∧ dd ≤ ms) ∧ (k_X2_kill (fun r_34 S_34 => 
  ∀ x7_35 : Int32, x7_35 = x7 + nI 1 → R68 x0 x3 x4 x6 x7_35 cd dd S_34) dp x6 ((ci S_33 0 r_33)) S_33))))) dp x3 x7 S_28))))) dp x3 S))
def k_X11_endMerge_68L (Q : cS → Prop) (dp : Nat) (mc ms : Nat)  (x0 : Nat) (x3 : Nat) (x4 : Int32) (x6 : Nat) (x7 : Int32) (cd dd : Nat) (S : cS) : Prop :=
  lfp (X := Nat × Nat × Int32 × Nat × Int32 × Nat × Nat × cS) (fun P y => k_X11_endMerge_68 Q dp mc ms  (fun b0 b1 b2 b3 b4 b5 b6 S => P (b0, b1, b2, b3, b4, b5, b6, S)) y.1 y.2.1 y.2.2.1 y.2.2.2.1 y.2.2.2.2.1 y.2.2.2.2.2.1 y.2.2.2.2.2.2.1 y.2.2.2.2.2.2.2) (x0, x3, x4, x6, x7, cd, dd, S)
def k_X11_endMerge (Q : cS → Prop) (dp : Nat) (mc ms : Nat) (x0 : Nat) (x1 : Nat) (S : cS) : Prop :=
(0 + 1 ≤ mc ∧ 0 + 3 ≤ ms) ∧ (∀ q1 : Nat, q1 ∉ cL S → ∀ S2 : cS, S2 = cNew S q1 12 → (0 + 1 ≤ mc ∧ 0 + 3 ≤ ms) ∧ (k_Jx4a65c_init_da8c8 (fun S_3 => 
(0 + 1 + 1 ≤ mc ∧ 0 + 3 + 3 ≤ ms) ∧ (∀ q4 : Nat, q4 ∉ cL S_3 → ∀ S5 : cS, S5 = cNew S_3 q4 12 → (0 + 1 + 1 ≤ mc ∧ 0 + 3 + 3 ≤ ms) ∧ (k_Jx4a65c_init_da8c8 (fun S_6 => 
cA S_6 x0 11 ∧ ((∃ b7 : Nat, cr S_6 355 x0 = some b7 ∧ (cA S_6 b7 10 ∧ ((∃ mc8 ms9 : Nat, 0 + 1 + 1 + mc8 ≤ mc ∧ 0 + 3 + 3 + ms9 ≤ ms ∧ (k_X10_takeOut (fun r_10 S_10 => 
cA S_10 q1 12 ∧ ((0 + 1 + 1 + mc8 ≤ mc ∧ 0 + 3 + 3 + ms9 ≤ ms) ∧ (k_Jx4a65c_isEmpty_aae02 (fun r_11 S_11 => 
((¬ r_11 = 0 →
  k_X11_endMerge_112 Q dp mc ms  x0 (0 + 1 + 1 + mc8) (0 + 3 + 3 + ms9) S_11) ∧
 (r_11 = 0 →
  cA S_11 x0 11 ∧ ((∃ mc14 ms15 : Nat, 0 + 1 + 1 + mc8 + mc14 ≤ mc ∧ 0 + 3 + 3 + ms9 + ms15 ≤ ms ∧ (k_X11_newSegment (fun r_16 S_16 => 
  cA S_16 r_16 8 ∧ ((∃ mc17 ms18 : Nat, 0 + 1 + 1 + mc8 + mc14 + mc17 ≤ mc ∧ 0 + 3 + 3 + ms9 + ms15 + ms18 ≤ ms ∧ (k_X8_readTexts (fun S_19 => 
  cA S_19 r_16 8 ∧ ((∃ mc20 ms21 : Nat, 0 + 1 + 1 + mc8 + mc14 + mc17 + mc20 ≤ mc ∧ 0 + 3 + 3 + ms9 + ms15 + ms18 + ms21 ≤ ms ∧ (k_X8_readTexts (fun S_22 => 
  (0 + 1 + 1 + mc8 + mc14 + mc17 + mc20 + 1 ≤ mc ∧ 0 + 3 + 3 + ms9 + ms15 + ms18 + ms21 + 2 ≤ ms) ∧ (∀ q23 : Nat, q23 ∉ cL S_22 → ∀ S24 : cS, S24 = cNew S_22 q23 2 → (∃ mc25 ms26 : Nat, 0 + 1 + 1 + mc8 + mc14 + mc17 + mc20 + 1 + mc25 ≤ mc ∧ 0 + 3 + 3 + ms9 + ms15 + ms18 + ms21 + 2 + ms26 ≤ ms ∧ (k_X2_init (fun S_27 => 
  k_X11_endMerge_68L Q dp mc ms  x0 q4 r_10 q23 (((nI 0))) (0 + 1 + 1 + mc8 + mc14 + mc17 + mc20 + 1 + mc25) (0 + 3 + 3 + ms9 + ms15 + ms18 + ms21 + 2 + ms26) S_27) dp mc25 ms26 q23 r_16 S24)))) dp mc20 ms21 r_16 ((nI 1)) S_19)))) dp mc17 ms18 r_16 ((nI 0)) S_16)))) dp mc14 ms15 x0 q1 S_11)))))) dp q1 S_10))) dp mc8 ms9 b7 x1 q1 q4 S_6))))))) dp q4 S5))) dp q1 S2))
section S_X11_endMerge
variable {p : Program} {l : Launch} {e : Env} {s : State} {m : MethodId} {args : Array Value} {below : List Frame} {meth : Method} {c : Code} {A : Nat → Prop} {D : va_G} {Y : cY} {tp dp : Nat}
set_option maxRecDepth 20000 in
theorem tb_X11_endMerge_112 {mc ms : Nat} (C : cC p s m args meth c cX11_endMerge 8 none A D Y tp dp RX11) {post : cS → Prop}   (x0 : Nat) (cd dd : Nat) (S : cS) (h : k_X11_endMerge_112 post dp mc ms  x0 cd dd S) : cG p l e (cRm 10 mc ms 239) s m args below meth c A D Y 8 (MQ below (cQv post D Y A) args s mc ms A) cd dd 112 [(0, .ref x0)] [] S := by
  unfold k_X11_endMerge_112 at h
  refine cg_aload_n C (i := 0) rfl 0 rfl dX11_endMerge_112 ?_
  refine cg_null C dX11_endMerge_113 ?_
  obtain ⟨hc_114, h⟩ := h
  refine cg_putr C (k := 11) (j := 4) (x := none) (ty := tyX11) (fty := tyX11 4) hc_114.1 hc_114.2 (by decide) rfl (by decide) rfl (by decide) rfl cWs_wsX110 tyX11_ok nmX11 cl_X11_39 rfl rfl rfl rfl rfl dX11_endMerge_114 ?_
  refine cg_nm (fun S12 e_S12 => ?_)
  have h := h S12 e_S12
  refine cg_aload_n C (i := 0) rfl 0 rfl dX11_endMerge_117 ?_
  refine cg_iconst C (x := nI 0) rfl dX11_endMerge_118 ?_
  obtain ⟨hc_119, h⟩ := h
  refine cg_puti C (k := 11) (j := 5) (ty := tyX11) (fty := .int) hc_119.1 hc_119.2 (by decide) rfl (by decide) rfl (by decide) rfl cWs_wsX110 tyX11_ok nmX11 cl_X11_42 rfl rfl rfl rfl rfl dX11_endMerge_119 ?_
  refine cg_nm (fun S13 e_S13 => ?_)
  have h := h S13 e_S13
  obtain ⟨hb_122, h⟩ := h
  exact cg_vret C h dX11_endMerge_122 hb_122.1 hb_122.2
set_option maxRecDepth 20000 in
theorem tb_X11_endMerge_68 {mc ms : Nat} (C : cC p s m args meth c cX11_endMerge 8 none A D Y tp dp RX11) {post : cS → Prop} {R68 : Nat → Nat → Int32 → Nat → Int32 → Nat → Nat → cS → Prop} (hR68 : ∀ (x0 : Nat) (x3 : Nat) (x4 : Int32) (x6 : Nat) (x7 : Int32) (cd dd : Nat) (S : cS), R68 x0 x3 x4 x6 x7 cd dd S → cG p l e (cRm 10 mc ms 239) s m args below meth c A D Y 8 (MQ below (cQv post D Y A) args s mc ms A) cd dd 68 [(0, .ref x0), (3, .ref x3), (4, .int x4), (6, .ref x6), (7, .int x7)] [] S) (x0 : Nat) (x3 : Nat) (x4 : Int32) (x6 : Nat) (x7 : Int32) (cd dd : Nat) (S : cS) (h : k_X11_endMerge_68 post dp mc ms R68 x0 x3 x4 x6 x7 cd dd S) : cG p l e (cRm 10 mc ms 239) s m args below meth c A D Y 8 (MQ below (cQv post D Y A) args s mc ms A) cd dd 68 [(0, .ref x0), (3, .ref x3), (4, .int x4), (6, .ref x6), (7, .int x7)] [] S := by
  unfold k_X11_endMerge_68 at h
  refine cg_iload C 4 rfl dX11_endMerge_68 ?_
  refine cg_aload_n C (i := 3) rfl 1 rfl dX11_endMerge_70 ?_
  obtain ⟨hc_71, h⟩ := h
  obtain ⟨hb_71, h⟩ := h
  refine cg_calli C (t_Jx4a65c_size_8abf5 l x3 S dp h) cc_X11_180 hc_71.1 hc_71.2 (by decide) rfl rfl ⟨by decide, by decide⟩ hb_71 rfl (Nat.le_of_ble_eq_true rfl) dX11_endMerge_71 (fun r_28 S_28 h => ?_)
  simp only [Nat.add_zero]
  refine cg_icmp_ge C 101 (by decide) dX11_endMerge_74 (fun c_ => ?_) (fun c_ => ?_)
  · have h := h.1 c_
    refine cg_aload_n C (i := 0) rfl 0 rfl dX11_endMerge_101 ?_
    obtain ⟨hc_102, h⟩ := h
    obtain ⟨b29, hb_b29, h⟩ := h
    refine cg_get C (k := 11) (j := 3) (.ref b29) hc_102.1 hc_102.2 (by decide) rfl (by decide) rfl (show cV _ 11 3 x0 = _ from congrArg va_rf hb_b29) cWs_wsX110 cl_X11_35 rfl dX11_endMerge_102 ?_
    refine cg_iload C 2 rfl dX11_endMerge_105 ?_
    refine cg_aload C 3 rfl dX11_endMerge_107 ?_
    obtain ⟨hc_109, h⟩ := h
    obtain ⟨mc30, ms31, hm_1, hm_2, h⟩ := h
    refine cg_callv C (t_X10_put l mc30 ms31 b29 x4 x6 S_28 dp h) cc_X11_515 hc_109.1 hc_109.2 (by decide) rfl rfl ⟨by decide, by decide⟩ ⟨hm_1, hm_2⟩ rfl (Nat.le_of_ble_eq_true rfl) dX11_endMerge_109 (fun S_32 h => ?_)
    exact cg_sub [0] rfl (tb_X11_endMerge_112 C   x0 (cd + mc30) (dd + ms31) S_32 h)
  · have h := h.2 c_
    refine cg_aload C 3 rfl dX11_endMerge_77 ?_
    refine cg_aload_n C (i := 3) rfl 1 rfl dX11_endMerge_79 ?_
    refine cg_iload C 4 rfl dX11_endMerge_80 ?_
    obtain ⟨hc_82, h⟩ := h
    obtain ⟨hb_82, h⟩ := h
    refine cg_callr C (t_Jx4a65c_get_915e3 l x3 x7 S_28 dp h) cc_X11_277 hc_82.1 hc_82.2 (by decide) rfl rfl ⟨by decide, by decide⟩ hb_82 rfl (Nat.le_of_ble_eq_true rfl) dX11_endMerge_82 (fun r_33 S_33 h => ?_)
    simp only [Nat.add_zero]
    obtain ⟨hc_85, h⟩ := h
    refine cg_ccast C (k := 0) hc_85.1 hc_85.2 (by decide) rfl cnc_X11_16 dX11_endMerge_85 ?_
    obtain ⟨hc_88, h⟩ := h
    refine cg_get C (k := 0) (j := 0) (.int (ci S_33 0 r_33)) hc_88.1 hc_88.2 (by decide) rfl (by decide) rfl rfl cWs_wsX00 cl_X11_193 rfl dX11_endMerge_88 ?_
    obtain ⟨hc_91, h⟩ := h
    obtain ⟨hb_91, h⟩ := h
    refine cg_calli C (t_X2_kill l x6 ((ci S_33 0 r_33)) S_33 dp h) cc_X11_524 hc_91.1 hc_91.2 (by decide) rfl rfl ⟨by decide, by decide⟩ hb_91 rfl (Nat.le_of_ble_eq_true rfl) dX11_endMerge_91 (fun r_34 S_34 h => ?_)
    simp only [Nat.add_zero]
    refine cg_pop C rfl dX11_endMerge_94 ?_
    obtain ⟨x7_35, e_x7_35⟩ : ∃ z : Int32, z = x7 + nI 1 := ⟨_, rfl⟩
    have h := h x7_35 e_x7_35
    refine cg_iinc C (lv' := [(7, .int x7_35), (0, .ref x0), (3, .ref x3), (4, .int x4), (6, .ref x6)]) 4 rfl (by rw [e_x7_35]; rfl) (Nat.le_of_ble_eq_true rfl) rfl dX11_endMerge_95 ?_
    refine cg_goto C 68 (by decide) dX11_endMerge_98 ?_
    exact cg_sub [1, 2, 3, 4, 0] rfl (hR68 x0 x3 x4 x6 x7_35 cd dd S_34 h)
set_option maxRecDepth 20000 in
theorem tl_X11_endMerge_68 {mc ms : Nat} (C : cC p s m args meth c cX11_endMerge 8 none A D Y tp dp RX11) {post : cS → Prop}   (x0 : Nat) (x3 : Nat) (x4 : Int32) (x6 : Nat) (x7 : Int32) (cd dd : Nat) (S : cS) (h : k_X11_endMerge_68L post dp mc ms  x0 x3 x4 x6 x7 cd dd S) : cG p l e (cRm 10 mc ms 239) s m args below meth c A D Y 8 (MQ below (cQv post D Y A) args s mc ms A) cd dd 68 [(0, .ref x0), (3, .ref x3), (4, .int x4), (6, .ref x6), (7, .int x7)] [] S :=
  h (fun y => cG p l e (cRm 10 mc ms 239) s m args below meth c A D Y 8 (MQ below (cQv post D Y A) args s mc ms A) (y.2.2.2.2.2.1) (y.2.2.2.2.2.2.1) 68 [(0, .ref (y.1)), (3, .ref (y.2.1)), (4, .int (y.2.2.1)), (6, .ref (y.2.2.2.1)), (7, .int (y.2.2.2.2.1))] [] (y.2.2.2.2.2.2.2)) (fun y hy => tb_X11_endMerge_68 C   (fun b0 b1 b2 b3 b4 b5 b6 S z => z) (y.1) (y.2.1) (y.2.2.1) (y.2.2.2.1) (y.2.2.2.2.1) (y.2.2.2.2.2.1) (y.2.2.2.2.2.2.1) (y.2.2.2.2.2.2.2) hy)
end S_X11_endMerge
set_option maxHeartbeats 1000000 in
set_option maxRecDepth 20000 in
theorem t_X11_endMerge (l : Launch) (mc ms : Nat) (x0 : Nat) (x1 : Nat) (S : cS) (dp : Nat) {P : cS → Prop} (h : k_X11_endMerge P dp mc ms x0 x1 S) : cMet (cQv P) l yX11_endMerge cX11_endMerge 8 none 10 mc ms 239 [.ref x0, .ref x1] S dp := by
  intro D Y tp sz
  refine cg_body (by decide +kernel) (Nat.le_of_ble_eq_true rfl) ?_
  intro p e s m args below meth c C
  generalize va_A (cWd Y S) sz = A at C ⊢
  have C : cC p s m args meth c cX11_endMerge 8 none A D Y tp dp RX11 := C
  refine cg_lv (lv' := [(0, .ref x0), (1, .ref x1)]) rfl ?_
  unfold k_X11_endMerge at h
  obtain ⟨hc_0, h⟩ := h
  refine cg_new C (k := 12) (N := 3) (fs := [.int 0, .null, .int 0]) (by decide) rfl cWs_wsJx4a65c0 tyJx4a65c_ok cn_X11_23 ci_Jx4a65c ct_Jx4a65c (fun j_ hj_ => by rcases (show j_ = 0 ∨ j_ = 1 ∨ j_ = 2 by omega) with rfl | rfl | rfl <;> rfl) rfl hc_0.1 hc_0.2 dX11_endMerge_0 (fun q1 hf_q1 => ?_)
  have h := h q1 hf_q1
  refine cg_nm (fun S2 e_S2 => ?_)
  have h := h S2 e_S2
  refine cg_dup C rfl dX11_endMerge_3 ?_
  obtain ⟨hb_4, h⟩ := h
  refine cg_callI C (t_Jx4a65c_init_da8c8 l q1 S2 dp h) cz_X11_25 rfl ⟨by decide, by decide⟩ hb_4 rfl (Nat.le_of_ble_eq_true rfl) dX11_endMerge_4 (fun S_3 h => ?_)
  simp only [Nat.add_zero]
  refine cg_astore_n (lv' := [(2, .ref q1), (0, .ref x0), (1, .ref x1)]) C (i := 2) rfl (Nat.le_of_ble_eq_true rfl) rfl dX11_endMerge_7 ?_
  obtain ⟨hc_8, h⟩ := h
  refine cg_new C (k := 12) (N := 3) (fs := [.int 0, .null, .int 0]) (by decide) rfl cWs_wsJx4a65c0 tyJx4a65c_ok cn_X11_23 ci_Jx4a65c ct_Jx4a65c (fun j_ hj_ => by rcases (show j_ = 0 ∨ j_ = 1 ∨ j_ = 2 by omega) with rfl | rfl | rfl <;> rfl) rfl hc_8.1 hc_8.2 dX11_endMerge_8 (fun q4 hf_q4 => ?_)
  have h := h q4 hf_q4
  refine cg_nm (fun S5 e_S5 => ?_)
  have h := h S5 e_S5
  refine cg_dup C rfl dX11_endMerge_11 ?_
  obtain ⟨hb_12, h⟩ := h
  refine cg_callI C (t_Jx4a65c_init_da8c8 l q4 S5 dp h) cz_X11_25 rfl ⟨by decide, by decide⟩ hb_12 rfl (Nat.le_of_ble_eq_true rfl) dX11_endMerge_12 (fun S_6 h => ?_)
  simp only [Nat.add_zero]
  refine cg_astore_n (lv' := [(3, .ref q4), (2, .ref q1), (0, .ref x0), (1, .ref x1)]) C (i := 3) rfl (Nat.le_of_ble_eq_true rfl) rfl dX11_endMerge_15 ?_
  refine cg_aload_n C (i := 0) rfl 2 rfl dX11_endMerge_16 ?_
  obtain ⟨hc_17, h⟩ := h
  obtain ⟨b7, hb_b7, h⟩ := h
  refine cg_get C (k := 11) (j := 3) (.ref b7) hc_17.1 hc_17.2 (by decide) rfl (by decide) rfl (show cV _ 11 3 x0 = _ from congrArg va_rf hb_b7) cWs_wsX110 cl_X11_35 rfl dX11_endMerge_17 ?_
  refine cg_aload_n C (i := 1) rfl 3 rfl dX11_endMerge_20 ?_
  refine cg_aload_n C (i := 2) rfl 1 rfl dX11_endMerge_21 ?_
  refine cg_aload_n C (i := 3) rfl 0 rfl dX11_endMerge_22 ?_
  obtain ⟨hc_23, h⟩ := h
  obtain ⟨mc8, ms9, hm_1, hm_2, h⟩ := h
  refine cg_calli C (t_X10_takeOut l mc8 ms9 b7 x1 q1 q4 S_6 dp h) cc_X11_520 hc_23.1 hc_23.2 (by decide) rfl rfl ⟨by decide, by decide⟩ ⟨hm_1, hm_2⟩ rfl (Nat.le_of_ble_eq_true rfl) dX11_endMerge_23 (fun r_10 S_10 h => ?_)
  refine cg_istore C (lv' := [(4, .int r_10), (3, .ref q4), (2, .ref q1), (0, .ref x0), (1, .ref x1)]) (Nat.le_of_ble_eq_true rfl) rfl dX11_endMerge_26 ?_
  refine cg_aload_n C (i := 2) rfl 2 rfl dX11_endMerge_28 ?_
  obtain ⟨hc_29, h⟩ := h
  obtain ⟨hb_29, h⟩ := h
  refine cg_calli C (t_Jx4a65c_isEmpty_aae02 l q1 S_10 dp h) cc_X11_206 hc_29.1 hc_29.2 (by decide) rfl rfl ⟨by decide, by decide⟩ hb_29 rfl (Nat.le_of_ble_eq_true rfl) dX11_endMerge_29 (fun r_11 S_11 h => ?_)
  simp only [Nat.add_zero]
  refine cg_if_ne C 112 (by decide) dX11_endMerge_32 (fun c_ => ?_) (fun c_ => ?_)
  · have h := h.1 c_
    exact cg_sub [3] rfl (tb_X11_endMerge_112 C   x0 (0 + 1 + 1 + mc8) (0 + 3 + 3 + ms9) S_11 h)
  · have h := h.2 c_
    refine cg_aload_n C (i := 0) rfl 3 rfl dX11_endMerge_35 ?_
    refine cg_aload_n C (i := 2) rfl 2 rfl dX11_endMerge_36 ?_
    obtain ⟨hc_37, h⟩ := h
    obtain ⟨mc14, ms15, hm_1, hm_2, h⟩ := h
    refine cg_callr C (t_X11_newSegment l mc14 ms15 x0 q1 S_11 dp h) cc_X11_505 hc_37.1 hc_37.2 (by decide) rfl rfl ⟨by decide, by decide⟩ ⟨hm_1, hm_2⟩ rfl (Nat.le_of_ble_eq_true rfl) dX11_endMerge_37 (fun r_16 S_16 h => ?_)
    refine cg_astore (lv' := [(5, .ref r_16), (4, .int r_10), (3, .ref q4), (2, .ref q1), (0, .ref x0), (1, .ref x1)]) C (Nat.le_of_ble_eq_true rfl) rfl dX11_endMerge_40 ?_
    refine cg_aload C 0 rfl dX11_endMerge_42 ?_
    refine cg_iconst C (x := nI 0) rfl dX11_endMerge_44 ?_
    obtain ⟨hc_45, h⟩ := h
    obtain ⟨mc17, ms18, hm_1, hm_2, h⟩ := h
    refine cg_callv C (t_X8_readTexts l mc17 ms18 r_16 ((nI 0)) S_16 dp h) cc_X11_509 hc_45.1 hc_45.2 (by decide) rfl rfl ⟨by decide, by decide⟩ ⟨hm_1, hm_2⟩ rfl (Nat.le_of_ble_eq_true rfl) dX11_endMerge_45 (fun S_19 h => ?_)
    refine cg_aload C 0 rfl dX11_endMerge_48 ?_
    refine cg_iconst C (x := nI 1) rfl dX11_endMerge_50 ?_
    obtain ⟨hc_51, h⟩ := h
    obtain ⟨mc20, ms21, hm_1, hm_2, h⟩ := h
    refine cg_callv C (t_X8_readTexts l mc20 ms21 r_16 ((nI 1)) S_19 dp h) cc_X11_509 hc_51.1 hc_51.2 (by decide) rfl rfl ⟨by decide, by decide⟩ ⟨hm_1, hm_2⟩ rfl (Nat.le_of_ble_eq_true rfl) dX11_endMerge_51 (fun S_22 h => ?_)
    obtain ⟨hc_54, h⟩ := h
    refine cg_new C (k := 2) (N := 2) (fs := [.null, .null]) (by decide) rfl cWs_wsX20 tyX2_ok cn_X11_259 ci_X2 ct_X2 (fun j_ hj_ => by rcases (show j_ = 0 ∨ j_ = 1 by omega) with rfl | rfl <;> rfl) rfl hc_54.1 hc_54.2 dX11_endMerge_54 (fun q23 hf_q23 => ?_)
    have h := h q23 hf_q23
    refine cg_nm (fun S24 e_S24 => ?_)
    have h := h S24 e_S24
    refine cg_dup C rfl dX11_endMerge_57 ?_
    refine cg_aload C 0 rfl dX11_endMerge_58 ?_
    obtain ⟨mc25, ms26, hm_1, hm_2, h⟩ := h
    refine cg_callI C (t_X2_init l mc25 ms26 q23 r_16 S24 dp h) cz_X11_512 rfl ⟨by decide, by decide⟩ ⟨hm_1, hm_2⟩ rfl (Nat.le_of_ble_eq_true rfl) dX11_endMerge_60 (fun S_27 h => ?_)
    refine cg_astore (lv' := [(6, .ref q23), (5, .ref r_16), (4, .int r_10), (3, .ref q4), (2, .ref q1), (0, .ref x0), (1, .ref x1)]) C (Nat.le_of_ble_eq_true rfl) rfl dX11_endMerge_63 ?_
    refine cg_iconst C (x := nI 0) rfl dX11_endMerge_65 ?_
    refine cg_istore C (lv' := [(7, .int ((nI 0))), (6, .ref q23), (5, .ref r_16), (4, .int r_10), (3, .ref q4), (2, .ref q1), (0, .ref x0), (1, .ref x1)]) (Nat.le_of_ble_eq_true rfl) rfl dX11_endMerge_66 ?_
    exact cg_sub [6, 4, 3, 1, 0] rfl (tl_X11_endMerge_68 C   x0 q4 r_10 q23 (((nI 0))) (0 + 1 + 1 + mc8 + mc14 + mc17 + mc20 + 1 + mc25) (0 + 3 + 3 + ms9 + ms15 + ms18 + ms21 + 2 + ms26) S_27 h)
