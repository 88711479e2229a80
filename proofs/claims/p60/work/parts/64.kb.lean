/-! the methods of the class as predicates, and their contracts -/
def k_X4_countedPlaces_60 (Q : Int32 → cS → Prop) (dp : Nat) (R29 : Nat → Nat → Int32 → Int32 → cS → Prop) (x0 : Nat) (x1 : Nat) (x2 : Int32) (x3 : Int32) (S : cS) : Prop :=
∀ x3_3 : Int32, x3_3 = x3 + nI 1 → R29 x0 x1 x2 x3_3 S
def k_X4_countedPlaces_29 (Q : Int32 → cS → Prop) (dp : Nat) (R29 : Nat → Nat → Int32 → Int32 → cS → Prop) (x0 : Nat) (x1 : Nat) (x2 : Int32) (x3 : Int32) (S : cS) : Prop :=
((((nI 20)) ≤ x3 →
  Q x2 S) ∧
 (¬ ((nI 20)) ≤ x3 →
  cX S x1 14 ((nI 0)) ∧ (((((((((cI S x1 ((nI 0)).toNatClampNeg)) >>> (x3 &&& 31))) &&& ((nI 1)))) = 0 →
    k_X4_countedPlaces_60 Q dp R29 x0 x1 x2 x3 S) ∧
   (¬ ((((((cI S x1 ((nI 0)).toNatClampNeg)) >>> (x3 &&& 31))) &&& ((nI 1)))) = 0 →
    cA S x0 4 ∧ (k_X4_isCountedAt (fun r_4 S_4 => 
    ((r_4 = 0 →
      k_X4_countedPlaces_60 Q dp R29 x0 x1 x2 x3 S_4) ∧
     (¬ r_4 = 0 →
      ∀ x2_5 : Int32, x2_5 = (x2 ||| ((((nI 1)) <<< (x3 &&& 31)))) → k_X4_countedPlaces_60 Q dp R29 x0 x1 x2_5 x3 S_4))) dp x0 x1 x3 S))))))
def k_X4_countedPlaces_29L (Q : Int32 → cS → Prop) (dp : Nat)  (x0 : Nat) (x1 : Nat) (x2 : Int32) (x3 : Int32) (S : cS) : Prop :=
  lfp (X := Nat × Nat × Int32 × Int32 × cS) (fun P y => k_X4_countedPlaces_29 Q dp  (fun b0 b1 b2 b3 S => P (b0, b1, b2, b3, S)) y.1 y.2.1 y.2.2.1 y.2.2.2.1 y.2.2.2.2) (x0, x1, x2, x3, S)
def k_X4_countedPlaces (Q : Int32 → cS → Prop) (dp : Nat) (x0 : Nat) (x1 : Nat) (S : cS) : Prop :=
cA S x1 14 ∧ (cA S x0 4 ∧ ((∃ b1 : Nat, cr S 134 x0 = some b1 ∧ (cA S b1 15 ∧ (((((nI (cn S x1))) < ((nI (cn S b1))) →
  Q ((nI 0)) S) ∧
 (¬ ((nI (cn S x1))) < ((nI (cn S b1))) →
  cA S x0 4 ∧ ((∃ b2 : Nat, cr S 134 x0 = some b2 ∧ (cA S b2 15 ∧ (((((nI (cn S b2))) = 0 →
    Q ((nI 0)) S) ∧
   (¬ ((nI (cn S b2))) = 0 →
    cA S x1 14 ∧ (((¬ ((nI (cn S x1))) = 0 →
      k_X4_countedPlaces_29L Q dp  x0 x1 (((nI 0))) (((nI 0))) S) ∧
     (((nI (cn S x1))) = 0 →
      Q ((nI 0)) S))))))))))))))))
section S_X4_countedPlaces
variable {p : Program} {l : Launch} {e : Env} {s : State} {m : MethodId} {args : Array Value} {below : List Frame} {meth : Method} {c : Code} {A : Nat → Prop} {D : va_G} {Y : cY} {tp dp : Nat}
set_option maxRecDepth 20000 in
theorem tb_X4_countedPlaces_60 (C : cC p s m args meth c cX4_countedPlaces 4 (some .int) A D Y tp dp RX4) {post : Int32 → cS → Prop} {R29 : Nat → Nat → Int32 → Int32 → cS → Prop} (hR29 : ∀ (x0 : Nat) (x1 : Nat) (x2 : Int32) (x3 : Int32) (S : cS), R29 x0 x1 x2 x3 S → cG p l e (cRm 3 0 0 60) s m args below meth c A D Y 4 (MQ below (cQi post D Y A) args s 0 0 A) 0 0 29 [(0, .ref x0), (1, .ref x1), (2, .int x2), (3, .int x3)] [] S) (x0 : Nat) (x1 : Nat) (x2 : Int32) (x3 : Int32) (S : cS) (h : k_X4_countedPlaces_60 post dp R29 x0 x1 x2 x3 S) : cG p l e (cRm 3 0 0 60) s m args below meth c A D Y 4 (MQ below (cQi post D Y A) args s 0 0 A) 0 0 60 [(0, .ref x0), (1, .ref x1), (2, .int x2), (3, .int x3)] [] S := by
  unfold k_X4_countedPlaces_60 at h
  obtain ⟨x3_3, e_x3_3⟩ : ∃ z : Int32, z = x3 + nI 1 := ⟨_, rfl⟩
  have h := h x3_3 e_x3_3
  refine cg_iinc C (lv' := [(3, .int x3_3), (0, .ref x0), (1, .ref x1), (2, .int x2)]) 3 rfl (by rw [e_x3_3]; rfl) (Nat.le_of_ble_eq_true rfl) rfl dX4_countedPlaces_60 ?_
  refine cg_goto C 29 (by decide) dX4_countedPlaces_63 ?_
  exact cg_sub [1, 2, 3, 0] rfl (hR29 x0 x1 x2 x3_3 S h)
set_option maxRecDepth 20000 in
theorem tb_X4_countedPlaces_29 (C : cC p s m args meth c cX4_countedPlaces 4 (some .int) A D Y tp dp RX4) {post : Int32 → cS → Prop} {R29 : Nat → Nat → Int32 → Int32 → cS → Prop} (hR29 : ∀ (x0 : Nat) (x1 : Nat) (x2 : Int32) (x3 : Int32) (S : cS), R29 x0 x1 x2 x3 S → cG p l e (cRm 3 0 0 60) s m args below meth c A D Y 4 (MQ below (cQi post D Y A) args s 0 0 A) 0 0 29 [(0, .ref x0), (1, .ref x1), (2, .int x2), (3, .int x3)] [] S) (x0 : Nat) (x1 : Nat) (x2 : Int32) (x3 : Int32) (S : cS) (h : k_X4_countedPlaces_29 post dp R29 x0 x1 x2 x3 S) : cG p l e (cRm 3 0 0 60) s m args below meth c A D Y 4 (MQ below (cQi post D Y A) args s 0 0 A) 0 0 29 [(0, .ref x0), (1, .ref x1), (2, .int x2), (3, .int x3)] [] S := by
  unfold k_X4_countedPlaces_29 at h
  refine cg_iload_n C (i := 3) rfl 3 rfl dX4_countedPlaces_29 ?_
  refine cg_bipush C (x := nI 20) rfl dX4_countedPlaces_30 ?_
  refine cg_icmp_ge C 66 (by decide) dX4_countedPlaces_32 (fun c_ => ?_) (fun c_ => ?_)
  · have h := h.1 c_
    refine cg_iload_n C (i := 2) rfl 2 rfl dX4_countedPlaces_66 ?_
    exact cg_iret C h dX4_countedPlaces_67 (by decide) (by decide)
  · have h := h.2 c_
    refine cg_aload_n C (i := 1) rfl 1 rfl dX4_countedPlaces_35 ?_
    refine cg_iconst C (x := nI 0) rfl dX4_countedPlaces_36 ?_
    obtain ⟨hc_37, h⟩ := h
    refine cg_ialoadR C hc_37 dX4_countedPlaces_37 ?_
    refine cg_iload_n C (i := 3) rfl 3 rfl dX4_countedPlaces_38 ?_
    refine cg_ishr C dX4_countedPlaces_39 ?_
    refine cg_iconst C (x := nI 1) rfl dX4_countedPlaces_40 ?_
    refine cg_iand C dX4_countedPlaces_41 ?_
    refine cg_if_eq C 60 (by decide) dX4_countedPlaces_42 (fun c_ => ?_) (fun c_ => ?_)
    · have h := h.1 c_
      exact cg_sub [0, 1, 2, 3] rfl (tb_X4_countedPlaces_60 C  hR29 x0 x1 x2 x3 S h)
    · have h := h.2 c_
      refine cg_aload_n C (i := 0) rfl 0 rfl dX4_countedPlaces_45 ?_
      refine cg_aload_n C (i := 1) rfl 1 rfl dX4_countedPlaces_46 ?_
      refine cg_iload_n C (i := 3) rfl 3 rfl dX4_countedPlaces_47 ?_
      obtain ⟨hc_48, h⟩ := h
      refine cg_calli C (t_X4_isCountedAt l x0 x1 x3 S dp h) cc_X4_94 hc_48.1 hc_48.2 (by decide) rfl rfl ⟨by decide, by decide⟩ ⟨by decide, by decide⟩ rfl (Nat.le_of_ble_eq_true rfl) dX4_countedPlaces_48 (fun r_4 S_4 h => ?_)
      refine cg_if_eq C 60 (by decide) dX4_countedPlaces_51 (fun c_ => ?_) (fun c_ => ?_)
      · have h := h.1 c_
        exact cg_sub [0, 1, 2, 3] rfl (tb_X4_countedPlaces_60 C  hR29 x0 x1 x2 x3 S_4 h)
      · have h := h.2 c_
        refine cg_iload_n C (i := 2) rfl 2 rfl dX4_countedPlaces_54 ?_
        refine cg_iconst C (x := nI 1) rfl dX4_countedPlaces_55 ?_
        refine cg_iload_n C (i := 3) rfl 3 rfl dX4_countedPlaces_56 ?_
        refine cg_ishl C dX4_countedPlaces_57 ?_
        refine cg_ior C dX4_countedPlaces_58 ?_
        refine cg_nmI (fun x2_5 e_x2_5 => ?_)
        have h := h x2_5 e_x2_5
        refine cg_istore_n C (i := 2) (lv' := [(2, .int x2_5), (0, .ref x0), (1, .ref x1), (3, .int x3)]) rfl (Nat.le_of_ble_eq_true rfl) rfl dX4_countedPlaces_59 ?_
        exact cg_sub [1, 2, 0, 3] rfl (tb_X4_countedPlaces_60 C  hR29 x0 x1 x2_5 x3 S_4 h)
set_option maxRecDepth 20000 in
theorem tl_X4_countedPlaces_29 (C : cC p s m args meth c cX4_countedPlaces 4 (some .int) A D Y tp dp RX4) {post : Int32 → cS → Prop}   (x0 : Nat) (x1 : Nat) (x2 : Int32) (x3 : Int32) (S : cS) (h : k_X4_countedPlaces_29L post dp  x0 x1 x2 x3 S) : cG p l e (cRm 3 0 0 60) s m args below meth c A D Y 4 (MQ below (cQi post D Y A) args s 0 0 A) 0 0 29 [(0, .ref x0), (1, .ref x1), (2, .int x2), (3, .int x3)] [] S :=
  h (fun y => cG p l e (cRm 3 0 0 60) s m args below meth c A D Y 4 (MQ below (cQi post D Y A) args s 0 0 A) 0 0 29 [(0, .ref (y.1)), (1, .ref (y.2.1)), (2, .int (y.2.2.1)), (3, .int (y.2.2.2.1))] [] (y.2.2.2.2)) (fun y hy => tb_X4_countedPlaces_29 C   (fun b0 b1 b2 b3 S z => z) (y.1) (y.2.1) (y.2.2.1) (y.2.2.2.1) (y.2.2.2.2) hy)
end S_X4_countedPlaces
set_option maxHeartbeats 1000000 in
set_option maxRecDepth 20000 in
theorem t_X4_countedPlaces (l : Launch) (x0 : Nat) (x1 : Nat) (S : cS) (dp : Nat) {P : Int32 → cS → Prop} (h : k_X4_countedPlaces P dp x0 x1 S) : cMet (cQi P) l yX4_countedPlaces cX4_countedPlaces 4 (some .int) 3 0 0 60 [.ref x0, .ref x1] S dp := by
  intro D Y tp sz
  refine cg_body (by decide +kernel) (Nat.le_of_ble_eq_true rfl) ?_
  intro p e s m args below meth c C
  generalize va_A (cWd Y S) sz = A at C ⊢
  have C : cC p s m args meth c cX4_countedPlaces 4 (some .int) A D Y tp dp RX4 := C
  refine cg_lv (lv' := [(0, .ref x0), (1, .ref x1)]) rfl ?_
  unfold k_X4_countedPlaces at h
  refine cg_aload_n C (i := 1) rfl 1 rfl dX4_countedPlaces_0 ?_
  obtain ⟨hc_1, h⟩ := h
  refine cg_alen C hc_1.1 hc_1.2 (by decide) (by decide) dX4_countedPlaces_1 ?_
  refine cg_aload_n C (i := 0) rfl 0 rfl dX4_countedPlaces_2 ?_
  obtain ⟨hc_3, h⟩ := h
  obtain ⟨b1, hb_b1, h⟩ := h
  refine cg_get C (k := 4) (j := 6) (.ref b1) hc_3.1 hc_3.2 (by decide) rfl (by decide) rfl (show cV _ 4 6 x0 = _ from congrArg va_rf hb_b1) cWs_wsX40 cl_X4_22 rfl dX4_countedPlaces_3 ?_
  obtain ⟨hc_6, h⟩ := h
  refine cg_alen C hc_6.1 hc_6.2 (by decide) (by decide) dX4_countedPlaces_6 ?_
  refine cg_icmp_lt C 23 (by decide) dX4_countedPlaces_7 (fun c_ => ?_) (fun c_ => ?_)
  · have h := h.1 c_
    refine cg_iconst C (x := nI 0) rfl dX4_countedPlaces_23 ?_
    exact cg_iret C h dX4_countedPlaces_24 (by decide) (by decide)
  · have h := h.2 c_
    refine cg_aload_n C (i := 0) rfl 0 rfl dX4_countedPlaces_10 ?_
    obtain ⟨hc_11, h⟩ := h
    obtain ⟨b2, hb_b2, h⟩ := h
    refine cg_get C (k := 4) (j := 6) (.ref b2) hc_11.1 hc_11.2 (by decide) rfl (by decide) rfl (show cV _ 4 6 x0 = _ from congrArg va_rf hb_b2) cWs_wsX40 cl_X4_22 rfl dX4_countedPlaces_11 ?_
    obtain ⟨hc_14, h⟩ := h
    refine cg_alen C hc_14.1 hc_14.2 (by decide) (by decide) dX4_countedPlaces_14 ?_
    refine cg_if_eq C 23 (by decide) dX4_countedPlaces_15 (fun c_ => ?_) (fun c_ => ?_)
    · have h := h.1 c_
      refine cg_iconst C (x := nI 0) rfl dX4_countedPlaces_23 ?_
      exact cg_iret C h dX4_countedPlaces_24 (by decide) (by decide)
    · have h := h.2 c_
      refine cg_aload_n C (i := 1) rfl 1 rfl dX4_countedPlaces_18 ?_
      obtain ⟨hc_19, h⟩ := h
      refine cg_alen C hc_19.1 hc_19.2 (by decide) (by decide) dX4_countedPlaces_19 ?_
      refine cg_if_ne C 25 (by decide) dX4_countedPlaces_20 (fun c_ => ?_) (fun c_ => ?_)
      · have h := h.1 c_
        refine cg_iconst C (x := nI 0) rfl dX4_countedPlaces_25 ?_
        refine cg_istore_n C (i := 2) (lv' := [(2, .int ((nI 0))), (0, .ref x0), (1, .ref x1)]) rfl (Nat.le_of_ble_eq_true rfl) rfl dX4_countedPlaces_26 ?_
        refine cg_iconst C (x := nI 0) rfl dX4_countedPlaces_27 ?_
        refine cg_istore_n C (i := 3) (lv' := [(3, .int ((nI 0))), (2, .int ((nI 0))), (0, .ref x0), (1, .ref x1)]) rfl (Nat.le_of_ble_eq_true rfl) rfl dX4_countedPlaces_28 ?_
        exact cg_sub [2, 3, 1, 0] rfl (tl_X4_countedPlaces_29 C   x0 x1 (((nI 0))) (((nI 0))) S h)
      · have h := h.2 c_
        refine cg_iconst C (x := nI 0) rfl dX4_countedPlaces_23 ?_
        exact cg_iret C h dX4_countedPlaces_24 (by decide) (by decide)
def k_X7_readCounted_136 (Q : cS → Prop) (dp : Nat) (R75 : Nat → Nat → Nat → Nat → Nat → Int32 → cS → Prop) (x0 : Nat) (x1 : Nat) (x2 : Nat) (x3 : Nat) (x4 : Nat) (x5 : Int32) (S : cS) : Prop :=
cA S x0 7 ∧ ((∃ b4 : Nat, cr S 228 x0 = some b4 ∧ (cX S b4 14 ((nI 0)) ∧ (cX S x4 14 x5 ∧ (∀ S5 : cS, S5 = cSI S x4 (x5).toNatClampNeg ((cI S b4 ((nI 0)).toNatClampNeg)) → cA S5 x0 7 ∧ ((∃ b6 : Nat, cr S5 228 x0 = some b6 ∧ (cA S5 x1 4 ∧ (k_X4_countedPlaces (fun r_7 S_7 => 
cX S_7 x3 14 x5 ∧ (∀ S8 : cS, S8 = cSI S_7 x3 (x5).toNatClampNeg r_7 → ∀ x5_9 : Int32, x5_9 = x5 + nI 1 → R75 x0 x1 x2 x3 x4 x5_9 S8)) dp x1 b6 S5)))))))))
def k_X7_readCounted_94 (Q : cS → Prop) (dp : Nat) (R75 : Nat → Nat → Nat → Nat → Nat → Int32 → cS → Prop) (R94 : Nat → Nat → Nat → Nat → Nat → Int32 → Int32 → cS → Prop) (x0 : Nat) (x1 : Nat) (x2 : Nat) (x3 : Nat) (x4 : Nat) (x5 : Int32) (x6 : Int32) (S : cS) : Prop :=
cA S x1 4 ∧ (k_X4_tokenCount (fun r_3 S_3 => 
((r_3 ≤ x6 →
  k_X7_readCounted_136 Q dp R75 x0 x1 x2 x3 x4 x5 S_3) ∧
 (¬ r_3 ≤ x6 →
  cA S_3 x0 7 ∧ ((∃ b10 : Nat, cr S_3 227 x0 = some b10 ∧ (cA S_3 b10 18 ∧ (((((nI (cn S_3 b10))) ≤ x6 →
    k_X7_readCounted_136 Q dp R75 x0 x1 x2 x3 x4 x5 S_3) ∧
   (¬ ((nI (cn S_3 b10))) ≤ x6 →
    cA S_3 x0 7 ∧ ((∃ b11 : Nat, cr S_3 228 x0 = some b11 ∧ (cA S_3 x0 7 ∧ ((∃ b12 : Nat, cr S_3 227 x0 = some b12 ∧ (cX S_3 b12 18 x6 ∧ ((∃ b13 : Nat, cO S_3 b12 (x6).toNatClampNeg = some b13 ∧ (cX S_3 b13 14 x5 ∧ (cX S_3 b11 14 x6 ∧ (∀ S14 : cS, S14 = cSI S_3 b11 (x6).toNatClampNeg ((cI S_3 b13 (x5).toNatClampNeg)) → ∀ x6_15 : Int32, x6_15 = x6 + nI 1 → R94 x0 x1 x2 x3 x4 x5 x6_15 S14)))))))))))))))))))) dp x1 S)
def k_X7_readCounted_94L (Q : cS → Prop) (dp : Nat) (R75 : Nat → Nat → Nat → Nat → Nat → Int32 → cS → Prop) (x0 : Nat) (x1 : Nat) (x2 : Nat) (x3 : Nat) (x4 : Nat) (x5 : Int32) (x6 : Int32) (S : cS) : Prop :=
  lfp (X := Nat × Nat × Nat × Nat × Nat × Int32 × Int32 × cS) (fun P y => k_X7_readCounted_94 Q dp R75 (fun b0 b1 b2 b3 b4 b5 b6 S => P (b0, b1, b2, b3, b4, b5, b6, S)) y.1 y.2.1 y.2.2.1 y.2.2.2.1 y.2.2.2.2.1 y.2.2.2.2.2.1 y.2.2.2.2.2.2.1 y.2.2.2.2.2.2.2) (x0, x1, x2, x3, x4, x5, x6, S)
def k_X7_readCounted_75 (Q : cS → Prop) (dp : Nat) (R75 : Nat → Nat → Nat → Nat → Nat → Int32 → cS → Prop) (x0 : Nat) (x1 : Nat) (x2 : Nat) (x3 : Nat) (x4 : Nat) (x5 : Int32) (S : cS) : Prop :=
cA S x2 8 ∧ (k_X8_size (fun r_2 S_2 => 
((r_2 ≤ x5 →
  Q S_2) ∧
 (¬ r_2 ≤ x5 →
  ((((nI 100)) ≤ x5 →
    Q S_2) ∧
   (¬ ((nI 100)) ≤ x5 →
    k_X7_readCounted_94L Q dp R75 x0 x1 x2 x3 x4 x5 (((nI 0))) S_2))))) dp x2 S)
def k_X7_readCounted_75L (Q : cS → Prop) (dp : Nat)  (x0 : Nat) (x1 : Nat) (x2 : Nat) (x3 : Nat) (x4 : Nat) (x5 : Int32) (S : cS) : Prop :=
  lfp (X := Nat × Nat × Nat × Nat × Nat × Int32 × cS) (fun P y => k_X7_readCounted_75 Q dp  (fun b0 b1 b2 b3 b4 b5 S => P (b0, b1, b2, b3, b4, b5, S)) y.1 y.2.1 y.2.2.1 y.2.2.2.1 y.2.2.2.2.1 y.2.2.2.2.2.1 y.2.2.2.2.2.2) (x0, x1, x2, x3, x4, x5, S)
def k_X7_readCounted_72 (Q : cS → Prop) (dp : Nat)  (x0 : Nat) (x1 : Nat) (x2 : Nat) (x3 : Nat) (x4 : Nat) (S : cS) : Prop :=
k_X7_readCounted_75L Q dp  x0 x1 x2 x3 x4 (((nI 0))) S
def k_X7_readCounted_66 (Q : cS → Prop) (dp : Nat) (R3 : Nat → Nat → Nat → Nat → Nat → Int32 → cS → Prop) (x0 : Nat) (x1 : Nat) (x2 : Nat) (x3 : Nat) (x4 : Nat) (x5 : Int32) (S : cS) : Prop :=
∀ x5_23 : Int32, x5_23 = x5 + nI 1 → R3 x0 x1 x2 x3 x4 x5_23 S
def k_X7_readCounted_3 (Q : cS → Prop) (dp : Nat) (R3 : Nat → Nat → Nat → Nat → Nat → Int32 → cS → Prop) (x0 : Nat) (x1 : Nat) (x2 : Nat) (x3 : Nat) (x4 : Nat) (x5 : Int32) (S : cS) : Prop :=
cA S x1 4 ∧ (k_X4_tokenCount (fun r_1 S_1 => 
((r_1 ≤ x5 →
  k_X7_readCounted_72 Q dp  x0 x1 x2 x3 x4 S_1) ∧
 (¬ r_1 ≤ x5 →
  cA S_1 x0 7 ∧ ((∃ b16 : Nat, cr S_1 227 x0 = some b16 ∧ (cA S_1 b16 18 ∧ (((((nI (cn S_1 b16))) ≤ x5 →
    k_X7_readCounted_72 Q dp  x0 x1 x2 x3 x4 S_1) ∧
   (¬ ((nI (cn S_1 b16))) ≤ x5 →
    cA S_1 x0 7 ∧ ((∃ b17 : Nat, cr S_1 227 x0 = some b17 ∧ (cX S_1 b17 18 x5 ∧ ((∃ b18 : Nat, cO S_1 b17 (x5).toNatClampNeg = some b18 ∧ (k_J7_fill_53178 (fun S_19 => 
    cA S_19 x1 4 ∧ (cA S_19 x1 4 ∧ (k_X4_tokenAt (fun r_20 S_20 => 
    cA S_20 x2 8 ∧ (k_X8_postingsOf (fun r_21 S_21 => 
    ((r_21 = none →
      k_X7_readCounted_66 Q dp R3 x0 x1 x2 x3 x4 x5 S_21) ∧
     (∀ b22 : Nat, r_21 = some b22 →
      cA S_21 x0 7 ∧ ((∃ b24 : Nat, cr S_21 227 x0 = some b24 ∧ (cX S_21 b24 18 x5 ∧ ((∃ b25 : Nat, cO S_21 b24 (x5).toNatClampNeg = some b25 ∧ (cA S_21 b22 5 ∧ (k_X5_spread (fun S_26 => 
      k_X7_readCounted_66 Q dp R3 x0 x1 x2 x3 x4 x5 S_26) dp b22 b25 S_21)))))))))) dp x2 ((ci S_19 129 x1)) r_20 S_20)) dp x1 x5 S_19))) dp b18 ((nI 0)) S_1))))))))))))))) dp x1 S)
def k_X7_readCounted_3L (Q : cS → Prop) (dp : Nat)  (x0 : Nat) (x1 : Nat) (x2 : Nat) (x3 : Nat) (x4 : Nat) (x5 : Int32) (S : cS) : Prop :=
  lfp (X := Nat × Nat × Nat × Nat × Nat × Int32 × cS) (fun P y => k_X7_readCounted_3 Q dp  (fun b0 b1 b2 b3 b4 b5 S => P (b0, b1, b2, b3, b4, b5, S)) y.1 y.2.1 y.2.2.1 y.2.2.2.1 y.2.2.2.2.1 y.2.2.2.2.2.1 y.2.2.2.2.2.2) (x0, x1, x2, x3, x4, x5, S)
def k_X7_readCounted (Q : cS → Prop) (dp : Nat) (x0 : Nat) (x1 : Nat) (x2 : Nat) (x3 : Nat) (x4 : Nat) (S : cS) : Prop :=
k_X7_readCounted_3L Q dp  x0 x1 x2 x3 x4 (((nI 0))) S
section S_X7_readCounted
variable {p : Program} {l : Launch} {e : Env} {s : State} {m : MethodId} {args : Array Value} {below : List Frame} {meth : Method} {c : Code} {A : Nat → Prop} {D : va_G} {Y : cY} {tp dp : Nat}
set_option maxRecDepth 20000 in
theorem tb_X7_readCounted_136 (C : cC p s m args meth c cX7_readCounted 7 none A D Y tp dp RX7) {post : cS → Prop} {R75 : Nat → Nat → Nat → Nat → Nat → Int32 → cS → Prop} (hR75 : ∀ (x0 : Nat) (x1 : Nat) (x2 : Nat) (x3 : Nat) (x4 : Nat) (x5 : Int32) (S : cS), R75 x0 x1 x2 x3 x4 x5 S → cG p l e (cRm 5 0 0 114) s m args below meth c A D Y 7 (MQ below (cQv post D Y A) args s 0 0 A) 0 0 75 [(0, .ref x0), (1, .ref x1), (2, .ref x2), (3, .ref x3), (4, .ref x4), (5, .int x5)] [] S) (x0 : Nat) (x1 : Nat) (x2 : Nat) (x3 : Nat) (x4 : Nat) (x5 : Int32) (S : cS) (h : k_X7_readCounted_136 post dp R75 x0 x1 x2 x3 x4 x5 S) : cG p l e (cRm 5 0 0 114) s m args below meth c A D Y 7 (MQ below (cQv post D Y A) args s 0 0 A) 0 0 136 [(0, .ref x0), (1, .ref x1), (2, .ref x2), (3, .ref x3), (4, .ref x4), (5, .int x5)] [] S := by
  unfold k_X7_readCounted_136 at h
  refine cg_aload C 4 rfl dX7_readCounted_136 ?_
  refine cg_iload C 5 rfl dX7_readCounted_138 ?_
  refine cg_aload_n C (i := 0) rfl 0 rfl dX7_readCounted_140 ?_
  obtain ⟨hc_141, h⟩ := h
  obtain ⟨b4, hb_b4, h⟩ := h
  refine cg_get C (k := 7) (j := 4) (.ref b4) hc_141.1 hc_141.2 (by decide) rfl (by decide) rfl (show cV _ 7 4 x0 = _ from congrArg va_rf hb_b4) cWs_wsX70 cl_X7_26 rfl dX7_readCounted_141 ?_
  refine cg_iconst C (x := nI 0) rfl dX7_readCounted_144 ?_
  obtain ⟨hc_145, h⟩ := h
  refine cg_ialoadR C hc_145 dX7_readCounted_145 ?_
  obtain ⟨hc_146, h⟩ := h
  refine cg_iastoreR C hc_146 dX7_readCounted_146 ?_
  refine cg_nm (fun S5 e_S5 => ?_)
  have h := h S5 e_S5
  refine cg_aload_n C (i := 3) rfl 3 rfl dX7_readCounted_147 ?_
  refine cg_iload C 5 rfl dX7_readCounted_148 ?_
  refine cg_aload_n C (i := 1) rfl 1 rfl dX7_readCounted_150 ?_
  refine cg_aload_n C (i := 0) rfl 0 rfl dX7_readCounted_151 ?_
  obtain ⟨hc_152, h⟩ := h
  obtain ⟨b6, hb_b6, h⟩ := h
  refine cg_get C (k := 7) (j := 4) (.ref b6) hc_152.1 hc_152.2 (by decide) rfl (by decide) rfl (show cV _ 7 4 x0 = _ from congrArg va_rf hb_b6) cWs_wsX70 cl_X7_26 rfl dX7_readCounted_152 ?_
  obtain ⟨hc_155, h⟩ := h
  refine cg_calli C (t_X4_countedPlaces l x1 b6 S5 dp h) cc_X7_129 hc_155.1 hc_155.2 (by decide) rfl rfl ⟨by decide, by decide⟩ ⟨by decide, by decide⟩ rfl (Nat.le_of_ble_eq_true rfl) dX7_readCounted_155 (fun r_7 S_7 h => ?_)
  obtain ⟨hc_158, h⟩ := h
  refine cg_iastoreR C hc_158 dX7_readCounted_158 ?_
  refine cg_nm (fun S8 e_S8 => ?_)
  have h := h S8 e_S8
  obtain ⟨x5_9, e_x5_9⟩ : ∃ z : Int32, z = x5 + nI 1 := ⟨_, rfl⟩
  have h := h x5_9 e_x5_9
  refine cg_iinc C (lv' := [(5, .int x5_9), (0, .ref x0), (1, .ref x1), (2, .ref x2), (3, .ref x3), (4, .ref x4)]) 5 rfl (by rw [e_x5_9]; rfl) (Nat.le_of_ble_eq_true rfl) rfl dX7_readCounted_159 ?_
  refine cg_goto C 75 (by decide) dX7_readCounted_162 ?_
  exact cg_sub [1, 2, 3, 4, 5, 0] rfl (hR75 x0 x1 x2 x3 x4 x5_9 S8 h)
set_option maxRecDepth 20000 in
theorem tb_X7_readCounted_94 (C : cC p s m args meth c cX7_readCounted 7 none A D Y tp dp RX7) {post : cS → Prop} {R75 : Nat → Nat → Nat → Nat → Nat → Int32 → cS → Prop} {R94 : Nat → Nat → Nat → Nat → Nat → Int32 → Int32 → cS → Prop} (hR75 : ∀ (x0 : Nat) (x1 : Nat) (x2 : Nat) (x3 : Nat) (x4 : Nat) (x5 : Int32) (S : cS), R75 x0 x1 x2 x3 x4 x5 S → cG p l e (cRm 5 0 0 114) s m args below meth c A D Y 7 (MQ below (cQv post D Y A) args s 0 0 A) 0 0 75 [(0, .ref x0), (1, .ref x1), (2, .ref x2), (3, .ref x3), (4, .ref x4), (5, .int x5)] [] S) (hR94 : ∀ (x0 : Nat) (x1 : Nat) (x2 : Nat) (x3 : Nat) (x4 : Nat) (x5 : Int32) (x6 : Int32) (S : cS), R94 x0 x1 x2 x3 x4 x5 x6 S → cG p l e (cRm 5 0 0 114) s m args below meth c A D Y 7 (MQ below (cQv post D Y A) args s 0 0 A) 0 0 94 [(0, .ref x0), (1, .ref x1), (2, .ref x2), (3, .ref x3), (4, .ref x4), (5, .int x5), (6, .int x6)] [] S) (x0 : Nat) (x1 : Nat) (x2 : Nat) (x3 : Nat) (x4 : Nat) (x5 : Int32) (x6 : Int32) (S : cS) (h : k_X7_readCounted_94 post dp R75 R94 x0 x1 x2 x3 x4 x5 x6 S) : cG p l e (cRm 5 0 0 114) s m args below meth c A D Y 7 (MQ below (cQv post D Y A) args s 0 0 A) 0 0 94 [(0, .ref x0), (1, .ref x1), (2, .ref x2), (3, .ref x3), (4, .ref x4), (5, .int x5), (6, .int x6)] [] S := by
  unfold k_X7_readCounted_94 at h
  refine cg_iload C 6 rfl dX7_readCounted_94 ?_
  refine cg_aload_n C (i := 1) rfl 1 rfl dX7_readCounted_96 ?_
  obtain ⟨hc_97, h⟩ := h
  refine cg_calli C (t_X4_tokenCount l x1 S dp h) cc_X7_58 hc_97.1 hc_97.2 (by decide) rfl rfl ⟨by decide, by decide⟩ ⟨by decide, by decide⟩ rfl (Nat.le_of_ble_eq_true rfl) dX7_readCounted_97 (fun r_3 S_3 h => ?_)
  refine cg_icmp_ge C 136 (by decide) dX7_readCounted_100 (fun c_ => ?_) (fun c_ => ?_)
  · have h := h.1 c_
    exact cg_sub [0, 1, 2, 3, 4, 5] rfl (tb_X7_readCounted_136 C  hR75 x0 x1 x2 x3 x4 x5 S_3 h)
  · have h := h.2 c_
    refine cg_iload C 6 rfl dX7_readCounted_103 ?_
    refine cg_aload_n C (i := 0) rfl 0 rfl dX7_readCounted_105 ?_
    obtain ⟨hc_106, h⟩ := h
    obtain ⟨b10, hb_b10, h⟩ := h
    refine cg_get C (k := 7) (j := 3) (.ref b10) hc_106.1 hc_106.2 (by decide) rfl (by decide) rfl (show cV _ 7 3 x0 = _ from congrArg va_rf hb_b10) cWs_wsX70 cl_X7_23 rfl dX7_readCounted_106 ?_
    obtain ⟨hc_109, h⟩ := h
    refine cg_alen C hc_109.1 hc_109.2 (by decide) (by decide) dX7_readCounted_109 ?_
    refine cg_icmp_ge C 136 (by decide) dX7_readCounted_110 (fun c_ => ?_) (fun c_ => ?_)
    · have h := h.1 c_
      exact cg_sub [0, 1, 2, 3, 4, 5] rfl (tb_X7_readCounted_136 C  hR75 x0 x1 x2 x3 x4 x5 S_3 h)
    · have h := h.2 c_
      refine cg_aload_n C (i := 0) rfl 0 rfl dX7_readCounted_113 ?_
      obtain ⟨hc_114, h⟩ := h
      obtain ⟨b11, hb_b11, h⟩ := h
      refine cg_get C (k := 7) (j := 4) (.ref b11) hc_114.1 hc_114.2 (by decide) rfl (by decide) rfl (show cV _ 7 4 x0 = _ from congrArg va_rf hb_b11) cWs_wsX70 cl_X7_26 rfl dX7_readCounted_114 ?_
      refine cg_iload C 6 rfl dX7_readCounted_117 ?_
      refine cg_aload_n C (i := 0) rfl 0 rfl dX7_readCounted_119 ?_
      obtain ⟨hc_120, h⟩ := h
      obtain ⟨b12, hb_b12, h⟩ := h
      refine cg_get C (k := 7) (j := 3) (.ref b12) hc_120.1 hc_120.2 (by decide) rfl (by decide) rfl (show cV _ 7 3 x0 = _ from congrArg va_rf hb_b12) cWs_wsX70 cl_X7_23 rfl dX7_readCounted_120 ?_
      refine cg_iload C 6 rfl dX7_readCounted_123 ?_
      obtain ⟨hc_125, h⟩ := h
      obtain ⟨b13, hb_b13, h⟩ := h
      refine cg_aaload2R C hc_125 hb_b13 dX7_readCounted_125 ?_
      refine cg_iload C 5 rfl dX7_readCounted_126 ?_
      obtain ⟨hc_128, h⟩ := h
      refine cg_ialoadR C hc_128 dX7_readCounted_128 ?_
      obtain ⟨hc_129, h⟩ := h
      refine cg_iastoreR C hc_129 dX7_readCounted_129 ?_
      refine cg_nm (fun S14 e_S14 => ?_)
      have h := h S14 e_S14
      obtain ⟨x6_15, e_x6_15⟩ : ∃ z : Int32, z = x6 + nI 1 := ⟨_, rfl⟩
      have h := h x6_15 e_x6_15
      refine cg_iinc C (lv' := [(6, .int x6_15), (0, .ref x0), (1, .ref x1), (2, .ref x2), (3, .ref x3), (4, .ref x4), (5, .int x5)]) 6 rfl (by rw [e_x6_15]; rfl) (Nat.le_of_ble_eq_true rfl) rfl dX7_readCounted_130 ?_
      refine cg_goto C 94 (by decide) dX7_readCounted_133 ?_
      exact cg_sub [1, 2, 3, 4, 5, 6, 0] rfl (hR94 x0 x1 x2 x3 x4 x5 x6_15 S14 h)
set_option maxRecDepth 20000 in
theorem tl_X7_readCounted_94 (C : cC p s m args meth c cX7_readCounted 7 none A D Y tp dp RX7) {post : cS → Prop} {R75 : Nat → Nat → Nat → Nat → Nat → Int32 → cS → Prop} (hR75 : ∀ (x0 : Nat) (x1 : Nat) (x2 : Nat) (x3 : Nat) (x4 : Nat) (x5 : Int32) (S : cS), R75 x0 x1 x2 x3 x4 x5 S → cG p l e (cRm 5 0 0 114) s m args below meth c A D Y 7 (MQ below (cQv post D Y A) args s 0 0 A) 0 0 75 [(0, .ref x0), (1, .ref x1), (2, .ref x2), (3, .ref x3), (4, .ref x4), (5, .int x5)] [] S) (x0 : Nat) (x1 : Nat) (x2 : Nat) (x3 : Nat) (x4 : Nat) (x5 : Int32) (x6 : Int32) (S : cS) (h : k_X7_readCounted_94L post dp R75 x0 x1 x2 x3 x4 x5 x6 S) : cG p l e (cRm 5 0 0 114) s m args below meth c A D Y 7 (MQ below (cQv post D Y A) args s 0 0 A) 0 0 94 [(0, .ref x0), (1, .ref x1), (2, .ref x2), (3, .ref x3), (4, .ref x4), (5, .int x5), (6, .int x6)] [] S :=
  h (fun y => cG p l e (cRm 5 0 0 114) s m args below meth c A D Y 7 (MQ below (cQv post D Y A) args s 0 0 A) 0 0 94 [(0, .ref (y.1)), (1, .ref (y.2.1)), (2, .ref (y.2.2.1)), (3, .ref (y.2.2.2.1)), (4, .ref (y.2.2.2.2.1)), (5, .int (y.2.2.2.2.2.1)), (6, .int (y.2.2.2.2.2.2.1))] [] (y.2.2.2.2.2.2.2)) (fun y hy => tb_X7_readCounted_94 C  hR75 (fun b0 b1 b2 b3 b4 b5 b6 S z => z) (y.1) (y.2.1) (y.2.2.1) (y.2.2.2.1) (y.2.2.2.2.1) (y.2.2.2.2.2.1) (y.2.2.2.2.2.2.1) (y.2.2.2.2.2.2.2) hy)
set_option maxRecDepth 20000 in
theorem tb_X7_readCounted_75 (C : cC p s m args meth c cX7_readCounted 7 none A D Y tp dp RX7) {post : cS → Prop} {R75 : Nat → Nat → Nat → Nat → Nat → Int32 → cS → Prop} (hR75 : ∀ (x0 : Nat) (x1 : Nat) (x2 : Nat) (x3 : Nat) (x4 : Nat) (x5 : Int32) (S : cS), R75 x0 x1 x2 x3 x4 x5 S → cG p l e (cRm 5 0 0 114) s m args below meth c A D Y 7 (MQ below (cQv post D Y A) args s 0 0 A) 0 0 75 [(0, .ref x0), (1, .ref x1), (2, .ref x2), (3, .ref x3), (4, .ref x4), (5, .int x5)] [] S) (x0 : Nat) (x1 : Nat) (x2 : Nat) (x3 : Nat) (x4 : Nat) (x5 : Int32) (S : cS) (h : k_X7_readCounted_75 post dp R75 x0 x1 x2 x3 x4 x5 S) : cG p l e (cRm 5 0 0 114) s m args below meth c A D Y 7 (MQ below (cQv post D Y A) args s 0 0 A) 0 0 75 [(0, .ref x0), (1, .ref x1), (2, .ref x2), (3, .ref x3), (4, .ref x4), (5, .int x5)] [] S := by
  unfold k_X7_readCounted_75 at h
  refine cg_iload C 5 rfl dX7_readCounted_75 ?_
  refine cg_aload_n C (i := 2) rfl 2 rfl dX7_readCounted_77 ?_
  obtain ⟨hc_78, h⟩ := h
  refine cg_calli C (t_X8_size l x2 S dp h) cc_X7_128 hc_78.1 hc_78.2 (by decide) rfl rfl ⟨by decide, by decide⟩ ⟨by decide, by decide⟩ rfl (Nat.le_of_ble_eq_true rfl) dX7_readCounted_78 (fun r_2 S_2 h => ?_)
  refine cg_icmp_ge C 165 (by decide) dX7_readCounted_81 (fun c_ => ?_) (fun c_ => ?_)
  · have h := h.1 c_
    exact cg_vret C h dX7_readCounted_165 (by decide) (by decide)
  · have h := h.2 c_
    refine cg_iload C 5 rfl dX7_readCounted_84 ?_
    refine cg_bipush C (x := nI 100) rfl dX7_readCounted_86 ?_
    refine cg_icmp_ge C 165 (by decide) dX7_readCounted_88 (fun c_ => ?_) (fun c_ => ?_)
    · have h := h.1 c_
      exact cg_vret C h dX7_readCounted_165 (by decide) (by decide)
    · have h := h.2 c_
      refine cg_iconst C (x := nI 0) rfl dX7_readCounted_91 ?_
      refine cg_istore C (lv' := [(6, .int ((nI 0))), (0, .ref x0), (1, .ref x1), (2, .ref x2), (3, .ref x3), (4, .ref x4), (5, .int x5)]) (Nat.le_of_ble_eq_true rfl) rfl dX7_readCounted_92 ?_
      exact cg_sub [1, 2, 3, 4, 5, 6, 0] rfl (tl_X7_readCounted_94 C  hR75 x0 x1 x2 x3 x4 x5 (((nI 0))) S_2 h)
set_option maxRecDepth 20000 in
theorem tl_X7_readCounted_75 (C : cC p s m args meth c cX7_readCounted 7 none A D Y tp dp RX7) {post : cS → Prop}   (x0 : Nat) (x1 : Nat) (x2 : Nat) (x3 : Nat) (x4 : Nat) (x5 : Int32) (S : cS) (h : k_X7_readCounted_75L post dp  x0 x1 x2 x3 x4 x5 S) : cG p l e (cRm 5 0 0 114) s m args below meth c A D Y 7 (MQ below (cQv post D Y A) args s 0 0 A) 0 0 75 [(0, .ref x0), (1, .ref x1), (2, .ref x2), (3, .ref x3), (4, .ref x4), (5, .int x5)] [] S :=
  h (fun y => cG p l e (cRm 5 0 0 114) s m args below meth c A D Y 7 (MQ below (cQv post D Y A) args s 0 0 A) 0 0 75 [(0, .ref (y.1)), (1, .ref (y.2.1)), (2, .ref (y.2.2.1)), (3, .ref (y.2.2.2.1)), (4, .ref (y.2.2.2.2.1)), (5, .int (y.2.2.2.2.2.1))] [] (y.2.2.2.2.2.2)) (fun y hy => tb_X7_readCounted_75 C   (fun b0 b1 b2 b3 b4 b5 S z => z) (y.1) (y.2.1) (y.2.2.1) (y.2.2.2.1) (y.2.2.2.2.1) (y.2.2.2.2.2.1) (y.2.2.2.2.2.2) hy)
set_option maxRecDepth 20000 in
theorem tb_X7_readCounted_72 (C : cC p s m args meth c cX7_readCounted 7 none A D Y tp dp RX7) {post : cS → Prop}   (x0 : Nat) (x1 : Nat) (x2 : Nat) (x3 : Nat) (x4 : Nat) (S : cS) (h : k_X7_readCounted_72 post dp  x0 x1 x2 x3 x4 S) : cG p l e (cRm 5 0 0 114) s m args below meth c A D Y 7 (MQ below (cQv post D Y A) args s 0 0 A) 0 0 72 [(0, .ref x0), (1, .ref x1), (2, .ref x2), (3, .ref x3), (4, .ref x4)] [] S := by
  unfold k_X7_readCounted_72 at h
  refine cg_iconst C (x := nI 0) rfl dX7_readCounted_72 ?_
  refine cg_istore C (lv' := [(5, .int ((nI 0))), (0, .ref x0), (1, .ref x1), (2, .ref x2), (3, .ref x3), (4, .ref x4)]) (Nat.le_of_ble_eq_true rfl) rfl dX7_readCounted_73 ?_
  exact cg_sub [1, 2, 3, 4, 5, 0] rfl (tl_X7_readCounted_75 C   x0 x1 x2 x3 x4 (((nI 0))) S h)
set_option maxRecDepth 20000 in
theorem tb_X7_readCounted_66 (C : cC p s m args meth c cX7_readCounted 7 none A D Y tp dp RX7) {post : cS → Prop} {R3 : Nat → Nat → Nat → Nat → Nat → Int32 → cS → Prop} (hR3 : ∀ (x0 : Nat) (x1 : Nat) (x2 : Nat) (x3 : Nat) (x4 : Nat) (x5 : Int32) (S : cS), R3 x0 x1 x2 x3 x4 x5 S → cG p l e (cRm 5 0 0 114) s m args below meth c A D Y 7 (MQ below (cQv post D Y A) args s 0 0 A) 0 0 3 [(0, .ref x0), (1, .ref x1), (2, .ref x2), (3, .ref x3), (4, .ref x4), (5, .int x5)] [] S) (x0 : Nat) (x1 : Nat) (x2 : Nat) (x3 : Nat) (x4 : Nat) (x5 : Int32) (S : cS) (h : k_X7_readCounted_66 post dp R3 x0 x1 x2 x3 x4 x5 S) : cG p l e (cRm 5 0 0 114) s m args below meth c A D Y 7 (MQ below (cQv post D Y A) args s 0 0 A) 0 0 66 [(0, .ref x0), (1, .ref x1), (2, .ref x2), (3, .ref x3), (4, .ref x4), (5, .int x5)] [] S := by
  unfold k_X7_readCounted_66 at h
  obtain ⟨x5_23, e_x5_23⟩ : ∃ z : Int32, z = x5 + nI 1 := ⟨_, rfl⟩
  have h := h x5_23 e_x5_23
  refine cg_iinc C (lv' := [(5, .int x5_23), (0, .ref x0), (1, .ref x1), (2, .ref x2), (3, .ref x3), (4, .ref x4)]) 5 rfl (by rw [e_x5_23]; rfl) (Nat.le_of_ble_eq_true rfl) rfl dX7_readCounted_66 ?_
  refine cg_goto C 3 (by decide) dX7_readCounted_69 ?_
  exact cg_sub [1, 2, 3, 4, 5, 0] rfl (hR3 x0 x1 x2 x3 x4 x5_23 S h)
set_option maxRecDepth 20000 in
theorem tb_X7_readCounted_3 (C : cC p s m args meth c cX7_readCounted 7 none A D Y tp dp RX7) {post : cS → Prop} {R3 : Nat → Nat → Nat → Nat → Nat → Int32 → cS → Prop} (hR3 : ∀ (x0 : Nat) (x1 : Nat) (x2 : Nat) (x3 : Nat) (x4 : Nat) (x5 : Int32) (S : cS), R3 x0 x1 x2 x3 x4 x5 S → cG p l e (cRm 5 0 0 114) s m args below meth c A D Y 7 (MQ below (cQv post D Y A) args s 0 0 A) 0 0 3 [(0, .ref x0), (1, .ref x1), (2, .ref x2), (3, .ref x3), (4, .ref x4), (5, .int x5)] [] S) (x0 : Nat) (x1 : Nat) (x2 : Nat) (x3 : Nat) (x4 : Nat) (x5 : Int32) (S : cS) (h : k_X7_readCounted_3 post dp R3 x0 x1 x2 x3 x4 x5 S) : cG p l e (cRm 5 0 0 114) s m args below meth c A D Y 7 (MQ below (cQv post D Y A) args s 0 0 A) 0 0 3 [(0, .ref x0), (1, .ref x1), (2, .ref x2), (3, .ref x3), (4, .ref x4), (5, .int x5)] [] S := by
  unfold k_X7_readCounted_3 at h
  refine cg_iload C 5 rfl dX7_readCounted_3 ?_
  refine cg_aload_n C (i := 1) rfl 1 rfl dX7_readCounted_5 ?_
  obtain ⟨hc_6, h⟩ := h
  refine cg_calli C (t_X4_tokenCount l x1 S dp h) cc_X7_58 hc_6.1 hc_6.2 (by decide) rfl rfl ⟨by decide, by decide⟩ ⟨by decide, by decide⟩ rfl (Nat.le_of_ble_eq_true rfl) dX7_readCounted_6 (fun r_1 S_1 h => ?_)
  refine cg_icmp_ge C 72 (by decide) dX7_readCounted_9 (fun c_ => ?_) (fun c_ => ?_)
  · have h := h.1 c_
    exact cg_sub [0, 1, 2, 3, 4] rfl (tb_X7_readCounted_72 C   x0 x1 x2 x3 x4 S_1 h)
  · have h := h.2 c_
    refine cg_iload C 5 rfl dX7_readCounted_12 ?_
    refine cg_aload_n C (i := 0) rfl 0 rfl dX7_readCounted_14 ?_
    obtain ⟨hc_15, h⟩ := h
    obtain ⟨b16, hb_b16, h⟩ := h
    refine cg_get C (k := 7) (j := 3) (.ref b16) hc_15.1 hc_15.2 (by decide) rfl (by decide) rfl (show cV _ 7 3 x0 = _ from congrArg va_rf hb_b16) cWs_wsX70 cl_X7_23 rfl dX7_readCounted_15 ?_
    obtain ⟨hc_18, h⟩ := h
    refine cg_alen C hc_18.1 hc_18.2 (by decide) (by decide) dX7_readCounted_18 ?_
    refine cg_icmp_ge C 72 (by decide) dX7_readCounted_19 (fun c_ => ?_) (fun c_ => ?_)
    · have h := h.1 c_
      exact cg_sub [0, 1, 2, 3, 4] rfl (tb_X7_readCounted_72 C   x0 x1 x2 x3 x4 S_1 h)
    · have h := h.2 c_
      refine cg_aload_n C (i := 0) rfl 0 rfl dX7_readCounted_22 ?_
      obtain ⟨hc_23, h⟩ := h
      obtain ⟨b17, hb_b17, h⟩ := h
      refine cg_get C (k := 7) (j := 3) (.ref b17) hc_23.1 hc_23.2 (by decide) rfl (by decide) rfl (show cV _ 7 3 x0 = _ from congrArg va_rf hb_b17) cWs_wsX70 cl_X7_23 rfl dX7_readCounted_23 ?_
      refine cg_iload C 5 rfl dX7_readCounted_26 ?_
      obtain ⟨hc_28, h⟩ := h
      obtain ⟨b18, hb_b18, h⟩ := h
      refine cg_aaload2R C hc_28 hb_b18 dX7_readCounted_28 ?_
      refine cg_iconst C (x := nI 0) rfl dX7_readCounted_29 ?_
      refine cg_callsv C (t_J7_fill_53178 l b18 ((nI 0)) S_1 dp h) cc_X7_94 rfl ⟨by decide, by decide⟩ ⟨by decide, by decide⟩ rfl (Nat.le_of_ble_eq_true rfl) dX7_readCounted_30 (fun S_19 h => ?_)
      refine cg_aload_n C (i := 2) rfl 2 rfl dX7_readCounted_33 ?_
      refine cg_aload_n C (i := 1) rfl 1 rfl dX7_readCounted_34 ?_
      obtain ⟨hc_35, h⟩ := h
      refine cg_get C (k := 4) (j := 1) (.int (ci S_19 129 x1)) hc_35.1 hc_35.2 (by decide) rfl (by decide) rfl rfl cWs_wsX40 cl_X7_61 rfl dX7_readCounted_35 ?_
      refine cg_aload_n C (i := 1) rfl 1 rfl dX7_readCounted_38 ?_
      refine cg_iload C 5 rfl dX7_readCounted_39 ?_
      obtain ⟨hc_41, h⟩ := h
      refine cg_calll C (t_X4_tokenAt l x1 x5 S_19 dp h) cc_X7_65 hc_41.1 hc_41.2 (by decide) rfl rfl ⟨by decide, by decide⟩ ⟨by decide, by decide⟩ rfl (Nat.le_of_ble_eq_true rfl) dX7_readCounted_41 (fun r_20 S_20 h => ?_)
      obtain ⟨hc_44, h⟩ := h
      refine cg_callq C (t_X8_postingsOf l x2 ((ci S_19 129 x1)) r_20 S_20 dp h) cc_X7_88 hc_44.1 hc_44.2 (by decide) rfl rfl ⟨by decide, by decide⟩ ⟨by decide, by decide⟩ rfl (Nat.le_of_ble_eq_true rfl) dX7_readCounted_44 (fun r_21 S_21 h => ?_)
      obtain ho | ⟨b22, ho⟩ := c_opt r_21
      · replace h := h.1 ho
        subst ho
        refine cg_cast (.null) rfl ?_
        refine cg_astoreN (lv' := [(6, .null), (0, .ref x0), (1, .ref x1), (2, .ref x2), (3, .ref x3), (4, .ref x4), (5, .int x5)]) C (Nat.le_of_ble_eq_true rfl) rfl dX7_readCounted_47 ?_
        refine cg_aloadN C 0 rfl dX7_readCounted_49 ?_
        refine cg_ifnullN C 66 (by decide) dX7_readCounted_51 ?_
        exact cg_sub [1, 2, 3, 4, 5, 6] rfl (tb_X7_readCounted_66 C  hR3 x0 x1 x2 x3 x4 x5 S_21 h)
      · replace h := h.2 b22 ho
        subst ho
        refine cg_cast (.ref b22) rfl ?_
        refine cg_astore (lv' := [(6, .ref b22), (0, .ref x0), (1, .ref x1), (2, .ref x2), (3, .ref x3), (4, .ref x4), (5, .int x5)]) C (Nat.le_of_ble_eq_true rfl) rfl dX7_readCounted_47 ?_
        refine cg_aload C 0 rfl dX7_readCounted_49 ?_
        refine cg_ifnull C dX7_readCounted_51 ?_
        refine cg_aload C 0 rfl dX7_readCounted_54 ?_
        refine cg_aload_n C (i := 0) rfl 1 rfl dX7_readCounted_56 ?_
        obtain ⟨hc_57, h⟩ := h
        obtain ⟨b24, hb_b24, h⟩ := h
        refine cg_get C (k := 7) (j := 3) (.ref b24) hc_57.1 hc_57.2 (by decide) rfl (by decide) rfl (show cV _ 7 3 x0 = _ from congrArg va_rf hb_b24) cWs_wsX70 cl_X7_23 rfl dX7_readCounted_57 ?_
        refine cg_iload C 6 rfl dX7_readCounted_60 ?_
        obtain ⟨hc_62, h⟩ := h
        obtain ⟨b25, hb_b25, h⟩ := h
        refine cg_aaload2R C hc_62 hb_b25 dX7_readCounted_62 ?_
        obtain ⟨hc_63, h⟩ := h
        refine cg_callv C (t_X5_spread l b22 b25 S_21 dp h) cc_X7_100 hc_63.1 hc_63.2 (by decide) rfl rfl ⟨by decide, by decide⟩ ⟨by decide, by decide⟩ rfl (Nat.le_of_ble_eq_true rfl) dX7_readCounted_63 (fun S_26 h => ?_)
        exact cg_sub [1, 2, 3, 4, 5, 6] rfl (tb_X7_readCounted_66 C  hR3 x0 x1 x2 x3 x4 x5 S_26 h)
set_option maxRecDepth 20000 in
theorem tl_X7_readCounted_3 (C : cC p s m args meth c cX7_readCounted 7 none A D Y tp dp RX7) {post : cS → Prop}   (x0 : Nat) (x1 : Nat) (x2 : Nat) (x3 : Nat) (x4 : Nat) (x5 : Int32) (S : cS) (h : k_X7_readCounted_3L post dp  x0 x1 x2 x3 x4 x5 S) : cG p l e (cRm 5 0 0 114) s m args below meth c A D Y 7 (MQ below (cQv post D Y A) args s 0 0 A) 0 0 3 [(0, .ref x0), (1, .ref x1), (2, .ref x2), (3, .ref x3), (4, .ref x4), (5, .int x5)] [] S :=
  h (fun y => cG p l e (cRm 5 0 0 114) s m args below meth c A D Y 7 (MQ below (cQv post D Y A) args s 0 0 A) 0 0 3 [(0, .ref (y.1)), (1, .ref (y.2.1)), (2, .ref (y.2.2.1)), (3, .ref (y.2.2.2.1)), (4, .ref (y.2.2.2.2.1)), (5, .int (y.2.2.2.2.2.1))] [] (y.2.2.2.2.2.2)) (fun y hy => tb_X7_readCounted_3 C   (fun b0 b1 b2 b3 b4 b5 S z => z) (y.1) (y.2.1) (y.2.2.1) (y.2.2.2.1) (y.2.2.2.2.1) (y.2.2.2.2.2.1) (y.2.2.2.2.2.2) hy)
end S_X7_readCounted
set_option maxHeartbeats 1000000 in
set_option maxRecDepth 20000 in
theorem t_X7_readCounted (l : Launch) (x0 : Nat) (x1 : Nat) (x2 : Nat) (x3 : Nat) (x4 : Nat) (S : cS) (dp : Nat) {P : cS → Prop} (h : k_X7_readCounted P dp x0 x1 x2 x3 x4 S) : cMet (cQv P) l yX7_readCounted cX7_readCounted 7 none 5 0 0 114 [.ref x0, .ref x1, .ref x2, .ref x3, .ref x4] S dp := by
  intro D Y tp sz
  refine cg_body (by decide +kernel) (Nat.le_of_ble_eq_true rfl) ?_
  intro p e s m args below meth c C
  generalize va_A (cWd Y S) sz = A at C ⊢
  have C : cC p s m args meth c cX7_readCounted 7 none A D Y tp dp RX7 := C
  refine cg_lv (lv' := [(0, .ref x0), (1, .ref x1), (2, .ref x2), (3, .ref x3), (4, .ref x4)]) rfl ?_
  unfold k_X7_readCounted at h
  refine cg_iconst C (x := nI 0) rfl dX7_readCounted_0 ?_
  refine cg_istore C (lv' := [(5, .int ((nI 0))), (0, .ref x0), (1, .ref x1), (2, .ref x2), (3, .ref x3), (4, .ref x4)]) (Nat.le_of_ble_eq_true rfl) rfl dX7_readCounted_1 ?_
  exact cg_sub [1, 2, 3, 4, 5, 0] rfl (tl_X7_readCounted_3 C   x0 x1 x2 x3 x4 (((nI 0))) S h)
def k_X9_digitAt (Q : Int32 → cS → Prop) (dp : Nat) (x0 : Int64) (x2 : Int32) (S : cS) : Prop :=
((x2 < 0 →
  Q ((nI 0)) S) ∧
 (¬ x2 < 0 →
  ((x2 < ((nI 12)) →
    vp_in ((((nI 11)) - x2)) 12 ∧ (¬ (lN (37 ^ ((((nI 11)) - x2)).toNatClampNeg)) = 0 ∧ (Q ((((x0 / (lN (37 ^ ((((nI 11)) - x2)).toNatClampNeg))) - (x0 / (lN (37 ^ ((((nI 11)) - x2)).toNatClampNeg))) / 37 * 37).toInt32)) S))) ∧
   (¬ x2 < ((nI 12)) →
    Q ((nI 0)) S))))
set_option maxHeartbeats 1000000 in
set_option maxRecDepth 20000 in
theorem t_X9_digitAt (l : Launch) (x0 : Int64) (x2 : Int32) (S : cS) (dp : Nat) {P : Int32 → cS → Prop} (h : k_X9_digitAt P dp x0 x2 S) : cMet (cQi P) l yX9_digitAt cX9_digitAt 3 (some .int) 0 0 0 0 [.long x0, .int x2] S dp := by
  intro D Y tp sz
  refine cg_body (by decide +kernel) (Nat.le_of_ble_eq_true rfl) ?_
  intro p e s m args below meth c C
  generalize va_A (cWd Y S) sz = A at C ⊢
  have C : cC p s m args meth c cX9_digitAt 3 (some .int) A D Y tp dp RX9 := C
  refine cg_lv (lv' := [(0, .long x0), (2, .int x2)]) rfl ?_
  unfold k_X9_digitAt at h
  refine cg_iload_n C (i := 2) rfl 1 rfl dX9_digitAt_0 ?_
  refine cg_if_lt C 10 (by decide) dX9_digitAt_1 (fun c_ => ?_) (fun c_ => ?_)
  · have h := h.1 c_
    refine cg_iconst C (x := nI 0) rfl dX9_digitAt_10 ?_
    exact cg_iret C h dX9_digitAt_11 (by decide) (by decide)
  · have h := h.2 c_
    refine cg_iload_n C (i := 2) rfl 1 rfl dX9_digitAt_4 ?_
    refine cg_bipush C (x := nI 12) rfl dX9_digitAt_5 ?_
    refine cg_icmp_lt C 12 (by decide) dX9_digitAt_7 (fun c_ => ?_) (fun c_ => ?_)
    · have h := h.1 c_
      refine cg_lload_n C (i := 0) rfl 0 rfl dX9_digitAt_12 ?_
      refine cg_powers C cl_pow dX9_digitAt_13 ?_
      refine cg_bipush C (x := nI 11) rfl dX9_digitAt_16 ?_
      refine cg_iload_n C (i := 2) rfl 1 rfl dX9_digitAt_18 ?_
      refine cg_isub C dX9_digitAt_19 ?_
      obtain ⟨hc_20, h⟩ := h
      refine cg_powerR C hc_20 dX9_digitAt_20 ?_
      obtain ⟨hc_21, h⟩ := h
      refine cg_ldiv C hc_21 dX9_digitAt_21 ?_
      refine cg_ldc2 C (x := 37) ck_X9_53 dX9_digitAt_22 ?_
      refine cg_lrem C (by decide) dX9_digitAt_25 ?_
      refine cg_l2i C dX9_digitAt_26 ?_
      exact cg_iret C h dX9_digitAt_27 (by decide) (by decide)
    · have h := h.2 c_
      refine cg_iconst C (x := nI 0) rfl dX9_digitAt_10 ?_
      exact cg_iret C h dX9_digitAt_11 (by decide) (by decide)
def k_X9_lengthOf_2 (Q : Int32 → cS → Prop) (dp : Nat) (R2 : Int64 → Int32 → cS → Prop) (x0 : Int64) (x2 : Int32) (S : cS) : Prop :=
((((nI 12)) ≤ x2 →
  Q x2 S) ∧
 (¬ ((nI 12)) ≤ x2 →
  k_X9_digitAt (fun r_1 S_1 => 
  ((r_1 = 0 →
    Q x2 S_1) ∧
   (¬ r_1 = 0 →
    ∀ x2_2 : Int32, x2_2 = x2 + nI 1 → R2 x0 x2_2 S_1))) dp x0 x2 S))
def k_X9_lengthOf_2L (Q : Int32 → cS → Prop) (dp : Nat)  (x0 : Int64) (x2 : Int32) (S : cS) : Prop :=
  lfp (X := Int64 × Int32 × cS) (fun P y => k_X9_lengthOf_2 Q dp  (fun b0 b1 S => P (b0, b1, S)) y.1 y.2.1 y.2.2) (x0, x2, S)
def k_X9_lengthOf (Q : Int32 → cS → Prop) (dp : Nat) (x0 : Int64) (S : cS) : Prop :=
k_X9_lengthOf_2L Q dp  x0 (((nI 0))) S
section S_X9_lengthOf
variable {p : Program} {l : Launch} {e : Env} {s : State} {m : MethodId} {args : Array Value} {below : List Frame} {meth : Method} {c : Code} {A : Nat → Prop} {D : va_G} {Y : cY} {tp dp : Nat}
set_option maxRecDepth 20000 in
theorem tb_X9_lengthOf_2 (C : cC p s m args meth c cX9_lengthOf 3 (some .int) A D Y tp dp RX9) {post : Int32 → cS → Prop} {R2 : Int64 → Int32 → cS → Prop} (hR2 : ∀ (x0 : Int64) (x2 : Int32) (S : cS), R2 x0 x2 S → cG p l e (cRm 1 0 0 22) s m args below meth c A D Y 3 (MQ below (cQi post D Y A) args s 0 0 A) 0 0 2 [(0, .long x0), (2, .int x2)] [] S) (x0 : Int64) (x2 : Int32) (S : cS) (h : k_X9_lengthOf_2 post dp R2 x0 x2 S) : cG p l e (cRm 1 0 0 22) s m args below meth c A D Y 3 (MQ below (cQi post D Y A) args s 0 0 A) 0 0 2 [(0, .long x0), (2, .int x2)] [] S := by
  unfold k_X9_lengthOf_2 at h
  refine cg_iload_n C (i := 2) rfl 1 rfl dX9_lengthOf_2 ?_
  refine cg_bipush C (x := nI 12) rfl dX9_lengthOf_3 ?_
  refine cg_icmp_ge C 22 (by decide) dX9_lengthOf_5 (fun c_ => ?_) (fun c_ => ?_)
  · have h := h.1 c_
    refine cg_iload_n C (i := 2) rfl 1 rfl dX9_lengthOf_22 ?_
    exact cg_iret C h dX9_lengthOf_23 (by decide) (by decide)
  · have h := h.2 c_
    refine cg_lload_n C (i := 0) rfl 0 rfl dX9_lengthOf_8 ?_
    refine cg_iload_n C (i := 2) rfl 1 rfl dX9_lengthOf_9 ?_
    refine cg_callsi C (t_X9_digitAt l x0 x2 S dp h) cc_X9_55 rfl ⟨by decide, by decide⟩ ⟨by decide, by decide⟩ rfl (Nat.le_of_ble_eq_true rfl) dX9_lengthOf_10 (fun r_1 S_1 h => ?_)
    refine cg_if_eq C 22 (by decide) dX9_lengthOf_13 (fun c_ => ?_) (fun c_ => ?_)
    · have h := h.1 c_
      refine cg_iload_n C (i := 2) rfl 1 rfl dX9_lengthOf_22 ?_
      exact cg_iret C h dX9_lengthOf_23 (by decide) (by decide)
    · have h := h.2 c_
      obtain ⟨x2_2, e_x2_2⟩ : ∃ z : Int32, z = x2 + nI 1 := ⟨_, rfl⟩
      have h := h x2_2 e_x2_2
      refine cg_iinc C (lv' := [(2, .int x2_2), (0, .long x0)]) 1 rfl (by rw [e_x2_2]; rfl) (Nat.le_of_ble_eq_true rfl) rfl dX9_lengthOf_16 ?_
      refine cg_goto C 2 (by decide) dX9_lengthOf_19 ?_
      exact cg_sub [1, 0] rfl (hR2 x0 x2_2 S_1 h)
set_option maxRecDepth 20000 in
theorem tl_X9_lengthOf_2 (C : cC p s m args meth c cX9_lengthOf 3 (some .int) A D Y tp dp RX9) {post : Int32 → cS → Prop}   (x0 : Int64) (x2 : Int32) (S : cS) (h : k_X9_lengthOf_2L post dp  x0 x2 S) : cG p l e (cRm 1 0 0 22) s m args below meth c A D Y 3 (MQ below (cQi post D Y A) args s 0 0 A) 0 0 2 [(0, .long x0), (2, .int x2)] [] S :=
  h (fun y => cG p l e (cRm 1 0 0 22) s m args below meth c A D Y 3 (MQ below (cQi post D Y A) args s 0 0 A) 0 0 2 [(0, .long (y.1)), (2, .int (y.2.1))] [] (y.2.2)) (fun y hy => tb_X9_lengthOf_2 C   (fun b0 b1 S z => z) (y.1) (y.2.1) (y.2.2) hy)
end S_X9_lengthOf
set_option maxHeartbeats 1000000 in
set_option maxRecDepth 20000 in
theorem t_X9_lengthOf (l : Launch) (x0 : Int64) (S : cS) (dp : Nat) {P : Int32 → cS → Prop} (h : k_X9_lengthOf P dp x0 S) : cMet (cQi P) l yX9_lengthOf cX9_lengthOf 3 (some .int) 1 0 0 22 [.long x0] S dp := by
  intro D Y tp sz
  refine cg_body (by decide +kernel) (Nat.le_of_ble_eq_true rfl) ?_
  intro p e s m args below meth c C
  generalize va_A (cWd Y S) sz = A at C ⊢
  have C : cC p s m args meth c cX9_lengthOf 3 (some .int) A D Y tp dp RX9 := C
  refine cg_lv (lv' := [(0, .long x0)]) rfl ?_
  unfold k_X9_lengthOf at h
  refine cg_iconst C (x := nI 0) rfl dX9_lengthOf_0 ?_
  refine cg_istore_n C (i := 2) (lv' := [(2, .int ((nI 0))), (0, .long x0)]) rfl (Nat.le_of_ble_eq_true rfl) rfl dX9_lengthOf_1 ?_
  exact cg_sub [1, 0] rfl (tl_X9_lengthOf_2 C   x0 (((nI 0))) S h)
def k_X4_isEdited_131 (Q : Int32 → cS → Prop) (dp : Nat) (R58 : Nat → Int64 → Int32 → Int32 → Int32 → cS → Prop) (R83 : Nat → Int64 → Int32 → Int32 → Int32 → Int32 → Int32 → cS → Prop) (x0 : Nat) (x1 : Int64) (x3 : Int32) (x4 : Int32) (x5 : Int32) (x7 : Int32) (t0 : Int32) (t1 : Int32) (S : cS) : Prop :=
cA S x0 4 ∧ ((∃ b11 : Nat, cr S 138 x0 = some b11 ∧ (cX S b11 14 x7 ∧ (cA S x0 4 ∧ ((∃ b12 : Nat, cr S 138 x0 = some b12 ∧ (cX S b12 14 ((x7 - ((nI 1)))) ∧ (∀ x9_13 : Int32, x9_13 = (if ((((if ((cI S b12 ((x7 - ((nI 1)))).toNatClampNeg)) < ((cI S b11 (x7).toNatClampNeg)) then ((cI S b12 ((x7 - ((nI 1)))).toNatClampNeg)) else ((cI S b11 (x7).toNatClampNeg)))) + ((nI 1)))) < ((t1 + t0)) then ((((if ((cI S b12 ((x7 - ((nI 1)))).toNatClampNeg)) < ((cI S b11 (x7).toNatClampNeg)) then ((cI S b12 ((x7 - ((nI 1)))).toNatClampNeg)) else ((cI S b11 (x7).toNatClampNeg)))) + ((nI 1)))) else ((t1 + t0))) → cA S x0 4 ∧ ((∃ b14 : Nat, cr S 138 x0 = some b14 ∧ (cX S b14 14 x7 ∧ (∀ x6_15 : Int32, x6_15 = (cI S b14 (x7).toNatClampNeg) → cA S x0 4 ∧ ((∃ b16 : Nat, cr S 138 x0 = some b16 ∧ (cX S b16 14 x7 ∧ (∀ S17 : cS, S17 = cSI S b16 (x7).toNatClampNeg x9_13 → ∀ x7_18 : Int32, x7_18 = x7 + nI 1 → R83 x0 x1 x3 x4 x5 x6_15 x7_18 S17))))))))))))))))
def k_X4_isEdited_117 (Q : Int32 → cS → Prop) (dp : Nat) (R58 : Nat → Int64 → Int32 → Int32 → Int32 → cS → Prop) (R83 : Nat → Int64 → Int32 → Int32 → Int32 → Int32 → Int32 → cS → Prop) (x0 : Nat) (x1 : Int64) (x3 : Int32) (x4 : Int32) (x5 : Int32) (x6 : Int32) (x7 : Int32) (t0 : Int32) (S : cS) : Prop :=
((t0 = 0 →
  k_X4_isEdited_131 Q dp R58 R83 x0 x1 x3 x4 x5 x7 ((nI 1)) x6 S) ∧
 (¬ t0 = 0 →
  k_X4_isEdited_131 Q dp R58 R83 x0 x1 x3 x4 x5 x7 ((nI 0)) x6 S))
def k_X4_isEdited_83 (Q : Int32 → cS → Prop) (dp : Nat) (R58 : Nat → Int64 → Int32 → Int32 → Int32 → cS → Prop) (R83 : Nat → Int64 → Int32 → Int32 → Int32 → Int32 → Int32 → cS → Prop) (x0 : Nat) (x1 : Int64) (x3 : Int32) (x4 : Int32) (x5 : Int32) (x6 : Int32) (x7 : Int32) (S : cS) : Prop :=
((x4 < x7 →
  ∀ x5_8 : Int32, x5_8 = x5 + nI 1 → R58 x0 x1 x3 x4 x5_8 S) ∧
 (¬ x4 < x7 →
  k_X9_digitAt (fun r_9 S_9 => 
  cA S_9 x0 4 ∧ (k_X9_digitAt (fun r_10 S_10 => 
  ((¬ r_9 = r_10 →
    k_X4_isEdited_117 Q dp R58 R83 x0 x1 x3 x4 x5 x6 x7 ((nI 0)) S_10) ∧
   (r_9 = r_10 →
    k_X4_isEdited_117 Q dp R58 R83 x0 x1 x3 x4 x5 x6 x7 ((nI 1)) S_10))) dp (cw S_9 137 x0) ((x7 - ((nI 1)))) S_9)) dp x1 ((x5 - ((nI 1)))) S))
def k_X4_isEdited_83L (Q : Int32 → cS → Prop) (dp : Nat) (R58 : Nat → Int64 → Int32 → Int32 → Int32 → cS → Prop) (x0 : Nat) (x1 : Int64) (x3 : Int32) (x4 : Int32) (x5 : Int32) (x6 : Int32) (x7 : Int32) (S : cS) : Prop :=
  lfp (X := Nat × Int64 × Int32 × Int32 × Int32 × Int32 × Int32 × cS) (fun P y => k_X4_isEdited_83 Q dp R58 (fun b0 b1 b2 b3 b4 b5 b6 S => P (b0, b1, b2, b3, b4, b5, b6, S)) y.1 y.2.1 y.2.2.1 y.2.2.2.1 y.2.2.2.2.1 y.2.2.2.2.2.1 y.2.2.2.2.2.2.1 y.2.2.2.2.2.2.2) (x0, x1, x3, x4, x5, x6, x7, S)
def k_X4_isEdited_58 (Q : Int32 → cS → Prop) (dp : Nat) (R58 : Nat → Int64 → Int32 → Int32 → Int32 → cS → Prop) (x0 : Nat) (x1 : Int64) (x3 : Int32) (x4 : Int32) (x5 : Int32) (S : cS) : Prop :=
((x3 < x5 →
  cA S x0 4 ∧ ((∃ b3 : Nat, cr S 138 x0 = some b3 ∧ (cX S b3 14 x4 ∧ (cA S x0 4 ∧ (((((ci S 130 x0)) < ((cI S b3 (x4).toNatClampNeg)) →
    Q ((bI false)) S) ∧
   (¬ ((ci S 130 x0)) < ((cI S b3 (x4).toNatClampNeg)) →
    Q ((bI true)) S)))))))) ∧
 (¬ x3 < x5 →
  cA S x0 4 ∧ ((∃ b4 : Nat, cr S 138 x0 = some b4 ∧ (cX S b4 14 ((nI 0)) ∧ (∀ x6_5 : Int32, x6_5 = (cI S b4 ((nI 0)).toNatClampNeg) → cA S x0 4 ∧ ((∃ b6 : Nat, cr S 138 x0 = some b6 ∧ (cX S b6 14 ((nI 0)) ∧ (∀ S7 : cS, S7 = cSI S b6 ((nI 0)).toNatClampNeg x5 → k_X4_isEdited_83L Q dp R58 x0 x1 x3 x4 x5 x6_5 (((nI 1))) S7))))))))))
def k_X4_isEdited_58L (Q : Int32 → cS → Prop) (dp : Nat)  (x0 : Nat) (x1 : Int64) (x3 : Int32) (x4 : Int32) (x5 : Int32) (S : cS) : Prop :=
  lfp (X := Nat × Int64 × Int32 × Int32 × Int32 × cS) (fun P y => k_X4_isEdited_58 Q dp  (fun b0 b1 b2 b3 b4 S => P (b0, b1, b2, b3, b4, S)) y.1 y.2.1 y.2.2.1 y.2.2.2.1 y.2.2.2.2.1 y.2.2.2.2.2) (x0, x1, x3, x4, x5, S)
def k_X4_isEdited_33 (Q : Int32 → cS → Prop) (dp : Nat) (R33 : Nat → Int64 → Int32 → Int32 → Int32 → cS → Prop) (x0 : Nat) (x1 : Int64) (x3 : Int32) (x4 : Int32) (x5 : Int32) (S : cS) : Prop :=
((x4 < x5 →
  k_X4_isEdited_58L Q dp  x0 x1 x3 x4 (((nI 1))) S) ∧
 (¬ x4 < x5 →
  cA S x0 4 ∧ ((∃ b19 : Nat, cr S 138 x0 = some b19 ∧ (cX S b19 14 x5 ∧ (∀ S20 : cS, S20 = cSI S b19 (x5).toNatClampNeg x5 → ∀ x5_21 : Int32, x5_21 = x5 + nI 1 → R33 x0 x1 x3 x4 x5_21 S20))))))
def k_X4_isEdited_33L (Q : Int32 → cS → Prop) (dp : Nat)  (x0 : Nat) (x1 : Int64) (x3 : Int32) (x4 : Int32) (x5 : Int32) (S : cS) : Prop :=
  lfp (X := Nat × Int64 × Int32 × Int32 × Int32 × cS) (fun P y => k_X4_isEdited_33 Q dp  (fun b0 b1 b2 b3 b4 S => P (b0, b1, b2, b3, b4, S)) y.1 y.2.1 y.2.2.1 y.2.2.2.1 y.2.2.2.2.1 y.2.2.2.2.2) (x0, x1, x3, x4, x5, S)
def k_X4_isEdited (Q : Int32 → cS → Prop) (dp : Nat) (x0 : Nat) (x1 : Int64) (x3 : Int32) (S : cS) : Prop :=
cA S x0 4 ∧ ((∃ b1 : Nat, cr S 138 x0 = some b1 ∧ (cA S b1 14 ∧ (∀ x4_2 : Int32, x4_2 = (((nI (cn S b1))) - ((nI 1))) → ((x4_2 < 0 →
  Q ((bI false)) S) ∧
 (¬ x4_2 < 0 →
  cA S x0 4 ∧ (((((if 0 ≤ ((x3 - x4_2)) then ((x3 - x4_2)) else 0 - ((x3 - x4_2)))) ≤ ((ci S 130 x0)) →
    k_X4_isEdited_33L Q dp  x0 x1 x3 x4_2 (((nI 0))) S) ∧
   (¬ ((if 0 ≤ ((x3 - x4_2)) then ((x3 - x4_2)) else 0 - ((x3 - x4_2)))) ≤ ((ci S 130 x0)) →
    Q ((bI false)) S)))))))))
section S_X4_isEdited
variable {p : Program} {l : Launch} {e : Env} {s : State} {m : MethodId} {args : Array Value} {below : List Frame} {meth : Method} {c : Code} {A : Nat → Prop} {D : va_G} {Y : cY} {tp dp : Nat}
set_option maxRecDepth 20000 in
theorem tb_X4_isEdited_131 (C : cC p s m args meth c cX4_isEdited 10 (some .boolean) A D Y tp dp RX4) {post : Int32 → cS → Prop} {R58 : Nat → Int64 → Int32 → Int32 → Int32 → cS → Prop} {R83 : Nat → Int64 → Int32 → Int32 → Int32 → Int32 → Int32 → cS → Prop} (hR58 : ∀ (x0 : Nat) (x1 : Int64) (x3 : Int32) (x4 : Int32) (x5 : Int32) (S : cS), R58 x0 x1 x3 x4 x5 S → cG p l e (cRm 1 0 0 22) s m args below meth c A D Y 10 (MQ below (cQi post D Y A) args s 0 0 A) 0 0 58 [(0, .ref x0), (1, .long x1), (3, .int x3), (4, .int x4), (5, .int x5)] [] S) (hR83 : ∀ (x0 : Nat) (x1 : Int64) (x3 : Int32) (x4 : Int32) (x5 : Int32) (x6 : Int32) (x7 : Int32) (S : cS), R83 x0 x1 x3 x4 x5 x6 x7 S → cG p l e (cRm 1 0 0 22) s m args below meth c A D Y 10 (MQ below (cQi post D Y A) args s 0 0 A) 0 0 83 [(0, .ref x0), (1, .long x1), (3, .int x3), (4, .int x4), (5, .int x5), (6, .int x6), (7, .int x7)] [] S) (x0 : Nat) (x1 : Int64) (x3 : Int32) (x4 : Int32) (x5 : Int32) (x7 : Int32) (t0 : Int32) (t1 : Int32) (S : cS) (h : k_X4_isEdited_131 post dp R58 R83 x0 x1 x3 x4 x5 x7 t0 t1 S) : cG p l e (cRm 1 0 0 22) s m args below meth c A D Y 10 (MQ below (cQi post D Y A) args s 0 0 A) 0 0 131 [(0, .ref x0), (1, .long x1), (3, .int x3), (4, .int x4), (5, .int x5), (7, .int x7)] [.int t0, .int t1] S := by
  unfold k_X4_isEdited_131 at h
  refine cg_iadd C dX4_isEdited_131 ?_
  refine cg_aload_n C (i := 0) rfl 0 rfl dX4_isEdited_132 ?_
  obtain ⟨hc_133, h⟩ := h
  obtain ⟨b11, hb_b11, h⟩ := h
  refine cg_get C (k := 4) (j := 10) (.ref b11) hc_133.1 hc_133.2 (by decide) rfl (by decide) rfl (show cV _ 4 10 x0 = _ from congrArg va_rf hb_b11) cWs_wsX40 cl_X4_37 rfl dX4_isEdited_133 ?_
  refine cg_iload C 5 rfl dX4_isEdited_136 ?_
  obtain ⟨hc_138, h⟩ := h
  refine cg_ialoadR C hc_138 dX4_isEdited_138 ?_
  refine cg_aload_n C (i := 0) rfl 0 rfl dX4_isEdited_139 ?_
  obtain ⟨hc_140, h⟩ := h
  obtain ⟨b12, hb_b12, h⟩ := h
  refine cg_get C (k := 4) (j := 10) (.ref b12) hc_140.1 hc_140.2 (by decide) rfl (by decide) rfl (show cV _ 4 10 x0 = _ from congrArg va_rf hb_b12) cWs_wsX40 cl_X4_37 rfl dX4_isEdited_140 ?_
  refine cg_iload C 5 rfl dX4_isEdited_143 ?_
  refine cg_iconst C (x := nI 1) rfl dX4_isEdited_145 ?_
  refine cg_isub C dX4_isEdited_146 ?_
  obtain ⟨hc_147, h⟩ := h
  refine cg_ialoadR C hc_147 dX4_isEdited_147 ?_
  refine cg_mmin C cmmin_X4_63 cmmin_s cmm_i cmmin_c (Nat.le_of_ble_eq_true rfl) (Nat.le_of_ble_eq_true rfl) (by decide) (by decide) dX4_isEdited_148 ?_
  refine cg_iconst C (x := nI 1) rfl dX4_isEdited_151 ?_
  refine cg_iadd C dX4_isEdited_152 ?_
  refine cg_mmin C cmmin_X4_63 cmmin_s cmm_i cmmin_c (Nat.le_of_ble_eq_true rfl) (Nat.le_of_ble_eq_true rfl) (by decide) (by decide) dX4_isEdited_153 ?_
  refine cg_nmI (fun x9_13 e_x9_13 => ?_)
  have h := h x9_13 e_x9_13
  refine cg_istore C (lv' := [(9, .int x9_13), (0, .ref x0), (1, .long x1), (3, .int x3), (4, .int x4), (5, .int x5), (7, .int x7)]) (Nat.le_of_ble_eq_true rfl) rfl dX4_isEdited_156 ?_
  refine cg_aload_n C (i := 0) rfl 1 rfl dX4_isEdited_158 ?_
  obtain ⟨hc_159, h⟩ := h
  obtain ⟨b14, hb_b14, h⟩ := h
  refine cg_get C (k := 4) (j := 10) (.ref b14) hc_159.1 hc_159.2 (by decide) rfl (by decide) rfl (show cV _ 4 10 x0 = _ from congrArg va_rf hb_b14) cWs_wsX40 cl_X4_37 rfl dX4_isEdited_159 ?_
  refine cg_iload C 6 rfl dX4_isEdited_162 ?_
  obtain ⟨hc_164, h⟩ := h
  refine cg_ialoadR C hc_164 dX4_isEdited_164 ?_
  refine cg_nmI (fun x6_15 e_x6_15 => ?_)
  have h := h x6_15 e_x6_15
  refine cg_istore C (lv' := [(6, .int x6_15), (9, .int x9_13), (0, .ref x0), (1, .long x1), (3, .int x3), (4, .int x4), (5, .int x5), (7, .int x7)]) (Nat.le_of_ble_eq_true rfl) rfl dX4_isEdited_165 ?_
  refine cg_aload_n C (i := 0) rfl 2 rfl dX4_isEdited_167 ?_
  obtain ⟨hc_168, h⟩ := h
  obtain ⟨b16, hb_b16, h⟩ := h
  refine cg_get C (k := 4) (j := 10) (.ref b16) hc_168.1 hc_168.2 (by decide) rfl (by decide) rfl (show cV _ 4 10 x0 = _ from congrArg va_rf hb_b16) cWs_wsX40 cl_X4_37 rfl dX4_isEdited_168 ?_
  refine cg_iload C 7 rfl dX4_isEdited_171 ?_
  refine cg_iload C 1 rfl dX4_isEdited_173 ?_
  obtain ⟨hc_175, h⟩ := h
  refine cg_iastoreR C hc_175 dX4_isEdited_175 ?_
  refine cg_nm (fun S17 e_S17 => ?_)
  have h := h S17 e_S17
  obtain ⟨x7_18, e_x7_18⟩ : ∃ z : Int32, z = x7 + nI 1 := ⟨_, rfl⟩
  have h := h x7_18 e_x7_18
  refine cg_iinc C (lv' := [(7, .int x7_18), (6, .int x6_15), (9, .int x9_13), (0, .ref x0), (1, .long x1), (3, .int x3), (4, .int x4), (5, .int x5)]) 7 rfl (by rw [e_x7_18]; rfl) (Nat.le_of_ble_eq_true rfl) rfl dX4_isEdited_176 ?_
  refine cg_goto C 83 (by decide) dX4_isEdited_179 ?_
  exact cg_sub [3, 4, 5, 6, 7, 1, 0] rfl (hR83 x0 x1 x3 x4 x5 x6_15 x7_18 S17 h)
set_option maxRecDepth 20000 in
theorem tb_X4_isEdited_117 (C : cC p s m args meth c cX4_isEdited 10 (some .boolean) A D Y tp dp RX4) {post : Int32 → cS → Prop} {R58 : Nat → Int64 → Int32 → Int32 → Int32 → cS → Prop} {R83 : Nat → Int64 → Int32 → Int32 → Int32 → Int32 → Int32 → cS → Prop} (hR58 : ∀ (x0 : Nat) (x1 : Int64) (x3 : Int32) (x4 : Int32) (x5 : Int32) (S : cS), R58 x0 x1 x3 x4 x5 S → cG p l e (cRm 1 0 0 22) s m args below meth c A D Y 10 (MQ below (cQi post D Y A) args s 0 0 A) 0 0 58 [(0, .ref x0), (1, .long x1), (3, .int x3), (4, .int x4), (5, .int x5)] [] S) (hR83 : ∀ (x0 : Nat) (x1 : Int64) (x3 : Int32) (x4 : Int32) (x5 : Int32) (x6 : Int32) (x7 : Int32) (S : cS), R83 x0 x1 x3 x4 x5 x6 x7 S → cG p l e (cRm 1 0 0 22) s m args below meth c A D Y 10 (MQ below (cQi post D Y A) args s 0 0 A) 0 0 83 [(0, .ref x0), (1, .long x1), (3, .int x3), (4, .int x4), (5, .int x5), (6, .int x6), (7, .int x7)] [] S) (x0 : Nat) (x1 : Int64) (x3 : Int32) (x4 : Int32) (x5 : Int32) (x6 : Int32) (x7 : Int32) (t0 : Int32) (S : cS) (h : k_X4_isEdited_117 post dp R58 R83 x0 x1 x3 x4 x5 x6 x7 t0 S) : cG p l e (cRm 1 0 0 22) s m args below meth c A D Y 10 (MQ below (cQi post D Y A) args s 0 0 A) 0 0 117 [(0, .ref x0), (1, .long x1), (3, .int x3), (4, .int x4), (5, .int x5), (6, .int x6), (7, .int x7)] [.int t0] S := by
  unfold k_X4_isEdited_117 at h
  refine cg_istore C (lv' := [(8, .int t0), (0, .ref x0), (1, .long x1), (3, .int x3), (4, .int x4), (5, .int x5), (6, .int x6), (7, .int x7)]) (Nat.le_of_ble_eq_true rfl) rfl dX4_isEdited_117 ?_
  refine cg_iload C 6 rfl dX4_isEdited_119 ?_
  refine cg_iload C 0 rfl dX4_isEdited_121 ?_
  refine cg_if_eq C 130 (by decide) dX4_isEdited_123 (fun c_ => ?_) (fun c_ => ?_)
  · have h := h.1 c_
    refine cg_iconst C (x := nI 1) rfl dX4_isEdited_130 ?_
    exact cg_sub [1, 2, 3, 4, 5, 7] rfl (tb_X4_isEdited_131 C  hR58 hR83 x0 x1 x3 x4 x5 x7 ((nI 1)) x6 S h)
  · have h := h.2 c_
    refine cg_iconst C (x := nI 0) rfl dX4_isEdited_126 ?_
    refine cg_goto C 131 (by decide) dX4_isEdited_127 ?_
    exact cg_sub [1, 2, 3, 4, 5, 7] rfl (tb_X4_isEdited_131 C  hR58 hR83 x0 x1 x3 x4 x5 x7 ((nI 0)) x6 S h)
set_option maxRecDepth 20000 in
theorem tb_X4_isEdited_83 (C : cC p s m args meth c cX4_isEdited 10 (some .boolean) A D Y tp dp RX4) {post : Int32 → cS → Prop} {R58 : Nat → Int64 → Int32 → Int32 → Int32 → cS → Prop} {R83 : Nat → Int64 → Int32 → Int32 → Int32 → Int32 → Int32 → cS → Prop} (hR58 : ∀ (x0 : Nat) (x1 : Int64) (x3 : Int32) (x4 : Int32) (x5 : Int32) (S : cS), R58 x0 x1 x3 x4 x5 S → cG p l e (cRm 1 0 0 22) s m args below meth c A D Y 10 (MQ below (cQi post D Y A) args s 0 0 A) 0 0 58 [(0, .ref x0), (1, .long x1), (3, .int x3), (4, .int x4), (5, .int x5)] [] S) (hR83 : ∀ (x0 : Nat) (x1 : Int64) (x3 : Int32) (x4 : Int32) (x5 : Int32) (x6 : Int32) (x7 : Int32) (S : cS), R83 x0 x1 x3 x4 x5 x6 x7 S → cG p l e (cRm 1 0 0 22) s m args below meth c A D Y 10 (MQ below (cQi post D Y A) args s 0 0 A) 0 0 83 [(0, .ref x0), (1, .long x1), (3, .int x3), (4, .int x4), (5, .int x5), (6, .int x6), (7, .int x7)] [] S) (x0 : Nat) (x1 : Int64) (x3 : Int32) (x4 : Int32) (x5 : Int32) (x6 : Int32) (x7 : Int32) (S : cS) (h : k_X4_isEdited_83 post dp R58 R83 x0 x1 x3 x4 x5 x6 x7 S) : cG p l e (cRm 1 0 0 22) s m args below meth c A D Y 10 (MQ below (cQi post D Y A) args s 0 0 A) 0 0 83 [(0, .ref x0), (1, .long x1), (3, .int x3), (4, .int x4), (5, .int x5), (6, .int x6), (7, .int x7)] [] S := by
  unfold k_X4_isEdited_83 at h
  refine cg_iload C 6 rfl dX4_isEdited_83 ?_
  refine cg_iload C 3 rfl dX4_isEdited_85 ?_
  refine cg_icmp_gt C 182 (by decide) dX4_isEdited_87 (fun c_ => ?_) (fun c_ => ?_)
  · have h := h.1 c_
    obtain ⟨x5_8, e_x5_8⟩ : ∃ z : Int32, z = x5 + nI 1 := ⟨_, rfl⟩
    have h := h x5_8 e_x5_8
    refine cg_iinc C (lv' := [(5, .int x5_8), (0, .ref x0), (1, .long x1), (3, .int x3), (4, .int x4), (6, .int x6), (7, .int x7)]) 4 rfl (by rw [e_x5_8]; rfl) (Nat.le_of_ble_eq_true rfl) rfl dX4_isEdited_182 ?_
    refine cg_goto C 58 (by decide) dX4_isEdited_185 ?_
    exact cg_sub [1, 2, 3, 4, 0] rfl (hR58 x0 x1 x3 x4 x5_8 S h)
  · have h := h.2 c_
    refine cg_lload_n C (i := 1) rfl 1 rfl dX4_isEdited_90 ?_
    refine cg_iload C 4 rfl dX4_isEdited_91 ?_
    refine cg_iconst C (x := nI 1) rfl dX4_isEdited_93 ?_
    refine cg_isub C dX4_isEdited_94 ?_
    refine cg_callsi C (t_X9_digitAt l x1 ((x5 - ((nI 1)))) S dp h) cc_X4_78 rfl ⟨by decide, by decide⟩ ⟨by decide, by decide⟩ rfl (Nat.le_of_ble_eq_true rfl) dX4_isEdited_95 (fun r_9 S_9 h => ?_)
    refine cg_aload_n C (i := 0) rfl 0 rfl dX4_isEdited_98 ?_
    obtain ⟨hc_99, h⟩ := h
    refine cg_get C (k := 4) (j := 9) (.long (cw S_9 137 x0)) hc_99.1 hc_99.2 (by decide) rfl (by decide) rfl rfl cWs_wsX40 cl_X4_33 rfl dX4_isEdited_99 ?_
    refine cg_iload C 6 rfl dX4_isEdited_102 ?_
    refine cg_iconst C (x := nI 1) rfl dX4_isEdited_104 ?_
    refine cg_isub C dX4_isEdited_105 ?_
    refine cg_callsi C (t_X9_digitAt l (cw S_9 137 x0) ((x7 - ((nI 1)))) S_9 dp h) cc_X4_78 rfl ⟨by decide, by decide⟩ ⟨by decide, by decide⟩ rfl (Nat.le_of_ble_eq_true rfl) dX4_isEdited_106 (fun r_10 S_10 h => ?_)
    refine cg_icmp_ne C 116 (by decide) dX4_isEdited_109 (fun c_ => ?_) (fun c_ => ?_)
    · have h := h.1 c_
      refine cg_iconst C (x := nI 0) rfl dX4_isEdited_116 ?_
      exact cg_sub [0, 1, 2, 3, 4, 5, 6] rfl (tb_X4_isEdited_117 C  hR58 hR83 x0 x1 x3 x4 x5 x6 x7 ((nI 0)) S_10 h)
    · have h := h.2 c_
      refine cg_iconst C (x := nI 1) rfl dX4_isEdited_112 ?_
      refine cg_goto C 117 (by decide) dX4_isEdited_113 ?_
      exact cg_sub [0, 1, 2, 3, 4, 5, 6] rfl (tb_X4_isEdited_117 C  hR58 hR83 x0 x1 x3 x4 x5 x6 x7 ((nI 1)) S_10 h)
set_option maxRecDepth 20000 in
theorem tl_X4_isEdited_83 (C : cC p s m args meth c cX4_isEdited 10 (some .boolean) A D Y tp dp RX4) {post : Int32 → cS → Prop} {R58 : Nat → Int64 → Int32 → Int32 → Int32 → cS → Prop} (hR58 : ∀ (x0 : Nat) (x1 : Int64) (x3 : Int32) (x4 : Int32) (x5 : Int32) (S : cS), R58 x0 x1 x3 x4 x5 S → cG p l e (cRm 1 0 0 22) s m args below meth c A D Y 10 (MQ below (cQi post D Y A) args s 0 0 A) 0 0 58 [(0, .ref x0), (1, .long x1), (3, .int x3), (4, .int x4), (5, .int x5)] [] S) (x0 : Nat) (x1 : Int64) (x3 : Int32) (x4 : Int32) (x5 : Int32) (x6 : Int32) (x7 : Int32) (S : cS) (h : k_X4_isEdited_83L post dp R58 x0 x1 x3 x4 x5 x6 x7 S) : cG p l e (cRm 1 0 0 22) s m args below meth c A D Y 10 (MQ below (cQi post D Y A) args s 0 0 A) 0 0 83 [(0, .ref x0), (1, .long x1), (3, .int x3), (4, .int x4), (5, .int x5), (6, .int x6), (7, .int x7)] [] S :=
  h (fun y => cG p l e (cRm 1 0 0 22) s m args below meth c A D Y 10 (MQ below (cQi post D Y A) args s 0 0 A) 0 0 83 [(0, .ref (y.1)), (1, .long (y.2.1)), (3, .int (y.2.2.1)), (4, .int (y.2.2.2.1)), (5, .int (y.2.2.2.2.1)), (6, .int (y.2.2.2.2.2.1)), (7, .int (y.2.2.2.2.2.2.1))] [] (y.2.2.2.2.2.2.2)) (fun y hy => tb_X4_isEdited_83 C  hR58 (fun b0 b1 b2 b3 b4 b5 b6 S z => z) (y.1) (y.2.1) (y.2.2.1) (y.2.2.2.1) (y.2.2.2.2.1) (y.2.2.2.2.2.1) (y.2.2.2.2.2.2.1) (y.2.2.2.2.2.2.2) hy)
set_option maxRecDepth 20000 in
theorem tb_X4_isEdited_58 (C : cC p s m args meth c cX4_isEdited 10 (some .boolean) A D Y tp dp RX4) {post : Int32 → cS → Prop} {R58 : Nat → Int64 → Int32 → Int32 → Int32 → cS → Prop} (hR58 : ∀ (x0 : Nat) (x1 : Int64) (x3 : Int32) (x4 : Int32) (x5 : Int32) (S : cS), R58 x0 x1 x3 x4 x5 S → cG p l e (cRm 1 0 0 22) s m args below meth c A D Y 10 (MQ below (cQi post D Y A) args s 0 0 A) 0 0 58 [(0, .ref x0), (1, .long x1), (3, .int x3), (4, .int x4), (5, .int x5)] [] S) (x0 : Nat) (x1 : Int64) (x3 : Int32) (x4 : Int32) (x5 : Int32) (S : cS) (h : k_X4_isEdited_58 post dp R58 x0 x1 x3 x4 x5 S) : cG p l e (cRm 1 0 0 22) s m args below meth c A D Y 10 (MQ below (cQi post D Y A) args s 0 0 A) 0 0 58 [(0, .ref x0), (1, .long x1), (3, .int x3), (4, .int x4), (5, .int x5)] [] S := by
  unfold k_X4_isEdited_58 at h
  refine cg_iload C 4 rfl dX4_isEdited_58 ?_
  refine cg_iload_n C (i := 3) rfl 2 rfl dX4_isEdited_60 ?_
  refine cg_icmp_gt C 188 (by decide) dX4_isEdited_61 (fun c_ => ?_) (fun c_ => ?_)
  · have h := h.1 c_
    refine cg_aload_n C (i := 0) rfl 0 rfl dX4_isEdited_188 ?_
    obtain ⟨hc_189, h⟩ := h
    obtain ⟨b3, hb_b3, h⟩ := h
    refine cg_get C (k := 4) (j := 10) (.ref b3) hc_189.1 hc_189.2 (by decide) rfl (by decide) rfl (show cV _ 4 10 x0 = _ from congrArg va_rf hb_b3) cWs_wsX40 cl_X4_37 rfl dX4_isEdited_189 ?_
    refine cg_iload C 3 rfl dX4_isEdited_192 ?_
    obtain ⟨hc_194, h⟩ := h
    refine cg_ialoadR C hc_194 dX4_isEdited_194 ?_
    refine cg_aload_n C (i := 0) rfl 0 rfl dX4_isEdited_195 ?_
    obtain ⟨hc_196, h⟩ := h
    refine cg_get C (k := 4) (j := 2) (.int (ci S 130 x0)) hc_196.1 hc_196.2 (by decide) rfl (by decide) rfl rfl cWs_wsX40 cl_X4_46 rfl dX4_isEdited_196 ?_
    refine cg_icmp_gt C 206 (by decide) dX4_isEdited_199 (fun c_ => ?_) (fun c_ => ?_)
    · have h := h.1 c_
      refine cg_iconst C (x := nI 0) rfl dX4_isEdited_206 ?_
      refine cg_cast (.int (bI false)) rfl ?_
      exact cg_zret C (bI_nar _) h dX4_isEdited_207 (by decide) (by decide)
    · have h := h.2 c_
      refine cg_iconst C (x := nI 1) rfl dX4_isEdited_202 ?_
      refine cg_goto C 207 (by decide) dX4_isEdited_203 ?_
      refine cg_cast (.int (bI true)) rfl ?_
      exact cg_zret C (bI_nar _) h dX4_isEdited_207 (by decide) (by decide)
  · have h := h.2 c_
    refine cg_aload_n C (i := 0) rfl 0 rfl dX4_isEdited_64 ?_
    obtain ⟨hc_65, h⟩ := h
    obtain ⟨b4, hb_b4, h⟩ := h
    refine cg_get C (k := 4) (j := 10) (.ref b4) hc_65.1 hc_65.2 (by decide) rfl (by decide) rfl (show cV _ 4 10 x0 = _ from congrArg va_rf hb_b4) cWs_wsX40 cl_X4_37 rfl dX4_isEdited_65 ?_
    refine cg_iconst C (x := nI 0) rfl dX4_isEdited_68 ?_
    obtain ⟨hc_69, h⟩ := h
    refine cg_ialoadR C hc_69 dX4_isEdited_69 ?_
    refine cg_nmI (fun x6_5 e_x6_5 => ?_)
    have h := h x6_5 e_x6_5
    refine cg_istore C (lv' := [(6, .int x6_5), (0, .ref x0), (1, .long x1), (3, .int x3), (4, .int x4), (5, .int x5)]) (Nat.le_of_ble_eq_true rfl) rfl dX4_isEdited_70 ?_
    refine cg_aload_n C (i := 0) rfl 1 rfl dX4_isEdited_72 ?_
    obtain ⟨hc_73, h⟩ := h
    obtain ⟨b6, hb_b6, h⟩ := h
    refine cg_get C (k := 4) (j := 10) (.ref b6) hc_73.1 hc_73.2 (by decide) rfl (by decide) rfl (show cV _ 4 10 x0 = _ from congrArg va_rf hb_b6) cWs_wsX40 cl_X4_37 rfl dX4_isEdited_73 ?_
    refine cg_iconst C (x := nI 0) rfl dX4_isEdited_76 ?_
    refine cg_iload C 5 rfl dX4_isEdited_77 ?_
    obtain ⟨hc_79, h⟩ := h
    refine cg_iastoreR C hc_79 dX4_isEdited_79 ?_
    refine cg_nm (fun S7 e_S7 => ?_)
    have h := h S7 e_S7
    refine cg_iconst C (x := nI 1) rfl dX4_isEdited_80 ?_
    refine cg_istore C (lv' := [(7, .int ((nI 1))), (6, .int x6_5), (0, .ref x0), (1, .long x1), (3, .int x3), (4, .int x4), (5, .int x5)]) (Nat.le_of_ble_eq_true rfl) rfl dX4_isEdited_81 ?_
    exact cg_sub [2, 3, 4, 5, 6, 1, 0] rfl (tl_X4_isEdited_83 C  hR58 x0 x1 x3 x4 x5 x6_5 (((nI 1))) S7 h)
set_option maxRecDepth 20000 in
theorem tl_X4_isEdited_58 (C : cC p s m args meth c cX4_isEdited 10 (some .boolean) A D Y tp dp RX4) {post : Int32 → cS → Prop}   (x0 : Nat) (x1 : Int64) (x3 : Int32) (x4 : Int32) (x5 : Int32) (S : cS) (h : k_X4_isEdited_58L post dp  x0 x1 x3 x4 x5 S) : cG p l e (cRm 1 0 0 22) s m args below meth c A D Y 10 (MQ below (cQi post D Y A) args s 0 0 A) 0 0 58 [(0, .ref x0), (1, .long x1), (3, .int x3), (4, .int x4), (5, .int x5)] [] S :=
  h (fun y => cG p l e (cRm 1 0 0 22) s m args below meth c A D Y 10 (MQ below (cQi post D Y A) args s 0 0 A) 0 0 58 [(0, .ref (y.1)), (1, .long (y.2.1)), (3, .int (y.2.2.1)), (4, .int (y.2.2.2.1)), (5, .int (y.2.2.2.2.1))] [] (y.2.2.2.2.2)) (fun y hy => tb_X4_isEdited_58 C   (fun b0 b1 b2 b3 b4 S z => z) (y.1) (y.2.1) (y.2.2.1) (y.2.2.2.1) (y.2.2.2.2.1) (y.2.2.2.2.2) hy)
set_option maxRecDepth 20000 in
theorem tb_X4_isEdited_33 (C : cC p s m args meth c cX4_isEdited 10 (some .boolean) A D Y tp dp RX4) {post : Int32 → cS → Prop} {R33 : Nat → Int64 → Int32 → Int32 → Int32 → cS → Prop} (hR33 : ∀ (x0 : Nat) (x1 : Int64) (x3 : Int32) (x4 : Int32) (x5 : Int32) (S : cS), R33 x0 x1 x3 x4 x5 S → cG p l e (cRm 1 0 0 22) s m args below meth c A D Y 10 (MQ below (cQi post D Y A) args s 0 0 A) 0 0 33 [(0, .ref x0), (1, .long x1), (3, .int x3), (4, .int x4), (5, .int x5)] [] S) (x0 : Nat) (x1 : Int64) (x3 : Int32) (x4 : Int32) (x5 : Int32) (S : cS) (h : k_X4_isEdited_33 post dp R33 x0 x1 x3 x4 x5 S) : cG p l e (cRm 1 0 0 22) s m args below meth c A D Y 10 (MQ below (cQi post D Y A) args s 0 0 A) 0 0 33 [(0, .ref x0), (1, .long x1), (3, .int x3), (4, .int x4), (5, .int x5)] [] S := by
  unfold k_X4_isEdited_33 at h
  refine cg_iload C 4 rfl dX4_isEdited_33 ?_
  refine cg_iload C 3 rfl dX4_isEdited_35 ?_
  refine cg_icmp_gt C 55 (by decide) dX4_isEdited_37 (fun c_ => ?_) (fun c_ => ?_)
  · have h := h.1 c_
    refine cg_iconst C (x := nI 1) rfl dX4_isEdited_55 ?_
    refine cg_istore C (lv' := [(5, .int ((nI 1))), (0, .ref x0), (1, .long x1), (3, .int x3), (4, .int x4)]) (Nat.le_of_ble_eq_true rfl) rfl dX4_isEdited_56 ?_
    exact cg_sub [1, 2, 3, 4, 0] rfl (tl_X4_isEdited_58 C   x0 x1 x3 x4 (((nI 1))) S h)
  · have h := h.2 c_
    refine cg_aload_n C (i := 0) rfl 0 rfl dX4_isEdited_40 ?_
    obtain ⟨hc_41, h⟩ := h
    obtain ⟨b19, hb_b19, h⟩ := h
    refine cg_get C (k := 4) (j := 10) (.ref b19) hc_41.1 hc_41.2 (by decide) rfl (by decide) rfl (show cV _ 4 10 x0 = _ from congrArg va_rf hb_b19) cWs_wsX40 cl_X4_37 rfl dX4_isEdited_41 ?_
    refine cg_iload C 4 rfl dX4_isEdited_44 ?_
    refine cg_iload C 4 rfl dX4_isEdited_46 ?_
    obtain ⟨hc_48, h⟩ := h
    refine cg_iastoreR C hc_48 dX4_isEdited_48 ?_
    refine cg_nm (fun S20 e_S20 => ?_)
    have h := h S20 e_S20
    obtain ⟨x5_21, e_x5_21⟩ : ∃ z : Int32, z = x5 + nI 1 := ⟨_, rfl⟩
    have h := h x5_21 e_x5_21
    refine cg_iinc C (lv' := [(5, .int x5_21), (0, .ref x0), (1, .long x1), (3, .int x3), (4, .int x4)]) 4 rfl (by rw [e_x5_21]; rfl) (Nat.le_of_ble_eq_true rfl) rfl dX4_isEdited_49 ?_
    refine cg_goto C 33 (by decide) dX4_isEdited_52 ?_
    exact cg_sub [1, 2, 3, 4, 0] rfl (hR33 x0 x1 x3 x4 x5_21 S20 h)
set_option maxRecDepth 20000 in
theorem tl_X4_isEdited_33 (C : cC p s m args meth c cX4_isEdited 10 (some .boolean) A D Y tp dp RX4) {post : Int32 → cS → Prop}   (x0 : Nat) (x1 : Int64) (x3 : Int32) (x4 : Int32) (x5 : Int32) (S : cS) (h : k_X4_isEdited_33L post dp  x0 x1 x3 x4 x5 S) : cG p l e (cRm 1 0 0 22) s m args below meth c A D Y 10 (MQ below (cQi post D Y A) args s 0 0 A) 0 0 33 [(0, .ref x0), (1, .long x1), (3, .int x3), (4, .int x4), (5, .int x5)] [] S :=
  h (fun y => cG p l e (cRm 1 0 0 22) s m args below meth c A D Y 10 (MQ below (cQi post D Y A) args s 0 0 A) 0 0 33 [(0, .ref (y.1)), (1, .long (y.2.1)), (3, .int (y.2.2.1)), (4, .int (y.2.2.2.1)), (5, .int (y.2.2.2.2.1))] [] (y.2.2.2.2.2)) (fun y hy => tb_X4_isEdited_33 C   (fun b0 b1 b2 b3 b4 S z => z) (y.1) (y.2.1) (y.2.2.1) (y.2.2.2.1) (y.2.2.2.2.1) (y.2.2.2.2.2) hy)
end S_X4_isEdited
set_option maxHeartbeats 1000000 in
set_option maxRecDepth 20000 in
theorem t_X4_isEdited (l : Launch) (x0 : Nat) (x1 : Int64) (x3 : Int32) (S : cS) (dp : Nat) {P : Int32 → cS → Prop} (h : k_X4_isEdited P dp x0 x1 x3 S) : cMet (cQi P) l yX4_isEdited cX4_isEdited 10 (some .boolean) 1 0 0 22 [.ref x0, .long x1, .int x3] S dp := by
  intro D Y tp sz
  refine cg_body (by decide +kernel) (Nat.le_of_ble_eq_true rfl) ?_
  intro p e s m args below meth c C
  generalize va_A (cWd Y S) sz = A at C ⊢
  have C : cC p s m args meth c cX4_isEdited 10 (some .boolean) A D Y tp dp RX4 := C
  refine cg_lv (lv' := [(0, .ref x0), (1, .long x1), (3, .int x3)]) rfl ?_
  unfold k_X4_isEdited at h
  refine cg_aload_n C (i := 0) rfl 0 rfl dX4_isEdited_0 ?_
  obtain ⟨hc_1, h⟩ := h
  obtain ⟨b1, hb_b1, h⟩ := h
  refine cg_get C (k := 4) (j := 10) (.ref b1) hc_1.1 hc_1.2 (by decide) rfl (by decide) rfl (show cV _ 4 10 x0 = _ from congrArg va_rf hb_b1) cWs_wsX40 cl_X4_37 rfl dX4_isEdited_1 ?_
  obtain ⟨hc_4, h⟩ := h
  refine cg_alen C hc_4.1 hc_4.2 (by decide) (by decide) dX4_isEdited_4 ?_
  refine cg_iconst C (x := nI 1) rfl dX4_isEdited_5 ?_
  refine cg_isub C dX4_isEdited_6 ?_
  refine cg_nmI (fun x4_2 e_x4_2 => ?_)
  have h := h x4_2 e_x4_2
  refine cg_istore C (lv' := [(4, .int x4_2), (0, .ref x0), (1, .long x1), (3, .int x3)]) (Nat.le_of_ble_eq_true rfl) rfl dX4_isEdited_7 ?_
  refine cg_iload C 0 rfl dX4_isEdited_9 ?_
  refine cg_if_lt C 28 (by decide) dX4_isEdited_11 (fun c_ => ?_) (fun c_ => ?_)
  · have h := h.1 c_
    refine cg_iconst C (x := nI 0) rfl dX4_isEdited_28 ?_
    refine cg_cast (.int (bI false)) rfl ?_
    exact cg_zret C (bI_nar _) h dX4_isEdited_29 (by decide) (by decide)
  · have h := h.2 c_
    refine cg_iload_n C (i := 3) rfl 3 rfl dX4_isEdited_14 ?_
    refine cg_iload C 0 rfl dX4_isEdited_15 ?_
    refine cg_isub C dX4_isEdited_17 ?_
    refine cg_mabs C cmabs_X4_115 cmabs_s cmm_i cmabs_c (Nat.le_of_ble_eq_true rfl) (Nat.le_of_ble_eq_true rfl) (by decide) (by decide) dX4_isEdited_18 ?_
    refine cg_aload_n C (i := 0) rfl 1 rfl dX4_isEdited_21 ?_
    obtain ⟨hc_22, h⟩ := h
    refine cg_get C (k := 4) (j := 2) (.int (ci S 130 x0)) hc_22.1 hc_22.2 (by decide) rfl (by decide) rfl rfl cWs_wsX40 cl_X4_46 rfl dX4_isEdited_22 ?_
    refine cg_icmp_le C 30 (by decide) dX4_isEdited_25 (fun c_ => ?_) (fun c_ => ?_)
    · have h := h.1 c_
      refine cg_iconst C (x := nI 0) rfl dX4_isEdited_30 ?_
      refine cg_istore C (lv' := [(5, .int ((nI 0))), (4, .int x4_2), (0, .ref x0), (1, .long x1), (3, .int x3)]) (Nat.le_of_ble_eq_true rfl) rfl dX4_isEdited_31 ?_
      exact cg_sub [2, 3, 4, 1, 0] rfl (tl_X4_isEdited_33 C   x0 x1 x3 x4_2 (((nI 0))) S h)
    · have h := h.2 c_
      refine cg_iconst C (x := nI 0) rfl dX4_isEdited_28 ?_
      refine cg_cast (.int (bI false)) rfl ?_
      exact cg_zret C (bI_nar _) h dX4_isEdited_29 (by decide) (by decide)
def k_X4_withEmpty_38 (Q : Int32 → cS → Prop) (dp : Nat) (R4 : Nat → Int32 → Int32 → cS → Prop) (x0 : Nat) (x2 : Int32) (x3 : Int32) (S : cS) : Prop :=
∀ x3_3 : Int32, x3_3 = x3 + nI 1 → R4 x0 x2 x3_3 S
def k_X4_withEmpty_4 (Q : Int32 → cS → Prop) (dp : Nat) (R4 : Nat → Int32 → Int32 → cS → Prop) (x0 : Nat) (x2 : Int32) (x3 : Int32) (S : cS) : Prop :=
cA S x0 4 ∧ ((∃ b1 : Nat, cr S 136 x0 = some b1 ∧ (cA S b1 14 ∧ (((((nI (cn S b1))) ≤ x3 →
  Q x2 S) ∧
 (¬ ((nI (cn S b1))) ≤ x3 →
  cA S x0 4 ∧ ((∃ b2 : Nat, cr S 136 x0 = some b2 ∧ (cX S b2 14 x3 ∧ (((¬ ((cI S b2 (x3).toNatClampNeg)) = ((nI 38)) →
    k_X4_withEmpty_38 Q dp R4 x0 x2 x3 S) ∧
   (((cI S b2 (x3).toNatClampNeg)) = ((nI 38)) →
    ((((((x2 >>> (x3 &&& 31))) &&& ((nI 1)))) = 0 →
      k_X4_withEmpty_38 Q dp R4 x0 x2 x3 S) ∧
     (¬ ((((x2 >>> (x3 &&& 31))) &&& ((nI 1)))) = 0 →
      ∀ x2_4 : Int32, x2_4 = (x2 ||| ((((nI 2)) <<< (x3 &&& 31)))) → k_X4_withEmpty_38 Q dp R4 x0 x2_4 x3 S))))))))))))))
def k_X4_withEmpty_4L (Q : Int32 → cS → Prop) (dp : Nat)  (x0 : Nat) (x2 : Int32) (x3 : Int32) (S : cS) : Prop :=
  lfp (X := Nat × Int32 × Int32 × cS) (fun P y => k_X4_withEmpty_4 Q dp  (fun b0 b1 b2 S => P (b0, b1, b2, S)) y.1 y.2.1 y.2.2.1 y.2.2.2) (x0, x2, x3, S)
def k_X4_withEmpty (Q : Int32 → cS → Prop) (dp : Nat) (x0 : Nat) (x1 : Int32) (S : cS) : Prop :=
k_X4_withEmpty_4L Q dp  x0 x1 (((nI 0))) S
section S_X4_withEmpty
variable {p : Program} {l : Launch} {e : Env} {s : State} {m : MethodId} {args : Array Value} {below : List Frame} {meth : Method} {c : Code} {A : Nat → Prop} {D : va_G} {Y : cY} {tp dp : Nat}
set_option maxRecDepth 20000 in
theorem tb_X4_withEmpty_38 (C : cC p s m args meth c cX4_withEmpty 4 (some .int) A D Y tp dp RX4) {post : Int32 → cS → Prop} {R4 : Nat → Int32 → Int32 → cS → Prop} (hR4 : ∀ (x0 : Nat) (x2 : Int32) (x3 : Int32) (S : cS), R4 x0 x2 x3 S → cG p l e (cRm 0 0 0 0) s m args below meth c A D Y 4 (MQ below (cQi post D Y A) args s 0 0 A) 0 0 4 [(0, .ref x0), (2, .int x2), (3, .int x3)] [] S) (x0 : Nat) (x2 : Int32) (x3 : Int32) (S : cS) (h : k_X4_withEmpty_38 post dp R4 x0 x2 x3 S) : cG p l e (cRm 0 0 0 0) s m args below meth c A D Y 4 (MQ below (cQi post D Y A) args s 0 0 A) 0 0 38 [(0, .ref x0), (2, .int x2), (3, .int x3)] [] S := by
  unfold k_X4_withEmpty_38 at h
  obtain ⟨x3_3, e_x3_3⟩ : ∃ z : Int32, z = x3 + nI 1 := ⟨_, rfl⟩
  have h := h x3_3 e_x3_3
  refine cg_iinc C (lv' := [(3, .int x3_3), (0, .ref x0), (2, .int x2)]) 2 rfl (by rw [e_x3_3]; rfl) (Nat.le_of_ble_eq_true rfl) rfl dX4_withEmpty_38 ?_
  refine cg_goto C 4 (by decide) dX4_withEmpty_41 ?_
  exact cg_sub [1, 2, 0] rfl (hR4 x0 x2 x3_3 S h)
set_option maxRecDepth 20000 in
theorem tb_X4_withEmpty_4 (C : cC p s m args meth c cX4_withEmpty 4 (some .int) A D Y tp dp RX4) {post : Int32 → cS → Prop} {R4 : Nat → Int32 → Int32 → cS → Prop} (hR4 : ∀ (x0 : Nat) (x2 : Int32) (x3 : Int32) (S : cS), R4 x0 x2 x3 S → cG p l e (cRm 0 0 0 0) s m args below meth c A D Y 4 (MQ below (cQi post D Y A) args s 0 0 A) 0 0 4 [(0, .ref x0), (2, .int x2), (3, .int x3)] [] S) (x0 : Nat) (x2 : Int32) (x3 : Int32) (S : cS) (h : k_X4_withEmpty_4 post dp R4 x0 x2 x3 S) : cG p l e (cRm 0 0 0 0) s m args below meth c A D Y 4 (MQ below (cQi post D Y A) args s 0 0 A) 0 0 4 [(0, .ref x0), (2, .int x2), (3, .int x3)] [] S := by
  unfold k_X4_withEmpty_4 at h
  refine cg_iload_n C (i := 3) rfl 2 rfl dX4_withEmpty_4 ?_
  refine cg_aload_n C (i := 0) rfl 0 rfl dX4_withEmpty_5 ?_
  obtain ⟨hc_6, h⟩ := h
  obtain ⟨b1, hb_b1, h⟩ := h
  refine cg_get C (k := 4) (j := 8) (.ref b1) hc_6.1 hc_6.2 (by decide) rfl (by decide) rfl (show cV _ 4 8 x0 = _ from congrArg va_rf hb_b1) cWs_wsX40 cl_X4_30 rfl dX4_withEmpty_6 ?_
  obtain ⟨hc_9, h⟩ := h
  refine cg_alen C hc_9.1 hc_9.2 (by decide) (by decide) dX4_withEmpty_9 ?_
  refine cg_icmp_ge C 44 (by decide) dX4_withEmpty_10 (fun c_ => ?_) (fun c_ => ?_)
  · have h := h.1 c_
    refine cg_iload_n C (i := 2) rfl 1 rfl dX4_withEmpty_44 ?_
    exact cg_iret C h dX4_withEmpty_45 (by decide) (by decide)
  · have h := h.2 c_
    refine cg_aload_n C (i := 0) rfl 0 rfl dX4_withEmpty_13 ?_
    obtain ⟨hc_14, h⟩ := h
    obtain ⟨b2, hb_b2, h⟩ := h
    refine cg_get C (k := 4) (j := 8) (.ref b2) hc_14.1 hc_14.2 (by decide) rfl (by decide) rfl (show cV _ 4 8 x0 = _ from congrArg va_rf hb_b2) cWs_wsX40 cl_X4_30 rfl dX4_withEmpty_14 ?_
    refine cg_iload_n C (i := 3) rfl 2 rfl dX4_withEmpty_17 ?_
    obtain ⟨hc_18, h⟩ := h
    refine cg_ialoadR C hc_18 dX4_withEmpty_18 ?_
    refine cg_bipush C (x := nI 38) rfl dX4_withEmpty_19 ?_
    refine cg_icmp_ne C 38 (by decide) dX4_withEmpty_21 (fun c_ => ?_) (fun c_ => ?_)
    · have h := h.1 c_
      exact cg_sub [0, 1, 2] rfl (tb_X4_withEmpty_38 C  hR4 x0 x2 x3 S h)
    · have h := h.2 c_
      refine cg_iload_n C (i := 2) rfl 1 rfl dX4_withEmpty_24 ?_
      refine cg_iload_n C (i := 3) rfl 2 rfl dX4_withEmpty_25 ?_
      refine cg_ishr C dX4_withEmpty_26 ?_
      refine cg_iconst C (x := nI 1) rfl dX4_withEmpty_27 ?_
      refine cg_iand C dX4_withEmpty_28 ?_
      refine cg_if_eq C 38 (by decide) dX4_withEmpty_29 (fun c_ => ?_) (fun c_ => ?_)
      · have h := h.1 c_
        exact cg_sub [0, 1, 2] rfl (tb_X4_withEmpty_38 C  hR4 x0 x2 x3 S h)
      · have h := h.2 c_
        refine cg_iload_n C (i := 2) rfl 1 rfl dX4_withEmpty_32 ?_
        refine cg_iconst C (x := nI 2) rfl dX4_withEmpty_33 ?_
        refine cg_iload_n C (i := 3) rfl 2 rfl dX4_withEmpty_34 ?_
        refine cg_ishl C dX4_withEmpty_35 ?_
        refine cg_ior C dX4_withEmpty_36 ?_
        refine cg_nmI (fun x2_4 e_x2_4 => ?_)
        have h := h x2_4 e_x2_4
        refine cg_istore_n C (i := 2) (lv' := [(2, .int x2_4), (0, .ref x0), (3, .int x3)]) rfl (Nat.le_of_ble_eq_true rfl) rfl dX4_withEmpty_37 ?_
        exact cg_sub [1, 0, 2] rfl (tb_X4_withEmpty_38 C  hR4 x0 x2_4 x3 S h)
set_option maxRecDepth 20000 in
theorem tl_X4_withEmpty_4 (C : cC p s m args meth c cX4_withEmpty 4 (some .int) A D Y tp dp RX4) {post : Int32 → cS → Prop}   (x0 : Nat) (x2 : Int32) (x3 : Int32) (S : cS) (h : k_X4_withEmpty_4L post dp  x0 x2 x3 S) : cG p l e (cRm 0 0 0 0) s m args below meth c A D Y 4 (MQ below (cQi post D Y A) args s 0 0 A) 0 0 4 [(0, .ref x0), (2, .int x2), (3, .int x3)] [] S :=
  h (fun y => cG p l e (cRm 0 0 0 0) s m args below meth c A D Y 4 (MQ below (cQi post D Y A) args s 0 0 A) 0 0 4 [(0, .ref (y.1)), (2, .int (y.2.1)), (3, .int (y.2.2.1))] [] (y.2.2.2)) (fun y hy => tb_X4_withEmpty_4 C   (fun b0 b1 b2 S z => z) (y.1) (y.2.1) (y.2.2.1) (y.2.2.2) hy)
end S_X4_withEmpty
set_option maxHeartbeats 1000000 in
set_option maxRecDepth 20000 in
theorem t_X4_withEmpty (l : Launch) (x0 : Nat) (x1 : Int32) (S : cS) (dp : Nat) {P : Int32 → cS → Prop} (h : k_X4_withEmpty P dp x0 x1 S) : cMet (cQi P) l yX4_withEmpty cX4_withEmpty 4 (some .int) 0 0 0 0 [.ref x0, .int x1] S dp := by
  intro D Y tp sz
  refine cg_body (by decide +kernel) (Nat.le_of_ble_eq_true rfl) ?_
  intro p e s m args below meth c C
  generalize va_A (cWd Y S) sz = A at C ⊢
  have C : cC p s m args meth c cX4_withEmpty 4 (some .int) A D Y tp dp RX4 := C
  refine cg_lv (lv' := [(0, .ref x0), (1, .int x1)]) rfl ?_
  unfold k_X4_withEmpty at h
  refine cg_iload_n C (i := 1) rfl 1 rfl dX4_withEmpty_0 ?_
  refine cg_istore_n C (i := 2) (lv' := [(2, .int x1), (0, .ref x0), (1, .int x1)]) rfl (Nat.le_of_ble_eq_true rfl) rfl dX4_withEmpty_1 ?_
  refine cg_iconst C (x := nI 0) rfl dX4_withEmpty_2 ?_
  refine cg_istore_n C (i := 3) (lv' := [(3, .int ((nI 0))), (2, .int x1), (0, .ref x0), (1, .int x1)]) rfl (Nat.le_of_ble_eq_true rfl) rfl dX4_withEmpty_3 ?_
  exact cg_sub [2, 1, 0] rfl (tl_X4_withEmpty_4 C   x0 x1 (((nI 0))) S h)
def k_X4_isLikePattern_107 (Q : Int32 → cS → Prop) (dp : Nat) (R10 : Nat → Int64 → Int32 → Int32 → Int32 → cS → Prop) (R30 : Nat → Int64 → Int32 → Int32 → Int32 → Int32 → Int32 → Int32 → cS → Prop) (x0 : Nat) (x1 : Int64) (x3 : Int32) (x4 : Int32) (x5 : Int32) (x6 : Int32) (x7 : Int32) (x8 : Int32) (S : cS) : Prop :=
∀ x8_7 : Int32, x8_7 = x8 + nI 1 → R30 x0 x1 x3 x4 x5 x6 x7 x8_7 S
def k_X4_isLikePattern_98 (Q : Int32 → cS → Prop) (dp : Nat) (R10 : Nat → Int64 → Int32 → Int32 → Int32 → cS → Prop) (R30 : Nat → Int64 → Int32 → Int32 → Int32 → Int32 → Int32 → Int32 → cS → Prop) (x0 : Nat) (x1 : Int64) (x3 : Int32) (x4 : Int32) (x5 : Int32) (x6 : Int32) (x7 : Int32) (x8 : Int32) (S : cS) : Prop :=
∀ x7_10 : Int32, x7_10 = (x7 ||| ((((nI 2)) <<< (x8 &&& 31)))) → k_X4_isLikePattern_107 Q dp R10 R30 x0 x1 x3 x4 x5 x6 x7_10 x8 S
def k_X4_isLikePattern_30 (Q : Int32 → cS → Prop) (dp : Nat) (R10 : Nat → Int64 → Int32 → Int32 → Int32 → cS → Prop) (R30 : Nat → Int64 → Int32 → Int32 → Int32 → Int32 → Int32 → Int32 → cS → Prop) (x0 : Nat) (x1 : Int64) (x3 : Int32) (x4 : Int32) (x5 : Int32) (x6 : Int32) (x7 : Int32) (x8 : Int32) (S : cS) : Prop :=
cA S x0 4 ∧ ((∃ b4 : Nat, cr S 136 x0 = some b4 ∧ (cA S b4 14 ∧ (((((nI (cn S b4))) ≤ x8 →
  cA S x0 4 ∧ (k_X4_withEmpty (fun r_5 S_5 => 
  ∀ x5_6 : Int32, x5_6 = x5 + nI 1 → R10 x0 x1 x3 r_5 x5_6 S_5) dp x0 x7 S)) ∧
 (¬ ((nI (cn S b4))) ≤ x8 →
  ((((((x4 >>> (x8 &&& 31))) &&& ((nI 1)))) = 0 →
    k_X4_isLikePattern_107 Q dp R10 R30 x0 x1 x3 x4 x5 x6 x7 x8 S) ∧
   (¬ ((((x4 >>> (x8 &&& 31))) &&& ((nI 1)))) = 0 →
    cA S x0 4 ∧ ((∃ b8 : Nat, cr S 136 x0 = some b8 ∧ (cX S b8 14 x8 ∧ (((¬ ((cI S b8 (x8).toNatClampNeg)) = ((nI 38)) →
      cA S x0 4 ∧ ((∃ b9 : Nat, cr S 136 x0 = some b9 ∧ (cX S b9 14 x8 ∧ (((((cI S b9 (x8).toNatClampNeg)) = ((nI 37)) →
        k_X4_isLikePattern_98 Q dp R10 R30 x0 x1 x3 x4 x5 x6 x7 x8 S) ∧
       (¬ ((cI S b9 (x8).toNatClampNeg)) = ((nI 37)) →
        cA S x0 4 ∧ ((∃ b11 : Nat, cr S 136 x0 = some b11 ∧ (cX S b11 14 x8 ∧ (((¬ ((cI S b11 (x8).toNatClampNeg)) = x6 →
          k_X4_isLikePattern_107 Q dp R10 R30 x0 x1 x3 x4 x5 x6 x7 x8 S) ∧
         (((cI S b11 (x8).toNatClampNeg)) = x6 →
          k_X4_isLikePattern_98 Q dp R10 R30 x0 x1 x3 x4 x5 x6 x7 x8 S))))))))))))) ∧
     (((cI S b8 (x8).toNatClampNeg)) = ((nI 38)) →
      ∀ x7_12 : Int32, x7_12 = (x7 ||| ((((nI 1)) <<< (x8 &&& 31)))) → k_X4_isLikePattern_107 Q dp R10 R30 x0 x1 x3 x4 x5 x6 x7_12 x8 S))))))))))))))
def k_X4_isLikePattern_30L (Q : Int32 → cS → Prop) (dp : Nat) (R10 : Nat → Int64 → Int32 → Int32 → Int32 → cS → Prop) (x0 : Nat) (x1 : Int64) (x3 : Int32) (x4 : Int32) (x5 : Int32) (x6 : Int32) (x7 : Int32) (x8 : Int32) (S : cS) : Prop :=
  lfp (X := Nat × Int64 × Int32 × Int32 × Int32 × Int32 × Int32 × Int32 × cS) (fun P y => k_X4_isLikePattern_30 Q dp R10 (fun b0 b1 b2 b3 b4 b5 b6 b7 S => P (b0, b1, b2, b3, b4, b5, b6, b7, S)) y.1 y.2.1 y.2.2.1 y.2.2.2.1 y.2.2.2.2.1 y.2.2.2.2.2.1 y.2.2.2.2.2.2.1 y.2.2.2.2.2.2.2.1 y.2.2.2.2.2.2.2.2) (x0, x1, x3, x4, x5, x6, x7, x8, S)
def k_X4_isLikePattern_10 (Q : Int32 → cS → Prop) (dp : Nat) (R10 : Nat → Int64 → Int32 → Int32 → Int32 → cS → Prop) (x0 : Nat) (x1 : Int64) (x3 : Int32) (x4 : Int32) (x5 : Int32) (S : cS) : Prop :=
((x3 ≤ x5 →
  cA S x0 4 ∧ ((∃ b2 : Nat, cr S 136 x0 = some b2 ∧ (cA S b2 14 ∧ (((((((x4 >>> (((nI (cn S b2))) &&& 31))) &&& ((nI 1)))) = 0 →
    Q ((bI false)) S) ∧
   (¬ ((((x4 >>> (((nI (cn S b2))) &&& 31))) &&& ((nI 1)))) = 0 →
    Q ((bI true)) S))))))) ∧
 (¬ x3 ≤ x5 →
  k_X9_digitAt (fun r_3 S_3 => 
  k_X4_isLikePattern_30L Q dp R10 x0 x1 x3 x4 x5 r_3 (((nI 0))) (((nI 0))) S_3) dp x1 x5 S))
def k_X4_isLikePattern_10L (Q : Int32 → cS → Prop) (dp : Nat)  (x0 : Nat) (x1 : Int64) (x3 : Int32) (x4 : Int32) (x5 : Int32) (S : cS) : Prop :=
  lfp (X := Nat × Int64 × Int32 × Int32 × Int32 × cS) (fun P y => k_X4_isLikePattern_10 Q dp  (fun b0 b1 b2 b3 b4 S => P (b0, b1, b2, b3, b4, S)) y.1 y.2.1 y.2.2.1 y.2.2.2.1 y.2.2.2.2.1 y.2.2.2.2.2) (x0, x1, x3, x4, x5, S)
def k_X4_isLikePattern (Q : Int32 → cS → Prop) (dp : Nat) (x0 : Nat) (x1 : Int64) (x3 : Int32) (S : cS) : Prop :=
cA S x0 4 ∧ (k_X4_withEmpty (fun r_1 S_1 => 
k_X4_isLikePattern_10L Q dp  x0 x1 x3 r_1 (((nI 0))) S_1) dp x0 ((nI 1)) S)
section S_X4_isLikePattern
variable {p : Program} {l : Launch} {e : Env} {s : State} {m : MethodId} {args : Array Value} {below : List Frame} {meth : Method} {c : Code} {A : Nat → Prop} {D : va_G} {Y : cY} {tp dp : Nat}
set_option maxRecDepth 20000 in
theorem tb_X4_isLikePattern_107 (C : cC p s m args meth c cX4_isLikePattern 9 (some .boolean) A D Y tp dp RX4) {post : Int32 → cS → Prop} {R10 : Nat → Int64 → Int32 → Int32 → Int32 → cS → Prop} {R30 : Nat → Int64 → Int32 → Int32 → Int32 → Int32 → Int32 → Int32 → cS → Prop} (hR10 : ∀ (x0 : Nat) (x1 : Int64) (x3 : Int32) (x4 : Int32) (x5 : Int32) (S : cS), R10 x0 x1 x3 x4 x5 S → cG p l e (cRm 1 0 0 23) s m args below meth c A D Y 9 (MQ below (cQi post D Y A) args s 0 0 A) 0 0 10 [(0, .ref x0), (1, .long x1), (3, .int x3), (4, .int x4), (5, .int x5)] [] S) (hR30 : ∀ (x0 : Nat) (x1 : Int64) (x3 : Int32) (x4 : Int32) (x5 : Int32) (x6 : Int32) (x7 : Int32) (x8 : Int32) (S : cS), R30 x0 x1 x3 x4 x5 x6 x7 x8 S → cG p l e (cRm 1 0 0 23) s m args below meth c A D Y 9 (MQ below (cQi post D Y A) args s 0 0 A) 0 0 30 [(0, .ref x0), (1, .long x1), (3, .int x3), (4, .int x4), (5, .int x5), (6, .int x6), (7, .int x7), (8, .int x8)] [] S) (x0 : Nat) (x1 : Int64) (x3 : Int32) (x4 : Int32) (x5 : Int32) (x6 : Int32) (x7 : Int32) (x8 : Int32) (S : cS) (h : k_X4_isLikePattern_107 post dp R10 R30 x0 x1 x3 x4 x5 x6 x7 x8 S) : cG p l e (cRm 1 0 0 23) s m args below meth c A D Y 9 (MQ below (cQi post D Y A) args s 0 0 A) 0 0 107 [(0, .ref x0), (1, .long x1), (3, .int x3), (4, .int x4), (5, .int x5), (6, .int x6), (7, .int x7), (8, .int x8)] [] S := by
  unfold k_X4_isLikePattern_107 at h
  obtain ⟨x8_7, e_x8_7⟩ : ∃ z : Int32, z = x8 + nI 1 := ⟨_, rfl⟩
  have h := h x8_7 e_x8_7
  refine cg_iinc C (lv' := [(8, .int x8_7), (0, .ref x0), (1, .long x1), (3, .int x3), (4, .int x4), (5, .int x5), (6, .int x6), (7, .int x7)]) 7 rfl (by rw [e_x8_7]; rfl) (Nat.le_of_ble_eq_true rfl) rfl dX4_isLikePattern_107 ?_
  refine cg_goto C 30 (by decide) dX4_isLikePattern_110 ?_
  exact cg_sub [1, 2, 3, 4, 5, 6, 7, 0] rfl (hR30 x0 x1 x3 x4 x5 x6 x7 x8_7 S h)
set_option maxRecDepth 20000 in
theorem tb_X4_isLikePattern_98 (C : cC p s m args meth c cX4_isLikePattern 9 (some .boolean) A D Y tp dp RX4) {post : Int32 → cS → Prop} {R10 : Nat → Int64 → Int32 → Int32 → Int32 → cS → Prop} {R30 : Nat → Int64 → Int32 → Int32 → Int32 → Int32 → Int32 → Int32 → cS → Prop} (hR10 : ∀ (x0 : Nat) (x1 : Int64) (x3 : Int32) (x4 : Int32) (x5 : Int32) (S : cS), R10 x0 x1 x3 x4 x5 S → cG p l e (cRm 1 0 0 23) s m args below meth c A D Y 9 (MQ below (cQi post D Y A) args s 0 0 A) 0 0 10 [(0, .ref x0), (1, .long x1), (3, .int x3), (4, .int x4), (5, .int x5)] [] S) (hR30 : ∀ (x0 : Nat) (x1 : Int64) (x3 : Int32) (x4 : Int32) (x5 : Int32) (x6 : Int32) (x7 : Int32) (x8 : Int32) (S : cS), R30 x0 x1 x3 x4 x5 x6 x7 x8 S → cG p l e (cRm 1 0 0 23) s m args below meth c A D Y 9 (MQ below (cQi post D Y A) args s 0 0 A) 0 0 30 [(0, .ref x0), (1, .long x1), (3, .int x3), (4, .int x4), (5, .int x5), (6, .int x6), (7, .int x7), (8, .int x8)] [] S) (x0 : Nat) (x1 : Int64) (x3 : Int32) (x4 : Int32) (x5 : Int32) (x6 : Int32) (x7 : Int32) (x8 : Int32) (S : cS) (h : k_X4_isLikePattern_98 post dp R10 R30 x0 x1 x3 x4 x5 x6 x7 x8 S) : cG p l e (cRm 1 0 0 23) s m args below meth c A D Y 9 (MQ below (cQi post D Y A) args s 0 0 A) 0 0 98 [(0, .ref x0), (1, .long x1), (3, .int x3), (4, .int x4), (5, .int x5), (6, .int x6), (7, .int x7), (8, .int x8)] [] S := by
  unfold k_X4_isLikePattern_98 at h
  refine cg_iload C 6 rfl dX4_isLikePattern_98 ?_
  refine cg_iconst C (x := nI 2) rfl dX4_isLikePattern_100 ?_
  refine cg_iload C 7 rfl dX4_isLikePattern_101 ?_
  refine cg_ishl C dX4_isLikePattern_103 ?_
  refine cg_ior C dX4_isLikePattern_104 ?_
  refine cg_nmI (fun x7_10 e_x7_10 => ?_)
  have h := h x7_10 e_x7_10
  refine cg_istore C (lv' := [(7, .int x7_10), (0, .ref x0), (1, .long x1), (3, .int x3), (4, .int x4), (5, .int x5), (6, .int x6), (8, .int x8)]) (Nat.le_of_ble_eq_true rfl) rfl dX4_isLikePattern_105 ?_
  exact cg_sub [1, 2, 3, 4, 5, 6, 0, 7] rfl (tb_X4_isLikePattern_107 C  hR10 hR30 x0 x1 x3 x4 x5 x6 x7_10 x8 S h)
set_option maxRecDepth 20000 in
theorem tb_X4_isLikePattern_30 (C : cC p s m args meth c cX4_isLikePattern 9 (some .boolean) A D Y tp dp RX4) {post : Int32 → cS → Prop} {R10 : Nat → Int64 → Int32 → Int32 → Int32 → cS → Prop} {R30 : Nat → Int64 → Int32 → Int32 → Int32 → Int32 → Int32 → Int32 → cS → Prop} (hR10 : ∀ (x0 : Nat) (x1 : Int64) (x3 : Int32) (x4 : Int32) (x5 : Int32) (S : cS), R10 x0 x1 x3 x4 x5 S → cG p l e (cRm 1 0 0 23) s m args below meth c A D Y 9 (MQ below (cQi post D Y A) args s 0 0 A) 0 0 10 [(0, .ref x0), (1, .long x1), (3, .int x3), (4, .int x4), (5, .int x5)] [] S) (hR30 : ∀ (x0 : Nat) (x1 : Int64) (x3 : Int32) (x4 : Int32) (x5 : Int32) (x6 : Int32) (x7 : Int32) (x8 : Int32) (S : cS), R30 x0 x1 x3 x4 x5 x6 x7 x8 S → cG p l e (cRm 1 0 0 23) s m args below meth c A D Y 9 (MQ below (cQi post D Y A) args s 0 0 A) 0 0 30 [(0, .ref x0), (1, .long x1), (3, .int x3), (4, .int x4), (5, .int x5), (6, .int x6), (7, .int x7), (8, .int x8)] [] S) (x0 : Nat) (x1 : Int64) (x3 : Int32) (x4 : Int32) (x5 : Int32) (x6 : Int32) (x7 : Int32) (x8 : Int32) (S : cS) (h : k_X4_isLikePattern_30 post dp R10 R30 x0 x1 x3 x4 x5 x6 x7 x8 S) : cG p l e (cRm 1 0 0 23) s m args below meth c A D Y 9 (MQ below (cQi post D Y A) args s 0 0 A) 0 0 30 [(0, .ref x0), (1, .long x1), (3, .int x3), (4, .int x4), (5, .int x5), (6, .int x6), (7, .int x7), (8, .int x8)] [] S := by
  unfold k_X4_isLikePattern_30 at h
  refine cg_iload C 7 rfl dX4_isLikePattern_30 ?_
  refine cg_aload_n C (i := 0) rfl 0 rfl dX4_isLikePattern_32 ?_
  obtain ⟨hc_33, h⟩ := h
  obtain ⟨b4, hb_b4, h⟩ := h
  refine cg_get C (k := 4) (j := 8) (.ref b4) hc_33.1 hc_33.2 (by decide) rfl (by decide) rfl (show cV _ 4 8 x0 = _ from congrArg va_rf hb_b4) cWs_wsX40 cl_X4_30 rfl dX4_isLikePattern_33 ?_
  obtain ⟨hc_36, h⟩ := h
  refine cg_alen C hc_36.1 hc_36.2 (by decide) (by decide) dX4_isLikePattern_36 ?_
  refine cg_icmp_ge C 113 (by decide) dX4_isLikePattern_37 (fun c_ => ?_) (fun c_ => ?_)
  · have h := h.1 c_
    refine cg_aload_n C (i := 0) rfl 0 rfl dX4_isLikePattern_113 ?_
    refine cg_iload C 6 rfl dX4_isLikePattern_114 ?_
    obtain ⟨hc_116, h⟩ := h
    refine cg_calli C (t_X4_withEmpty l x0 x7 S dp h) cc_X4_112 hc_116.1 hc_116.2 (by decide) rfl rfl ⟨by decide, by decide⟩ ⟨by decide, by decide⟩ rfl (Nat.le_of_ble_eq_true rfl) dX4_isLikePattern_116 (fun r_5 S_5 h => ?_)
    refine cg_istore C (lv' := [(4, .int r_5), (0, .ref x0), (1, .long x1), (3, .int x3), (5, .int x5), (6, .int x6), (7, .int x7), (8, .int x8)]) (Nat.le_of_ble_eq_true rfl) rfl dX4_isLikePattern_119 ?_
    obtain ⟨x5_6, e_x5_6⟩ : ∃ z : Int32, z = x5 + nI 1 := ⟨_, rfl⟩
    have h := h x5_6 e_x5_6
    refine cg_iinc C (lv' := [(5, .int x5_6), (4, .int r_5), (0, .ref x0), (1, .long x1), (3, .int x3), (6, .int x6), (7, .int x7), (8, .int x8)]) 4 rfl (by rw [e_x5_6]; rfl) (Nat.le_of_ble_eq_true rfl) rfl dX4_isLikePattern_121 ?_
    refine cg_goto C 10 (by decide) dX4_isLikePattern_124 ?_
    exact cg_sub [2, 3, 4, 1, 0] rfl (hR10 x0 x1 x3 r_5 x5_6 S_5 h)
  · have h := h.2 c_
    refine cg_iload C 3 rfl dX4_isLikePattern_40 ?_
    refine cg_iload C 7 rfl dX4_isLikePattern_42 ?_
    refine cg_ishr C dX4_isLikePattern_44 ?_
    refine cg_iconst C (x := nI 1) rfl dX4_isLikePattern_45 ?_
    refine cg_iand C dX4_isLikePattern_46 ?_
    refine cg_if_eq C 107 (by decide) dX4_isLikePattern_47 (fun c_ => ?_) (fun c_ => ?_)
    · have h := h.1 c_
      exact cg_sub [0, 1, 2, 3, 4, 5, 6, 7] rfl (tb_X4_isLikePattern_107 C  hR10 hR30 x0 x1 x3 x4 x5 x6 x7 x8 S h)
    · have h := h.2 c_
      refine cg_aload_n C (i := 0) rfl 0 rfl dX4_isLikePattern_50 ?_
      obtain ⟨hc_51, h⟩ := h
      obtain ⟨b8, hb_b8, h⟩ := h
      refine cg_get C (k := 4) (j := 8) (.ref b8) hc_51.1 hc_51.2 (by decide) rfl (by decide) rfl (show cV _ 4 8 x0 = _ from congrArg va_rf hb_b8) cWs_wsX40 cl_X4_30 rfl dX4_isLikePattern_51 ?_
      refine cg_iload C 7 rfl dX4_isLikePattern_54 ?_
      obtain ⟨hc_56, h⟩ := h
      refine cg_ialoadR C hc_56 dX4_isLikePattern_56 ?_
      refine cg_bipush C (x := nI 38) rfl dX4_isLikePattern_57 ?_
      refine cg_icmp_ne C 74 (by decide) dX4_isLikePattern_59 (fun c_ => ?_) (fun c_ => ?_)
      · have h := h.1 c_
        refine cg_aload_n C (i := 0) rfl 0 rfl dX4_isLikePattern_74 ?_
        obtain ⟨hc_75, h⟩ := h
        obtain ⟨b9, hb_b9, h⟩ := h
        refine cg_get C (k := 4) (j := 8) (.ref b9) hc_75.1 hc_75.2 (by decide) rfl (by decide) rfl (show cV _ 4 8 x0 = _ from congrArg va_rf hb_b9) cWs_wsX40 cl_X4_30 rfl dX4_isLikePattern_75 ?_
        refine cg_iload C 7 rfl dX4_isLikePattern_78 ?_
        obtain ⟨hc_80, h⟩ := h
        refine cg_ialoadR C hc_80 dX4_isLikePattern_80 ?_
        refine cg_bipush C (x := nI 37) rfl dX4_isLikePattern_81 ?_
        refine cg_icmp_eq C 98 (by decide) dX4_isLikePattern_83 (fun c_ => ?_) (fun c_ => ?_)
        · have h := h.1 c_
          exact cg_sub [0, 1, 2, 3, 4, 5, 6, 7] rfl (tb_X4_isLikePattern_98 C  hR10 hR30 x0 x1 x3 x4 x5 x6 x7 x8 S h)
        · have h := h.2 c_
          refine cg_aload_n C (i := 0) rfl 0 rfl dX4_isLikePattern_86 ?_
          obtain ⟨hc_87, h⟩ := h
          obtain ⟨b11, hb_b11, h⟩ := h
          refine cg_get C (k := 4) (j := 8) (.ref b11) hc_87.1 hc_87.2 (by decide) rfl (by decide) rfl (show cV _ 4 8 x0 = _ from congrArg va_rf hb_b11) cWs_wsX40 cl_X4_30 rfl dX4_isLikePattern_87 ?_
          refine cg_iload C 7 rfl dX4_isLikePattern_90 ?_
          obtain ⟨hc_92, h⟩ := h
          refine cg_ialoadR C hc_92 dX4_isLikePattern_92 ?_
          refine cg_iload C 5 rfl dX4_isLikePattern_93 ?_
          refine cg_icmp_ne C 107 (by decide) dX4_isLikePattern_95 (fun c_ => ?_) (fun c_ => ?_)
          · have h := h.1 c_
            exact cg_sub [0, 1, 2, 3, 4, 5, 6, 7] rfl (tb_X4_isLikePattern_107 C  hR10 hR30 x0 x1 x3 x4 x5 x6 x7 x8 S h)
          · have h := h.2 c_
            exact cg_sub [0, 1, 2, 3, 4, 5, 6, 7] rfl (tb_X4_isLikePattern_98 C  hR10 hR30 x0 x1 x3 x4 x5 x6 x7 x8 S h)
      · have h := h.2 c_
        refine cg_iload C 6 rfl dX4_isLikePattern_62 ?_
        refine cg_iconst C (x := nI 1) rfl dX4_isLikePattern_64 ?_
        refine cg_iload C 7 rfl dX4_isLikePattern_65 ?_
        refine cg_ishl C dX4_isLikePattern_67 ?_
        refine cg_ior C dX4_isLikePattern_68 ?_
        refine cg_nmI (fun x7_12 e_x7_12 => ?_)
        have h := h x7_12 e_x7_12
        refine cg_istore C (lv' := [(7, .int x7_12), (0, .ref x0), (1, .long x1), (3, .int x3), (4, .int x4), (5, .int x5), (6, .int x6), (8, .int x8)]) (Nat.le_of_ble_eq_true rfl) rfl dX4_isLikePattern_69 ?_
        refine cg_goto C 107 (by decide) dX4_isLikePattern_71 ?_
        exact cg_sub [1, 2, 3, 4, 5, 6, 0, 7] rfl (tb_X4_isLikePattern_107 C  hR10 hR30 x0 x1 x3 x4 x5 x6 x7_12 x8 S h)
set_option maxRecDepth 20000 in
theorem tl_X4_isLikePattern_30 (C : cC p s m args meth c cX4_isLikePattern 9 (some .boolean) A D Y tp dp RX4) {post : Int32 → cS → Prop} {R10 : Nat → Int64 → Int32 → Int32 → Int32 → cS → Prop} (hR10 : ∀ (x0 : Nat) (x1 : Int64) (x3 : Int32) (x4 : Int32) (x5 : Int32) (S : cS), R10 x0 x1 x3 x4 x5 S → cG p l e (cRm 1 0 0 23) s m args below meth c A D Y 9 (MQ below (cQi post D Y A) args s 0 0 A) 0 0 10 [(0, .ref x0), (1, .long x1), (3, .int x3), (4, .int x4), (5, .int x5)] [] S) (x0 : Nat) (x1 : Int64) (x3 : Int32) (x4 : Int32) (x5 : Int32) (x6 : Int32) (x7 : Int32) (x8 : Int32) (S : cS) (h : k_X4_isLikePattern_30L post dp R10 x0 x1 x3 x4 x5 x6 x7 x8 S) : cG p l e (cRm 1 0 0 23) s m args below meth c A D Y 9 (MQ below (cQi post D Y A) args s 0 0 A) 0 0 30 [(0, .ref x0), (1, .long x1), (3, .int x3), (4, .int x4), (5, .int x5), (6, .int x6), (7, .int x7), (8, .int x8)] [] S :=
  h (fun y => cG p l e (cRm 1 0 0 23) s m args below meth c A D Y 9 (MQ below (cQi post D Y A) args s 0 0 A) 0 0 30 [(0, .ref (y.1)), (1, .long (y.2.1)), (3, .int (y.2.2.1)), (4, .int (y.2.2.2.1)), (5, .int (y.2.2.2.2.1)), (6, .int (y.2.2.2.2.2.1)), (7, .int (y.2.2.2.2.2.2.1)), (8, .int (y.2.2.2.2.2.2.2.1))] [] (y.2.2.2.2.2.2.2.2)) (fun y hy => tb_X4_isLikePattern_30 C  hR10 (fun b0 b1 b2 b3 b4 b5 b6 b7 S z => z) (y.1) (y.2.1) (y.2.2.1) (y.2.2.2.1) (y.2.2.2.2.1) (y.2.2.2.2.2.1) (y.2.2.2.2.2.2.1) (y.2.2.2.2.2.2.2.1) (y.2.2.2.2.2.2.2.2) hy)
set_option maxRecDepth 20000 in
theorem tb_X4_isLikePattern_10 (C : cC p s m args meth c cX4_isLikePattern 9 (some .boolean) A D Y tp dp RX4) {post : Int32 → cS → Prop} {R10 : Nat → Int64 → Int32 → Int32 → Int32 → cS → Prop} (hR10 : ∀ (x0 : Nat) (x1 : Int64) (x3 : Int32) (x4 : Int32) (x5 : Int32) (S : cS), R10 x0 x1 x3 x4 x5 S → cG p l e (cRm 1 0 0 23) s m args below meth c A D Y 9 (MQ below (cQi post D Y A) args s 0 0 A) 0 0 10 [(0, .ref x0), (1, .long x1), (3, .int x3), (4, .int x4), (5, .int x5)] [] S) (x0 : Nat) (x1 : Int64) (x3 : Int32) (x4 : Int32) (x5 : Int32) (S : cS) (h : k_X4_isLikePattern_10 post dp R10 x0 x1 x3 x4 x5 S) : cG p l e (cRm 1 0 0 23) s m args below meth c A D Y 9 (MQ below (cQi post D Y A) args s 0 0 A) 0 0 10 [(0, .ref x0), (1, .long x1), (3, .int x3), (4, .int x4), (5, .int x5)] [] S := by
  unfold k_X4_isLikePattern_10 at h
  refine cg_iload C 4 rfl dX4_isLikePattern_10 ?_
  refine cg_iload_n C (i := 3) rfl 2 rfl dX4_isLikePattern_12 ?_
  refine cg_icmp_ge C 127 (by decide) dX4_isLikePattern_13 (fun c_ => ?_) (fun c_ => ?_)
  · have h := h.1 c_
    refine cg_iload C 3 rfl dX4_isLikePattern_127 ?_
    refine cg_aload_n C (i := 0) rfl 0 rfl dX4_isLikePattern_129 ?_
    obtain ⟨hc_130, h⟩ := h
    obtain ⟨b2, hb_b2, h⟩ := h
    refine cg_get C (k := 4) (j := 8) (.ref b2) hc_130.1 hc_130.2 (by decide) rfl (by decide) rfl (show cV _ 4 8 x0 = _ from congrArg va_rf hb_b2) cWs_wsX40 cl_X4_30 rfl dX4_isLikePattern_130 ?_
    obtain ⟨hc_133, h⟩ := h
    refine cg_alen C hc_133.1 hc_133.2 (by decide) (by decide) dX4_isLikePattern_133 ?_
    refine cg_ishr C dX4_isLikePattern_134 ?_
    refine cg_iconst C (x := nI 1) rfl dX4_isLikePattern_135 ?_
    refine cg_iand C dX4_isLikePattern_136 ?_
    refine cg_if_eq C 144 (by decide) dX4_isLikePattern_137 (fun c_ => ?_) (fun c_ => ?_)
    · have h := h.1 c_
      refine cg_iconst C (x := nI 0) rfl dX4_isLikePattern_144 ?_
      refine cg_cast (.int (bI false)) rfl ?_
      exact cg_zret C (bI_nar _) h dX4_isLikePattern_145 (by decide) (by decide)
    · have h := h.2 c_
      refine cg_iconst C (x := nI 1) rfl dX4_isLikePattern_140 ?_
      refine cg_goto C 145 (by decide) dX4_isLikePattern_141 ?_
      refine cg_cast (.int (bI true)) rfl ?_
      exact cg_zret C (bI_nar _) h dX4_isLikePattern_145 (by decide) (by decide)
  · have h := h.2 c_
    refine cg_lload_n C (i := 1) rfl 1 rfl dX4_isLikePattern_16 ?_
    refine cg_iload C 4 rfl dX4_isLikePattern_17 ?_
    refine cg_callsi C (t_X9_digitAt l x1 x5 S dp h) cc_X4_78 rfl ⟨by decide, by decide⟩ ⟨by decide, by decide⟩ rfl (Nat.le_of_ble_eq_true rfl) dX4_isLikePattern_19 (fun r_3 S_3 h => ?_)
    refine cg_istore C (lv' := [(6, .int r_3), (0, .ref x0), (1, .long x1), (3, .int x3), (4, .int x4), (5, .int x5)]) (Nat.le_of_ble_eq_true rfl) rfl dX4_isLikePattern_22 ?_
    refine cg_iconst C (x := nI 0) rfl dX4_isLikePattern_24 ?_
    refine cg_istore C (lv' := [(7, .int ((nI 0))), (6, .int r_3), (0, .ref x0), (1, .long x1), (3, .int x3), (4, .int x4), (5, .int x5)]) (Nat.le_of_ble_eq_true rfl) rfl dX4_isLikePattern_25 ?_
    refine cg_iconst C (x := nI 0) rfl dX4_isLikePattern_27 ?_
    refine cg_istore C (lv' := [(8, .int ((nI 0))), (7, .int ((nI 0))), (6, .int r_3), (0, .ref x0), (1, .long x1), (3, .int x3), (4, .int x4), (5, .int x5)]) (Nat.le_of_ble_eq_true rfl) rfl dX4_isLikePattern_28 ?_
    exact cg_sub [3, 4, 5, 6, 7, 2, 1, 0] rfl (tl_X4_isLikePattern_30 C  hR10 x0 x1 x3 x4 x5 r_3 (((nI 0))) (((nI 0))) S_3 h)
set_option maxRecDepth 20000 in
theorem tl_X4_isLikePattern_10 (C : cC p s m args meth c cX4_isLikePattern 9 (some .boolean) A D Y tp dp RX4) {post : Int32 → cS → Prop}   (x0 : Nat) (x1 : Int64) (x3 : Int32) (x4 : Int32) (x5 : Int32) (S : cS) (h : k_X4_isLikePattern_10L post dp  x0 x1 x3 x4 x5 S) : cG p l e (cRm 1 0 0 23) s m args below meth c A D Y 9 (MQ below (cQi post D Y A) args s 0 0 A) 0 0 10 [(0, .ref x0), (1, .long x1), (3, .int x3), (4, .int x4), (5, .int x5)] [] S :=
  h (fun y => cG p l e (cRm 1 0 0 23) s m args below meth c A D Y 9 (MQ below (cQi post D Y A) args s 0 0 A) 0 0 10 [(0, .ref (y.1)), (1, .long (y.2.1)), (3, .int (y.2.2.1)), (4, .int (y.2.2.2.1)), (5, .int (y.2.2.2.2.1))] [] (y.2.2.2.2.2)) (fun y hy => tb_X4_isLikePattern_10 C   (fun b0 b1 b2 b3 b4 S z => z) (y.1) (y.2.1) (y.2.2.1) (y.2.2.2.1) (y.2.2.2.2.1) (y.2.2.2.2.2) hy)
end S_X4_isLikePattern
set_option maxHeartbeats 1000000 in
set_option maxRecDepth 20000 in
theorem t_X4_isLikePattern (l : Launch) (x0 : Nat) (x1 : Int64) (x3 : Int32) (S : cS) (dp : Nat) {P : Int32 → cS → Prop} (h : k_X4_isLikePattern P dp x0 x1 x3 S) : cMet (cQi P) l yX4_isLikePattern cX4_isLikePattern 9 (some .boolean) 1 0 0 23 [.ref x0, .long x1, .int x3] S dp := by
  intro D Y tp sz
  refine cg_body (by decide +kernel) (Nat.le_of_ble_eq_true rfl) ?_
  intro p e s m args below meth c C
  generalize va_A (cWd Y S) sz = A at C ⊢
  have C : cC p s m args meth c cX4_isLikePattern 9 (some .boolean) A D Y tp dp RX4 := C
  refine cg_lv (lv' := [(0, .ref x0), (1, .long x1), (3, .int x3)]) rfl ?_
  unfold k_X4_isLikePattern at h
  refine cg_aload_n C (i := 0) rfl 0 rfl dX4_isLikePattern_0 ?_
  refine cg_iconst C (x := nI 1) rfl dX4_isLikePattern_1 ?_
  obtain ⟨hc_2, h⟩ := h
  refine cg_calli C (t_X4_withEmpty l x0 ((nI 1)) S dp h) cc_X4_112 hc_2.1 hc_2.2 (by decide) rfl rfl ⟨by decide, by decide⟩ ⟨by decide, by decide⟩ rfl (Nat.le_of_ble_eq_true rfl) dX4_isLikePattern_2 (fun r_1 S_1 h => ?_)
  refine cg_istore C (lv' := [(4, .int r_1), (0, .ref x0), (1, .long x1), (3, .int x3)]) (Nat.le_of_ble_eq_true rfl) rfl dX4_isLikePattern_5 ?_
  refine cg_iconst C (x := nI 0) rfl dX4_isLikePattern_7 ?_
  refine cg_istore C (lv' := [(5, .int ((nI 0))), (4, .int r_1), (0, .ref x0), (1, .long x1), (3, .int x3)]) (Nat.le_of_ble_eq_true rfl) rfl dX4_isLikePattern_8 ?_
  exact cg_sub [2, 3, 4, 1, 0] rfl (tl_X4_isLikePattern_10 C   x0 x1 x3 r_1 (((nI 0))) S_1 h)
def k_X4_isTold (Q : Int32 → cS → Prop) (dp : Nat) (x0 : Nat) (x1 : Int64) (S : cS) : Prop :=
k_X9_lengthOf (fun r_1 S_1 => 
cA S_1 x0 4 ∧ (((¬ ((ci S_1 128 x0)) = ((nI 3)) →
  cA S_1 x0 4 ∧ (k_X4_isLikePattern (fun r_2 S_2 => 
  isZ r_2 ∧ (Q r_2 S_2)) dp x0 x1 r_1 S_1)) ∧
 (((ci S_1 128 x0)) = ((nI 3)) →
  cA S_1 x0 4 ∧ (k_X4_isEdited (fun r_3 S_3 => 
  isZ r_3 ∧ (Q r_3 S_3)) dp x0 x1 r_1 S_1))))) dp x1 S
set_option maxHeartbeats 1000000 in
set_option maxRecDepth 20000 in
theorem t_X4_isTold (l : Launch) (x0 : Nat) (x1 : Int64) (S : cS) (dp : Nat) {P : Int32 → cS → Prop} (h : k_X4_isTold P dp x0 x1 S) : cMet (cQi P) l yX4_isTold cX4_isTold 4 (some .boolean) 2 0 0 51 [.ref x0, .long x1] S dp := by
  intro D Y tp sz
  refine cg_body (by decide +kernel) (Nat.le_of_ble_eq_true rfl) ?_
  intro p e s m args below meth c C
  generalize va_A (cWd Y S) sz = A at C ⊢
  have C : cC p s m args meth c cX4_isTold 4 (some .boolean) A D Y tp dp RX4 := C
  refine cg_lv (lv' := [(0, .ref x0), (1, .long x1)]) rfl ?_
  unfold k_X4_isTold at h
  refine cg_lload_n C (i := 1) rfl 1 rfl dX4_isTold_0 ?_
  refine cg_callsi C (t_X9_lengthOf l x1 S dp h) cc_X4_74 rfl ⟨by decide, by decide⟩ ⟨by decide, by decide⟩ rfl (Nat.le_of_ble_eq_true rfl) dX4_isTold_1 (fun r_1 S_1 h => ?_)
  refine cg_istore_n C (i := 3) (lv' := [(3, .int r_1), (0, .ref x0), (1, .long x1)]) rfl (Nat.le_of_ble_eq_true rfl) rfl dX4_isTold_4 ?_
  refine cg_aload_n C (i := 0) rfl 1 rfl dX4_isTold_5 ?_
  obtain ⟨hc_6, h⟩ := h
  refine cg_get C (k := 4) (j := 0) (.int (ci S_1 128 x0)) hc_6.1 hc_6.2 (by decide) rfl (by decide) rfl rfl cWs_wsX40 cl_X4_40 rfl dX4_isTold_6 ?_
  refine cg_iconst C (x := nI 3) rfl dX4_isTold_9 ?_
  refine cg_icmp_ne C 22 (by decide) dX4_isTold_10 (fun c_ => ?_) (fun c_ => ?_)
  · have h := h.1 c_
    refine cg_aload_n C (i := 0) rfl 1 rfl dX4_isTold_22 ?_
    refine cg_lload_n C (i := 1) rfl 2 rfl dX4_isTold_23 ?_
    refine cg_iload_n C (i := 3) rfl 0 rfl dX4_isTold_24 ?_
    obtain ⟨hc_25, h⟩ := h
    refine cg_calli C (t_X4_isLikePattern l x0 x1 r_1 S_1 dp h) cc_X4_109 hc_25.1 hc_25.2 (by decide) rfl rfl ⟨by decide, by decide⟩ ⟨by decide, by decide⟩ rfl (Nat.le_of_ble_eq_true rfl) dX4_isTold_25 (fun r_2 S_2 h => ?_)
    obtain ⟨hz_28, h⟩ := h
    exact cg_zret C (isZ_nar hz_28) h dX4_isTold_28 (by decide) (by decide)
  · have h := h.2 c_
    refine cg_aload_n C (i := 0) rfl 1 rfl dX4_isTold_13 ?_
    refine cg_lload_n C (i := 1) rfl 2 rfl dX4_isTold_14 ?_
    refine cg_iload_n C (i := 3) rfl 0 rfl dX4_isTold_15 ?_
    obtain ⟨hc_16, h⟩ := h
    refine cg_calli C (t_X4_isEdited l x0 x1 r_1 S_1 dp h) cc_X4_105 hc_16.1 hc_16.2 (by decide) rfl rfl ⟨by decide, by decide⟩ ⟨by decide, by decide⟩ rfl (Nat.le_of_ble_eq_true rfl) dX4_isTold_16 (fun r_3 S_3 h => ?_)
    refine cg_goto C 28 (by decide) dX4_isTold_19 ?_
    obtain ⟨hz_28, h⟩ := h
    exact cg_zret C (isZ_nar hz_28) h dX4_isTold_28 (by decide) (by decide)
def k_X7_readTold_58 (Q : cS → Prop) (dp : Nat) (R17 : Nat → Nat → Nat → Int32 → cS → Prop) (x0 : Nat) (x2 : Nat) (x3 : Nat) (x4 : Int32) (S : cS) : Prop :=
∀ x4_6 : Int32, x4_6 = x4 + nI 1 → R17 x0 x2 x3 x4_6 S
def k_X7_readTold_17 (Q : cS → Prop) (dp : Nat) (R17 : Nat → Nat → Nat → Int32 → cS → Prop) (x0 : Nat) (x2 : Nat) (x3 : Nat) (x4 : Int32) (S : cS) : Prop :=
cA S x3 12 ∧ (k_Jx4a65c_size_8abf5 (fun r_3 S_3 => 
((r_3 ≤ x4 →
  Q S_3) ∧
 (¬ r_3 ≤ x4 →
  cA S_3 x3 12 ∧ (k_Jx4a65c_get_915e3 (fun r_4 S_4 => 
  cA S_4 r_4 5 ∧ (cA S_4 r_4 5 ∧ (cA S_4 x0 4 ∧ (k_X4_isTold (fun r_5 S_5 => 
  ((r_5 = 0 →
    k_X7_readTold_58 Q dp R17 x0 x2 x3 x4 S_5) ∧
   (¬ r_5 = 0 →
    cA S_5 x3 12 ∧ (k_Jx4a65c_get_915e3 (fun r_7 S_7 => 
    cA S_7 r_7 5 ∧ (cA S_7 r_7 5 ∧ (k_X5_spread (fun S_8 => 
    k_X7_readTold_58 Q dp R17 x0 x2 x3 x4 S_8) dp r_7 x2 S_7))) dp x3 x4 S_5)))) dp x0 (cw S_4 160 r_4) S_4)))) dp x3 x4 S_3)))) dp x3 S)
def k_X7_readTold_17L (Q : cS → Prop) (dp : Nat)  (x0 : Nat) (x2 : Nat) (x3 : Nat) (x4 : Int32) (S : cS) : Prop :=
  lfp (X := Nat × Nat × Nat × Int32 × cS) (fun P y => k_X7_readTold_17 Q dp  (fun b0 b1 b2 b3 S => P (b0, b1, b2, b3, S)) y.1 y.2.1 y.2.2.1 y.2.2.2.1 y.2.2.2.2) (x0, x2, x3, x4, S)
def k_X7_readTold (Q : cS → Prop) (dp : Nat) (x0 : Nat) (x1 : Nat) (x2 : Nat) (S : cS) : Prop :=
k_J7_fill_53178 (fun S_1 => 
cA S_1 x0 4 ∧ (cA S_1 x1 8 ∧ (k_X8_wordsOf (fun r_2 S_2 => 
k_X7_readTold_17L Q dp  x0 x2 r_2 (((nI 0))) S_2) dp x1 ((ci S_1 129 x0)) S_1))) dp x2 ((nI 0)) S
section S_X7_readTold
variable {p : Program} {l : Launch} {e : Env} {s : State} {m : MethodId} {args : Array Value} {below : List Frame} {meth : Method} {c : Code} {A : Nat → Prop} {D : va_G} {Y : cY} {tp dp : Nat}
set_option maxRecDepth 20000 in
theorem tb_X7_readTold_58 (C : cC p s m args meth c cX7_readTold 5 none A D Y tp dp RX7) {post : cS → Prop} {R17 : Nat → Nat → Nat → Int32 → cS → Prop} (hR17 : ∀ (x0 : Nat) (x2 : Nat) (x3 : Nat) (x4 : Int32) (S : cS), R17 x0 x2 x3 x4 S → cG p l e (cRm 3 0 0 74) s m args below meth c A D Y 5 (MQ below (cQv post D Y A) args s 0 0 A) 0 0 17 [(0, .ref x0), (2, .ref x2), (3, .ref x3), (4, .int x4)] [] S) (x0 : Nat) (x2 : Nat) (x3 : Nat) (x4 : Int32) (S : cS) (h : k_X7_readTold_58 post dp R17 x0 x2 x3 x4 S) : cG p l e (cRm 3 0 0 74) s m args below meth c A D Y 5 (MQ below (cQv post D Y A) args s 0 0 A) 0 0 58 [(0, .ref x0), (2, .ref x2), (3, .ref x3), (4, .int x4)] [] S := by
  unfold k_X7_readTold_58 at h
  obtain ⟨x4_6, e_x4_6⟩ : ∃ z : Int32, z = x4 + nI 1 := ⟨_, rfl⟩
  have h := h x4_6 e_x4_6
  refine cg_iinc C (lv' := [(4, .int x4_6), (0, .ref x0), (2, .ref x2), (3, .ref x3)]) 3 rfl (by rw [e_x4_6]; rfl) (Nat.le_of_ble_eq_true rfl) rfl dX7_readTold_58 ?_
  refine cg_goto C 17 (by decide) dX7_readTold_61 ?_
  exact cg_sub [1, 2, 3, 0] rfl (hR17 x0 x2 x3 x4_6 S h)
set_option maxRecDepth 20000 in
theorem tb_X7_readTold_17 (C : cC p s m args meth c cX7_readTold 5 none A D Y tp dp RX7) {post : cS → Prop} {R17 : Nat → Nat → Nat → Int32 → cS → Prop} (hR17 : ∀ (x0 : Nat) (x2 : Nat) (x3 : Nat) (x4 : Int32) (S : cS), R17 x0 x2 x3 x4 S → cG p l e (cRm 3 0 0 74) s m args below meth c A D Y 5 (MQ below (cQv post D Y A) args s 0 0 A) 0 0 17 [(0, .ref x0), (2, .ref x2), (3, .ref x3), (4, .int x4)] [] S) (x0 : Nat) (x2 : Nat) (x3 : Nat) (x4 : Int32) (S : cS) (h : k_X7_readTold_17 post dp R17 x0 x2 x3 x4 S) : cG p l e (cRm 3 0 0 74) s m args below meth c A D Y 5 (MQ below (cQv post D Y A) args s 0 0 A) 0 0 17 [(0, .ref x0), (2, .ref x2), (3, .ref x3), (4, .int x4)] [] S := by
  unfold k_X7_readTold_17 at h
  refine cg_iload C 3 rfl dX7_readTold_17 ?_
  refine cg_aload_n C (i := 3) rfl 2 rfl dX7_readTold_19 ?_
  obtain ⟨hc_20, h⟩ := h
  refine cg_calli C (t_Jx4a65c_size_8abf5 l x3 S dp h) cc_X7_47 hc_20.1 hc_20.2 (by decide) rfl rfl ⟨by decide, by decide⟩ ⟨by decide, by decide⟩ rfl (Nat.le_of_ble_eq_true rfl) dX7_readTold_20 (fun r_3 S_3 h => ?_)
  refine cg_icmp_ge C 64 (by decide) dX7_readTold_23 (fun c_ => ?_) (fun c_ => ?_)
  · have h := h.1 c_
    exact cg_vret C h dX7_readTold_64 (by decide) (by decide)
  · have h := h.2 c_
    refine cg_aload_n C (i := 0) rfl 0 rfl dX7_readTold_26 ?_
    refine cg_aload_n C (i := 3) rfl 2 rfl dX7_readTold_27 ?_
    refine cg_iload C 3 rfl dX7_readTold_28 ?_
    obtain ⟨hc_30, h⟩ := h
    refine cg_callr C (t_Jx4a65c_get_915e3 l x3 x4 S_3 dp h) cc_X7_52 hc_30.1 hc_30.2 (by decide) rfl rfl ⟨by decide, by decide⟩ ⟨by decide, by decide⟩ rfl (Nat.le_of_ble_eq_true rfl) dX7_readTold_30 (fun r_4 S_4 h => ?_)
    obtain ⟨hc_33, h⟩ := h
    refine cg_ccast C (k := 5) hc_33.1 hc_33.2 (by decide) rfl cnc_X7_101 dX7_readTold_33 ?_
    obtain ⟨hc_36, h⟩ := h
    refine cg_get C (k := 5) (j := 0) (.long (cw S_4 160 r_4)) hc_36.1 hc_36.2 (by decide) rfl (by decide) rfl rfl cWs_wsX50 cl_X7_136 rfl dX7_readTold_36 ?_
    obtain ⟨hc_39, h⟩ := h
    refine cg_calli C (t_X4_isTold l x0 (cw S_4 160 r_4) S_4 dp h) cc_X7_140 hc_39.1 hc_39.2 (by decide) rfl rfl ⟨by decide, by decide⟩ ⟨by decide, by decide⟩ rfl (Nat.le_of_ble_eq_true rfl) dX7_readTold_39 (fun r_5 S_5 h => ?_)
    refine cg_if_eq C 58 (by decide) dX7_readTold_42 (fun c_ => ?_) (fun c_ => ?_)
    · have h := h.1 c_
      exact cg_sub [0, 1, 2, 3] rfl (tb_X7_readTold_58 C  hR17 x0 x2 x3 x4 S_5 h)
    · have h := h.2 c_
      refine cg_aload_n C (i := 3) rfl 2 rfl dX7_readTold_45 ?_
      refine cg_iload C 3 rfl dX7_readTold_46 ?_
      obtain ⟨hc_48, h⟩ := h
      refine cg_callr C (t_Jx4a65c_get_915e3 l x3 x4 S_5 dp h) cc_X7_52 hc_48.1 hc_48.2 (by decide) rfl rfl ⟨by decide, by decide⟩ ⟨by decide, by decide⟩ rfl (Nat.le_of_ble_eq_true rfl) dX7_readTold_48 (fun r_7 S_7 h => ?_)
      obtain ⟨hc_51, h⟩ := h
      refine cg_ccast C (k := 5) hc_51.1 hc_51.2 (by decide) rfl cnc_X7_101 dX7_readTold_51 ?_
      refine cg_aload_n C (i := 2) rfl 1 rfl dX7_readTold_54 ?_
      obtain ⟨hc_55, h⟩ := h
      refine cg_callv C (t_X5_spread l r_7 x2 S_7 dp h) cc_X7_100 hc_55.1 hc_55.2 (by decide) rfl rfl ⟨by decide, by decide⟩ ⟨by decide, by decide⟩ rfl (Nat.le_of_ble_eq_true rfl) dX7_readTold_55 (fun S_8 h => ?_)
      exact cg_sub [0, 1, 2, 3] rfl (tb_X7_readTold_58 C  hR17 x0 x2 x3 x4 S_8 h)
set_option maxRecDepth 20000 in
theorem tl_X7_readTold_17 (C : cC p s m args meth c cX7_readTold 5 none A D Y tp dp RX7) {post : cS → Prop}   (x0 : Nat) (x2 : Nat) (x3 : Nat) (x4 : Int32) (S : cS) (h : k_X7_readTold_17L post dp  x0 x2 x3 x4 S) : cG p l e (cRm 3 0 0 74) s m args below meth c A D Y 5 (MQ below (cQv post D Y A) args s 0 0 A) 0 0 17 [(0, .ref x0), (2, .ref x2), (3, .ref x3), (4, .int x4)] [] S :=
  h (fun y => cG p l e (cRm 3 0 0 74) s m args below meth c A D Y 5 (MQ below (cQv post D Y A) args s 0 0 A) 0 0 17 [(0, .ref (y.1)), (2, .ref (y.2.1)), (3, .ref (y.2.2.1)), (4, .int (y.2.2.2.1))] [] (y.2.2.2.2)) (fun y hy => tb_X7_readTold_17 C   (fun b0 b1 b2 b3 S z => z) (y.1) (y.2.1) (y.2.2.1) (y.2.2.2.1) (y.2.2.2.2) hy)
end S_X7_readTold
set_option maxHeartbeats 1000000 in
set_option maxRecDepth 20000 in
theorem t_X7_readTold (l : Launch) (x0 : Nat) (x1 : Nat) (x2 : Nat) (S : cS) (dp : Nat) {P : cS → Prop} (h : k_X7_readTold P dp x0 x1 x2 S) : cMet (cQv P) l yX7_readTold cX7_readTold 5 none 3 0 0 74 [.ref x0, .ref x1, .ref x2] S dp := by
  intro D Y tp sz
  refine cg_body (by decide +kernel) (Nat.le_of_ble_eq_true rfl) ?_
  intro p e s m args below meth c C
  generalize va_A (cWd Y S) sz = A at C ⊢
  have C : cC p s m args meth c cX7_readTold 5 none A D Y tp dp RX7 := C
  refine cg_lv (lv' := [(0, .ref x0), (1, .ref x1), (2, .ref x2)]) rfl ?_
  unfold k_X7_readTold at h
  refine cg_aload_n C (i := 2) rfl 2 rfl dX7_readTold_0 ?_
  refine cg_iconst C (x := nI 0) rfl dX7_readTold_1 ?_
  refine cg_callsv C (t_J7_fill_53178 l x2 ((nI 0)) S dp h) cc_X7_94 rfl ⟨by decide, by decide⟩ ⟨by decide, by decide⟩ rfl (Nat.le_of_ble_eq_true rfl) dX7_readTold_2 (fun S_1 h => ?_)
  refine cg_aload_n C (i := 1) rfl 1 rfl dX7_readTold_5 ?_
  refine cg_aload_n C (i := 0) rfl 0 rfl dX7_readTold_6 ?_
  obtain ⟨hc_7, h⟩ := h
  refine cg_get C (k := 4) (j := 1) (.int (ci S_1 129 x0)) hc_7.1 hc_7.2 (by decide) rfl (by decide) rfl rfl cWs_wsX40 cl_X7_61 rfl dX7_readTold_7 ?_
  obtain ⟨hc_10, h⟩ := h
  refine cg_callr C (t_X8_wordsOf l x1 ((ci S_1 129 x0)) S_1 dp h) cc_X7_132 hc_10.1 hc_10.2 (by decide) rfl rfl ⟨by decide, by decide⟩ ⟨by decide, by decide⟩ rfl (Nat.le_of_ble_eq_true rfl) dX7_readTold_10 (fun r_2 S_2 h => ?_)
  refine cg_astore_n (lv' := [(3, .ref r_2), (0, .ref x0), (1, .ref x1), (2, .ref x2)]) C (i := 3) rfl (Nat.le_of_ble_eq_true rfl) rfl dX7_readTold_13 ?_
  refine cg_iconst C (x := nI 0) rfl dX7_readTold_14 ?_
  refine cg_istore C (lv' := [(4, .int ((nI 0))), (3, .ref r_2), (0, .ref x0), (1, .ref x1), (2, .ref x2)]) (Nat.le_of_ble_eq_true rfl) rfl dX7_readTold_15 ?_
  exact cg_sub [2, 4, 1, 0] rfl (tl_X7_readTold_17 C   x0 x2 r_2 (((nI 0))) S_2 h)
def k_X7_readSegment_93 (Q : cS → Prop) (dp : Nat) (R2 : Nat → Nat → Nat → Int32 → cS → Prop) (x0 : Nat) (x1 : Nat) (x2 : Nat) (x3 : Int32) (S : cS) : Prop :=
∀ x3_14 : Int32, x3_14 = x3 + nI 1 → R2 x0 x1 x2 x3_14 S
def k_X7_readSegment_2 (Q : cS → Prop) (dp : Nat) (R2 : Nat → Nat → Nat → Int32 → cS → Prop) (x0 : Nat) (x1 : Nat) (x2 : Nat) (x3 : Int32) (S : cS) : Prop :=
cA S x1 6 ∧ ((∃ b1 : Nat, cr S 193 x1 = some b1 ∧ (cA S b1 12 ∧ (k_Jx4a65c_size_8abf5 (fun r_2 S_2 => 
((r_2 ≤ x3 →
  Q S_2) ∧
 (¬ r_2 ≤ x3 →
  ((((nI 24)) ≤ x3 →
    Q S_2) ∧
   (¬ ((nI 24)) ≤ x3 →
    cA S_2 x1 6 ∧ ((∃ b3 : Nat, cr S_2 193 x1 = some b3 ∧ (cA S_2 b3 12 ∧ (k_Jx4a65c_get_915e3 (fun r_4 S_4 => 
    cA S_4 r_4 4 ∧ (cA S_4 r_4 4 ∧ (k_X4_isCounted (fun r_5 S_5 => 
    ((r_5 = 0 →
      cA S_5 x0 7 ∧ ((∃ b6 : Nat, cr S_5 225 x0 = some b6 ∧ (cX S_5 b6 18 x3 ∧ ((∃ b7 : Nat, cO S_5 b6 (x3).toNatClampNeg = some b7 ∧ (k_X7_readTold (fun S_8 => 
      cA S_8 x0 7 ∧ ((∃ b9 : Nat, cr S_8 225 x0 = some b9 ∧ (cX S_8 b9 18 x3 ∧ ((∃ b10 : Nat, cO S_8 b9 (x3).toNatClampNeg = some b10 ∧ (cA S_8 x0 7 ∧ ((∃ b11 : Nat, cr S_8 226 x0 = some b11 ∧ (cX S_8 b11 18 x3 ∧ ((∃ b12 : Nat, cO S_8 b11 (x3).toNatClampNeg = some b12 ∧ (cCp S_8 14 b10 ((nI 0)) b12 ((nI 0)) ((nI 100)) ∧ (∀ S13 : cS, S13 = cCpyI S_8 b10 ((nI 0)).toNatClampNeg b12 ((nI 0)).toNatClampNeg ((nI 100)).toNatClampNeg → k_X7_readSegment_93 Q dp R2 x0 x1 x2 x3 S13)))))))))))))) dp r_4 x2 b7 S_5))))))) ∧
     (¬ r_5 = 0 →
      cA S_5 x0 7 ∧ ((∃ b15 : Nat, cr S_5 225 x0 = some b15 ∧ (cX S_5 b15 18 x3 ∧ ((∃ b16 : Nat, cO S_5 b15 (x3).toNatClampNeg = some b16 ∧ (cA S_5 x0 7 ∧ ((∃ b17 : Nat, cr S_5 226 x0 = some b17 ∧ (cX S_5 b17 18 x3 ∧ ((∃ b18 : Nat, cO S_5 b17 (x3).toNatClampNeg = some b18 ∧ (cA S_5 x0 7 ∧ (k_X7_readCounted (fun S_19 => 
      k_X7_readSegment_93 Q dp R2 x0 x1 x2 x3 S_19) dp x0 r_4 x2 b16 b18 S_5)))))))))))))))) dp r_4 S_4))) dp b3 x3 S_2))))))))) dp b1 S))))
def k_X7_readSegment_2L (Q : cS → Prop) (dp : Nat)  (x0 : Nat) (x1 : Nat) (x2 : Nat) (x3 : Int32) (S : cS) : Prop :=
  lfp (X := Nat × Nat × Nat × Int32 × cS) (fun P y => k_X7_readSegment_2 Q dp  (fun b0 b1 b2 b3 S => P (b0, b1, b2, b3, S)) y.1 y.2.1 y.2.2.1 y.2.2.2.1 y.2.2.2.2) (x0, x1, x2, x3, S)
def k_X7_readSegment (Q : cS → Prop) (dp : Nat) (x0 : Nat) (x1 : Nat) (x2 : Nat) (S : cS) : Prop :=
k_X7_readSegment_2L Q dp  x0 x1 x2 (((nI 0))) S
section S_X7_readSegment
variable {p : Program} {l : Launch} {e : Env} {s : State} {m : MethodId} {args : Array Value} {below : List Frame} {meth : Method} {c : Code} {A : Nat → Prop} {D : va_G} {Y : cY} {tp dp : Nat}
set_option maxRecDepth 20000 in
theorem tb_X7_readSegment_93 (C : cC p s m args meth c cX7_readSegment 5 none A D Y tp dp RX7) {post : cS → Prop} {R2 : Nat → Nat → Nat → Int32 → cS → Prop} (hR2 : ∀ (x0 : Nat) (x1 : Nat) (x2 : Nat) (x3 : Int32) (S : cS), R2 x0 x1 x2 x3 S → cG p l e (cRm 6 0 0 140) s m args below meth c A D Y 5 (MQ below (cQv post D Y A) args s 0 0 A) 0 0 2 [(0, .ref x0), (1, .ref x1), (2, .ref x2), (3, .int x3)] [] S) (x0 : Nat) (x1 : Nat) (x2 : Nat) (x3 : Int32) (S : cS) (h : k_X7_readSegment_93 post dp R2 x0 x1 x2 x3 S) : cG p l e (cRm 6 0 0 140) s m args below meth c A D Y 5 (MQ below (cQv post D Y A) args s 0 0 A) 0 0 93 [(0, .ref x0), (1, .ref x1), (2, .ref x2), (3, .int x3)] [] S := by
  unfold k_X7_readSegment_93 at h
  obtain ⟨x3_14, e_x3_14⟩ : ∃ z : Int32, z = x3 + nI 1 := ⟨_, rfl⟩
  have h := h x3_14 e_x3_14
  refine cg_iinc C (lv' := [(3, .int x3_14), (0, .ref x0), (1, .ref x1), (2, .ref x2)]) 3 rfl (by rw [e_x3_14]; rfl) (Nat.le_of_ble_eq_true rfl) rfl dX7_readSegment_93 ?_
  refine cg_goto C 2 (by decide) dX7_readSegment_96 ?_
  exact cg_sub [1, 2, 3, 0] rfl (hR2 x0 x1 x2 x3_14 S h)
set_option maxRecDepth 20000 in
theorem tb_X7_readSegment_2 (C : cC p s m args meth c cX7_readSegment 5 none A D Y tp dp RX7) {post : cS → Prop} {R2 : Nat → Nat → Nat → Int32 → cS → Prop} (hR2 : ∀ (x0 : Nat) (x1 : Nat) (x2 : Nat) (x3 : Int32) (S : cS), R2 x0 x1 x2 x3 S → cG p l e (cRm 6 0 0 140) s m args below meth c A D Y 5 (MQ below (cQv post D Y A) args s 0 0 A) 0 0 2 [(0, .ref x0), (1, .ref x1), (2, .ref x2), (3, .int x3)] [] S) (x0 : Nat) (x1 : Nat) (x2 : Nat) (x3 : Int32) (S : cS) (h : k_X7_readSegment_2 post dp R2 x0 x1 x2 x3 S) : cG p l e (cRm 6 0 0 140) s m args below meth c A D Y 5 (MQ below (cQv post D Y A) args s 0 0 A) 0 0 2 [(0, .ref x0), (1, .ref x1), (2, .ref x2), (3, .int x3)] [] S := by
  unfold k_X7_readSegment_2 at h
  refine cg_iload_n C (i := 3) rfl 3 rfl dX7_readSegment_2 ?_
  refine cg_aload_n C (i := 1) rfl 1 rfl dX7_readSegment_3 ?_
  obtain ⟨hc_4, h⟩ := h
  obtain ⟨b1, hb_b1, h⟩ := h
  refine cg_get C (k := 6) (j := 1) (.ref b1) hc_4.1 hc_4.2 (by decide) rfl (by decide) rfl (show cV _ 6 1 x1 = _ from congrArg va_rf hb_b1) cWs_wsX60 cl_X7_41 rfl dX7_readSegment_4 ?_
  obtain ⟨hc_7, h⟩ := h
  refine cg_calli C (t_Jx4a65c_size_8abf5 l b1 S dp h) cc_X7_47 hc_7.1 hc_7.2 (by decide) rfl rfl ⟨by decide, by decide⟩ ⟨by decide, by decide⟩ rfl (Nat.le_of_ble_eq_true rfl) dX7_readSegment_7 (fun r_2 S_2 h => ?_)
  refine cg_icmp_ge C 99 (by decide) dX7_readSegment_10 (fun c_ => ?_) (fun c_ => ?_)
  · have h := h.1 c_
    exact cg_vret C h dX7_readSegment_99 (by decide) (by decide)
  · have h := h.2 c_
    refine cg_iload_n C (i := 3) rfl 3 rfl dX7_readSegment_13 ?_
    refine cg_bipush C (x := nI 24) rfl dX7_readSegment_14 ?_
    refine cg_icmp_ge C 99 (by decide) dX7_readSegment_16 (fun c_ => ?_) (fun c_ => ?_)
    · have h := h.1 c_
      exact cg_vret C h dX7_readSegment_99 (by decide) (by decide)
    · have h := h.2 c_
      refine cg_aload_n C (i := 1) rfl 1 rfl dX7_readSegment_19 ?_
      obtain ⟨hc_20, h⟩ := h
      obtain ⟨b3, hb_b3, h⟩ := h
      refine cg_get C (k := 6) (j := 1) (.ref b3) hc_20.1 hc_20.2 (by decide) rfl (by decide) rfl (show cV _ 6 1 x1 = _ from congrArg va_rf hb_b3) cWs_wsX60 cl_X7_41 rfl dX7_readSegment_20 ?_
      refine cg_iload_n C (i := 3) rfl 3 rfl dX7_readSegment_23 ?_
      obtain ⟨hc_24, h⟩ := h
      refine cg_callr C (t_Jx4a65c_get_915e3 l b3 x3 S_2 dp h) cc_X7_52 hc_24.1 hc_24.2 (by decide) rfl rfl ⟨by decide, by decide⟩ ⟨by decide, by decide⟩ rfl (Nat.le_of_ble_eq_true rfl) dX7_readSegment_24 (fun r_4 S_4 h => ?_)
      obtain ⟨hc_27, h⟩ := h
      refine cg_ccast C (k := 4) hc_27.1 hc_27.2 (by decide) rfl cnc_X7_56 dX7_readSegment_27 ?_
      refine cg_astore (lv' := [(4, .ref r_4), (0, .ref x0), (1, .ref x1), (2, .ref x2), (3, .int x3)]) C (Nat.le_of_ble_eq_true rfl) rfl dX7_readSegment_30 ?_
      refine cg_aload C 0 rfl dX7_readSegment_32 ?_
      obtain ⟨hc_34, h⟩ := h
      refine cg_calli C (t_X4_isCounted l r_4 S_4 dp h) cc_X7_110 hc_34.1 hc_34.2 (by decide) rfl rfl ⟨by decide, by decide⟩ ⟨by decide, by decide⟩ rfl (Nat.le_of_ble_eq_true rfl) dX7_readSegment_34 (fun r_5 S_5 h => ?_)
      refine cg_if_eq C 62 (by decide) dX7_readSegment_37 (fun c_ => ?_) (fun c_ => ?_)
      · have h := h.1 c_
        refine cg_aload C 0 rfl dX7_readSegment_62 ?_
        refine cg_aload_n C (i := 2) rfl 3 rfl dX7_readSegment_64 ?_
        refine cg_aload_n C (i := 0) rfl 1 rfl dX7_readSegment_65 ?_
        obtain ⟨hc_66, h⟩ := h
        obtain ⟨b6, hb_b6, h⟩ := h
        refine cg_get C (k := 7) (j := 1) (.ref b6) hc_66.1 hc_66.2 (by decide) rfl (by decide) rfl (show cV _ 7 1 x0 = _ from congrArg va_rf hb_b6) cWs_wsX70 cl_X7_17 rfl dX7_readSegment_66 ?_
        refine cg_iload_n C (i := 3) rfl 4 rfl dX7_readSegment_69 ?_
        obtain ⟨hc_70, h⟩ := h
        obtain ⟨b7, hb_b7, h⟩ := h
        refine cg_aaload2R C hc_70 hb_b7 dX7_readSegment_70 ?_
        refine cg_callsv C (t_X7_readTold l r_4 x2 b7 S_5 dp h) cc_X7_118 rfl ⟨by decide, by decide⟩ ⟨by decide, by decide⟩ rfl (Nat.le_of_ble_eq_true rfl) dX7_readSegment_71 (fun S_8 h => ?_)
        refine cg_aload_n C (i := 0) rfl 1 rfl dX7_readSegment_74 ?_
        obtain ⟨hc_75, h⟩ := h
        obtain ⟨b9, hb_b9, h⟩ := h
        refine cg_get C (k := 7) (j := 1) (.ref b9) hc_75.1 hc_75.2 (by decide) rfl (by decide) rfl (show cV _ 7 1 x0 = _ from congrArg va_rf hb_b9) cWs_wsX70 cl_X7_17 rfl dX7_readSegment_75 ?_
        refine cg_iload_n C (i := 3) rfl 4 rfl dX7_readSegment_78 ?_
        obtain ⟨hc_79, h⟩ := h
        obtain ⟨b10, hb_b10, h⟩ := h
        refine cg_aaload2R C hc_79 hb_b10 dX7_readSegment_79 ?_
        refine cg_iconst C (x := nI 0) rfl dX7_readSegment_80 ?_
        refine cg_aload_n C (i := 0) rfl 1 rfl dX7_readSegment_81 ?_
        obtain ⟨hc_82, h⟩ := h
        obtain ⟨b11, hb_b11, h⟩ := h
        refine cg_get C (k := 7) (j := 2) (.ref b11) hc_82.1 hc_82.2 (by decide) rfl (by decide) rfl (show cV _ 7 2 x0 = _ from congrArg va_rf hb_b11) cWs_wsX70 cl_X7_20 rfl dX7_readSegment_82 ?_
        refine cg_iload_n C (i := 3) rfl 4 rfl dX7_readSegment_85 ?_
        obtain ⟨hc_86, h⟩ := h
        obtain ⟨b12, hb_b12, h⟩ := h
        refine cg_aaload2R C hc_86 hb_b12 dX7_readSegment_86 ?_
        refine cg_iconst C (x := nI 0) rfl dX7_readSegment_87 ?_
        refine cg_bipush C (x := nI 100) rfl dX7_readSegment_88 ?_
        obtain ⟨hc_90, h⟩ := h
        refine cg_copy14 C hc_90 cac_X7_122 (Nat.le_of_ble_eq_true rfl) (Nat.le_of_ble_eq_true rfl) dX7_readSegment_90 ?_
        refine cg_nm (fun S13 e_S13 => ?_)
        have h := h S13 e_S13
        exact cg_sub [1, 2, 3, 4] rfl (tb_X7_readSegment_93 C  hR2 x0 x1 x2 x3 S13 h)
      · have h := h.2 c_
        refine cg_aload_n C (i := 0) rfl 1 rfl dX7_readSegment_40 ?_
        refine cg_aload C 0 rfl dX7_readSegment_41 ?_
        refine cg_aload_n C (i := 2) rfl 3 rfl dX7_readSegment_43 ?_
        refine cg_aload_n C (i := 0) rfl 1 rfl dX7_readSegment_44 ?_
        obtain ⟨hc_45, h⟩ := h
        obtain ⟨b15, hb_b15, h⟩ := h
        refine cg_get C (k := 7) (j := 1) (.ref b15) hc_45.1 hc_45.2 (by decide) rfl (by decide) rfl (show cV _ 7 1 x0 = _ from congrArg va_rf hb_b15) cWs_wsX70 cl_X7_17 rfl dX7_readSegment_45 ?_
        refine cg_iload_n C (i := 3) rfl 4 rfl dX7_readSegment_48 ?_
        obtain ⟨hc_49, h⟩ := h
        obtain ⟨b16, hb_b16, h⟩ := h
        refine cg_aaload2R C hc_49 hb_b16 dX7_readSegment_49 ?_
        refine cg_aload_n C (i := 0) rfl 1 rfl dX7_readSegment_50 ?_
        obtain ⟨hc_51, h⟩ := h
        obtain ⟨b17, hb_b17, h⟩ := h
        refine cg_get C (k := 7) (j := 2) (.ref b17) hc_51.1 hc_51.2 (by decide) rfl (by decide) rfl (show cV _ 7 2 x0 = _ from congrArg va_rf hb_b17) cWs_wsX70 cl_X7_20 rfl dX7_readSegment_51 ?_
        refine cg_iload_n C (i := 3) rfl 4 rfl dX7_readSegment_54 ?_
        obtain ⟨hc_55, h⟩ := h
        obtain ⟨b18, hb_b18, h⟩ := h
        refine cg_aaload2R C hc_55 hb_b18 dX7_readSegment_55 ?_
        obtain ⟨hc_56, h⟩ := h
        refine cg_callv C (t_X7_readCounted l x0 r_4 x2 b16 b18 S_5 dp h) cc_X7_114 hc_56.1 hc_56.2 (by decide) rfl rfl ⟨by decide, by decide⟩ ⟨by decide, by decide⟩ rfl (Nat.le_of_ble_eq_true rfl) dX7_readSegment_56 (fun S_19 h => ?_)
        refine cg_goto C 93 (by decide) dX7_readSegment_59 ?_
        exact cg_sub [1, 2, 3, 4] rfl (tb_X7_readSegment_93 C  hR2 x0 x1 x2 x3 S_19 h)
set_option maxRecDepth 20000 in
theorem tl_X7_readSegment_2 (C : cC p s m args meth c cX7_readSegment 5 none A D Y tp dp RX7) {post : cS → Prop}   (x0 : Nat) (x1 : Nat) (x2 : Nat) (x3 : Int32) (S : cS) (h : k_X7_readSegment_2L post dp  x0 x1 x2 x3 S) : cG p l e (cRm 6 0 0 140) s m args below meth c A D Y 5 (MQ below (cQv post D Y A) args s 0 0 A) 0 0 2 [(0, .ref x0), (1, .ref x1), (2, .ref x2), (3, .int x3)] [] S :=
  h (fun y => cG p l e (cRm 6 0 0 140) s m args below meth c A D Y 5 (MQ below (cQv post D Y A) args s 0 0 A) 0 0 2 [(0, .ref (y.1)), (1, .ref (y.2.1)), (2, .ref (y.2.2.1)), (3, .int (y.2.2.2.1))] [] (y.2.2.2.2)) (fun y hy => tb_X7_readSegment_2 C   (fun b0 b1 b2 b3 S z => z) (y.1) (y.2.1) (y.2.2.1) (y.2.2.2.1) (y.2.2.2.2) hy)
end S_X7_readSegment
set_option maxHeartbeats 1000000 in
set_option maxRecDepth 20000 in
theorem t_X7_readSegment (l : Launch) (x0 : Nat) (x1 : Nat) (x2 : Nat) (S : cS) (dp : Nat) {P : cS → Prop} (h : k_X7_readSegment P dp x0 x1 x2 S) : cMet (cQv P) l yX7_readSegment cX7_readSegment 5 none 6 0 0 140 [.ref x0, .ref x1, .ref x2] S dp := by
  intro D Y tp sz
  refine cg_body (by decide +kernel) (Nat.le_of_ble_eq_true rfl) ?_
  intro p e s m args below meth c C
  generalize va_A (cWd Y S) sz = A at C ⊢
  have C : cC p s m args meth c cX7_readSegment 5 none A D Y tp dp RX7 := C
  refine cg_lv (lv' := [(0, .ref x0), (1, .ref x1), (2, .ref x2)]) rfl ?_
  unfold k_X7_readSegment at h
  refine cg_iconst C (x := nI 0) rfl dX7_readSegment_0 ?_
  refine cg_istore_n C (i := 3) (lv' := [(3, .int ((nI 0))), (0, .ref x0), (1, .ref x1), (2, .ref x2)]) rfl (Nat.le_of_ble_eq_true rfl) rfl dX7_readSegment_1 ?_
  exact cg_sub [1, 2, 3, 0] rfl (tl_X7_readSegment_2 C   x0 x1 x2 (((nI 0))) S h)
def k_X1_freeEntry_53 (Q : Int32 → cS → Prop) (dp : Nat) (R30 : Nat → Int32 → Int32 → cS → Prop) (x0 : Nat) (x1 : Int32) (x2 : Int32) (S : cS) : Prop :=
∀ x2_3 : Int32, x2_3 = x2 + nI 1 → R30 x0 x1 x2_3 S
def k_X1_freeEntry_30 (Q : Int32 → cS → Prop) (dp : Nat) (R30 : Nat → Int32 → Int32 → cS → Prop) (x0 : Nat) (x1 : Int32) (x2 : Int32) (S : cS) : Prop :=
((((nI 8)) ≤ x2 →
  Q x1 S) ∧
 (¬ ((nI 8)) ≤ x2 →
  cA S x0 1 ∧ ((∃ b1 : Nat, cr S 42 x0 = some b1 ∧ (cX S b1 14 x2 ∧ (cA S x0 1 ∧ ((∃ b2 : Nat, cr S 42 x0 = some b2 ∧ (cX S b2 14 x1 ∧ (((((cI S b2 (x1).toNatClampNeg)) ≤ ((cI S b1 (x2).toNatClampNeg)) →
    k_X1_freeEntry_53 Q dp R30 x0 x1 x2 S) ∧
   (¬ ((cI S b2 (x1).toNatClampNeg)) ≤ ((cI S b1 (x2).toNatClampNeg)) →
    k_X1_freeEntry_53 Q dp R30 x0 x2 x2 S))))))))))))
def k_X1_freeEntry_30L (Q : Int32 → cS → Prop) (dp : Nat)  (x0 : Nat) (x1 : Int32) (x2 : Int32) (S : cS) : Prop :=
  lfp (X := Nat × Int32 × Int32 × cS) (fun P y => k_X1_freeEntry_30 Q dp  (fun b0 b1 b2 S => P (b0, b1, b2, S)) y.1 y.2.1 y.2.2.1 y.2.2.2) (x0, x1, x2, S)
def k_X1_freeEntry (Q : Int32 → cS → Prop) (dp : Nat) (x0 : Nat) (S : cS) : Prop :=
cA S x0 1 ∧ (((((nI 8)) ≤ ((ci S 38 x0)) →
  k_X1_freeEntry_30L Q dp  x0 (((nI 0))) (((nI 1))) S) ∧
 (¬ ((nI 8)) ≤ ((ci S 38 x0)) →
  cA S x0 1 ∧ (cA S x0 1 ∧ (∀ S4 : cS, S4 = cSi S 38 x0 ((((ci S 38 x0)) + ((nI 1)))) → cA S4 x0 1 ∧ (Q ((((ci S4 38 x0)) - ((nI 1)))) S4))))))
section S_X1_freeEntry
variable {p : Program} {l : Launch} {e : Env} {s : State} {m : MethodId} {args : Array Value} {below : List Frame} {meth : Method} {c : Code} {A : Nat → Prop} {D : va_G} {Y : cY} {tp dp : Nat}
set_option maxRecDepth 20000 in
theorem tb_X1_freeEntry_53 (C : cC p s m args meth c cX1_freeEntry 3 (some .int) A D Y tp dp RX1) {post : Int32 → cS → Prop} {R30 : Nat → Int32 → Int32 → cS → Prop} (hR30 : ∀ (x0 : Nat) (x1 : Int32) (x2 : Int32) (S : cS), R30 x0 x1 x2 S → cG p l e (cRm 0 0 0 0) s m args below meth c A D Y 3 (MQ below (cQi post D Y A) args s 0 0 A) 0 0 30 [(0, .ref x0), (1, .int x1), (2, .int x2)] [] S) (x0 : Nat) (x1 : Int32) (x2 : Int32) (S : cS) (h : k_X1_freeEntry_53 post dp R30 x0 x1 x2 S) : cG p l e (cRm 0 0 0 0) s m args below meth c A D Y 3 (MQ below (cQi post D Y A) args s 0 0 A) 0 0 53 [(0, .ref x0), (1, .int x1), (2, .int x2)] [] S := by
  unfold k_X1_freeEntry_53 at h
  obtain ⟨x2_3, e_x2_3⟩ : ∃ z : Int32, z = x2 + nI 1 := ⟨_, rfl⟩
  have h := h x2_3 e_x2_3
  refine cg_iinc C (lv' := [(2, .int x2_3), (0, .ref x0), (1, .int x1)]) 2 rfl (by rw [e_x2_3]; rfl) (Nat.le_of_ble_eq_true rfl) rfl dX1_freeEntry_53 ?_
  refine cg_goto C 30 (by decide) dX1_freeEntry_56 ?_
  exact cg_sub [1, 2, 0] rfl (hR30 x0 x1 x2_3 S h)
set_option maxRecDepth 20000 in
theorem tb_X1_freeEntry_30 (C : cC p s m args meth c cX1_freeEntry 3 (some .int) A D Y tp dp RX1) {post : Int32 → cS → Prop} {R30 : Nat → Int32 → Int32 → cS → Prop} (hR30 : ∀ (x0 : Nat) (x1 : Int32) (x2 : Int32) (S : cS), R30 x0 x1 x2 S → cG p l e (cRm 0 0 0 0) s m args below meth c A D Y 3 (MQ below (cQi post D Y A) args s 0 0 A) 0 0 30 [(0, .ref x0), (1, .int x1), (2, .int x2)] [] S) (x0 : Nat) (x1 : Int32) (x2 : Int32) (S : cS) (h : k_X1_freeEntry_30 post dp R30 x0 x1 x2 S) : cG p l e (cRm 0 0 0 0) s m args below meth c A D Y 3 (MQ below (cQi post D Y A) args s 0 0 A) 0 0 30 [(0, .ref x0), (1, .int x1), (2, .int x2)] [] S := by
  unfold k_X1_freeEntry_30 at h
  refine cg_iload_n C (i := 2) rfl 2 rfl dX1_freeEntry_30 ?_
  refine cg_bipush C (x := nI 8) rfl dX1_freeEntry_31 ?_
  refine cg_icmp_ge C 59 (by decide) dX1_freeEntry_33 (fun c_ => ?_) (fun c_ => ?_)
  · have h := h.1 c_
    refine cg_iload_n C (i := 1) rfl 1 rfl dX1_freeEntry_59 ?_
    exact cg_iret C h dX1_freeEntry_60 (by decide) (by decide)
  · have h := h.2 c_
    refine cg_aload_n C (i := 0) rfl 0 rfl dX1_freeEntry_36 ?_
    obtain ⟨hc_37, h⟩ := h
    obtain ⟨b1, hb_b1, h⟩ := h
    refine cg_get C (k := 1) (j := 10) (.ref b1) hc_37.1 hc_37.2 (by decide) rfl (by decide) rfl (show cV _ 1 10 x0 = _ from congrArg va_rf hb_b1) cWs_wsX10 cl_X1_40 rfl dX1_freeEntry_37 ?_
    refine cg_iload_n C (i := 2) rfl 2 rfl dX1_freeEntry_40 ?_
    obtain ⟨hc_41, h⟩ := h
    refine cg_ialoadR C hc_41 dX1_freeEntry_41 ?_
    refine cg_aload_n C (i := 0) rfl 0 rfl dX1_freeEntry_42 ?_
    obtain ⟨hc_43, h⟩ := h
    obtain ⟨b2, hb_b2, h⟩ := h
    refine cg_get C (k := 1) (j := 10) (.ref b2) hc_43.1 hc_43.2 (by decide) rfl (by decide) rfl (show cV _ 1 10 x0 = _ from congrArg va_rf hb_b2) cWs_wsX10 cl_X1_40 rfl dX1_freeEntry_43 ?_
    refine cg_iload_n C (i := 1) rfl 1 rfl dX1_freeEntry_46 ?_
    obtain ⟨hc_47, h⟩ := h
    refine cg_ialoadR C hc_47 dX1_freeEntry_47 ?_
    refine cg_icmp_ge C 53 (by decide) dX1_freeEntry_48 (fun c_ => ?_) (fun c_ => ?_)
    · have h := h.1 c_
      exact cg_sub [0, 1, 2] rfl (tb_X1_freeEntry_53 C  hR30 x0 x1 x2 S h)
    · have h := h.2 c_
      refine cg_iload_n C (i := 2) rfl 2 rfl dX1_freeEntry_51 ?_
      refine cg_istore_n C (i := 1) (lv' := [(1, .int x2), (0, .ref x0), (2, .int x2)]) rfl (Nat.le_of_ble_eq_true rfl) rfl dX1_freeEntry_52 ?_
      exact cg_sub [1, 0, 2] rfl (tb_X1_freeEntry_53 C  hR30 x0 x2 x2 S h)
set_option maxRecDepth 20000 in
theorem tl_X1_freeEntry_30 (C : cC p s m args meth c cX1_freeEntry 3 (some .int) A D Y tp dp RX1) {post : Int32 → cS → Prop}   (x0 : Nat) (x1 : Int32) (x2 : Int32) (S : cS) (h : k_X1_freeEntry_30L post dp  x0 x1 x2 S) : cG p l e (cRm 0 0 0 0) s m args below meth c A D Y 3 (MQ below (cQi post D Y A) args s 0 0 A) 0 0 30 [(0, .ref x0), (1, .int x1), (2, .int x2)] [] S :=
  h (fun y => cG p l e (cRm 0 0 0 0) s m args below meth c A D Y 3 (MQ below (cQi post D Y A) args s 0 0 A) 0 0 30 [(0, .ref (y.1)), (1, .int (y.2.1)), (2, .int (y.2.2.1))] [] (y.2.2.2)) (fun y hy => tb_X1_freeEntry_30 C   (fun b0 b1 b2 S z => z) (y.1) (y.2.1) (y.2.2.1) (y.2.2.2) hy)
end S_X1_freeEntry
set_option maxHeartbeats 1000000 in
set_option maxRecDepth 20000 in
theorem t_X1_freeEntry (l : Launch) (x0 : Nat) (S : cS) (dp : Nat) {P : Int32 → cS → Prop} (h : k_X1_freeEntry P dp x0 S) : cMet (cQi P) l yX1_freeEntry cX1_freeEntry 3 (some .int) 0 0 0 0 [.ref x0] S dp := by
  intro D Y tp sz
  refine cg_body (by decide +kernel) (Nat.le_of_ble_eq_true rfl) ?_
  intro p e s m args below meth c C
  generalize va_A (cWd Y S) sz = A at C ⊢
  have C : cC p s m args meth c cX1_freeEntry 3 (some .int) A D Y tp dp RX1 := C
  refine cg_lv (lv' := [(0, .ref x0)]) rfl ?_
  unfold k_X1_freeEntry at h
  refine cg_aload_n C (i := 0) rfl 0 rfl dX1_freeEntry_0 ?_
  obtain ⟨hc_1, h⟩ := h
  refine cg_get C (k := 1) (j := 6) (.int (ci S 38 x0)) hc_1.1 hc_1.2 (by decide) rfl (by decide) rfl rfl cWs_wsX10 cl_X1_28 rfl dX1_freeEntry_1 ?_
  refine cg_bipush C (x := nI 8) rfl dX1_freeEntry_4 ?_
  refine cg_icmp_ge C 26 (by decide) dX1_freeEntry_6 (fun c_ => ?_) (fun c_ => ?_)
  · have h := h.1 c_
    refine cg_iconst C (x := nI 0) rfl dX1_freeEntry_26 ?_
    refine cg_istore_n C (i := 1) (lv' := [(1, .int ((nI 0))), (0, .ref x0)]) rfl (Nat.le_of_ble_eq_true rfl) rfl dX1_freeEntry_27 ?_
    refine cg_iconst C (x := nI 1) rfl dX1_freeEntry_28 ?_
    refine cg_istore_n C (i := 2) (lv' := [(2, .int ((nI 1))), (1, .int ((nI 0))), (0, .ref x0)]) rfl (Nat.le_of_ble_eq_true rfl) rfl dX1_freeEntry_29 ?_
    exact cg_sub [2, 1, 0] rfl (tl_X1_freeEntry_30 C   x0 (((nI 0))) (((nI 1))) S h)
  · have h := h.2 c_
    refine cg_aload_n C (i := 0) rfl 0 rfl dX1_freeEntry_9 ?_
    refine cg_dup C rfl dX1_freeEntry_10 ?_
    obtain ⟨hc_11, h⟩ := h
    refine cg_get C (k := 1) (j := 6) (.int (ci S 38 x0)) hc_11.1 hc_11.2 (by decide) rfl (by decide) rfl rfl cWs_wsX10 cl_X1_28 rfl dX1_freeEntry_11 ?_
    refine cg_iconst C (x := nI 1) rfl dX1_freeEntry_14 ?_
    refine cg_iadd C dX1_freeEntry_15 ?_
    obtain ⟨hc_16, h⟩ := h
    refine cg_puti C (k := 1) (j := 6) (ty := tyX1) (fty := .int) hc_16.1 hc_16.2 (by decide) rfl (by decide) rfl (by decide) rfl cWs_wsX10 tyX1_ok nmX1 cl_X1_28 rfl rfl rfl rfl rfl dX1_freeEntry_16 ?_
    refine cg_nm (fun S4 e_S4 => ?_)
    have h := h S4 e_S4
    refine cg_aload_n C (i := 0) rfl 0 rfl dX1_freeEntry_19 ?_
    obtain ⟨hc_20, h⟩ := h
    refine cg_get C (k := 1) (j := 6) (.int (ci S4 38 x0)) hc_20.1 hc_20.2 (by decide) rfl (by decide) rfl rfl cWs_wsX10 cl_X1_28 rfl dX1_freeEntry_20 ?_
    refine cg_iconst C (x := nI 1) rfl dX1_freeEntry_23 ?_
    refine cg_isub C dX1_freeEntry_24 ?_
    exact cg_iret C h dX1_freeEntry_25 (by decide) (by decide)
def k_X7_markAt (Q : Int32 → cS → Prop) (dp : Nat) (x0 : Nat) (x1 : Int32) (x2 : Int32) (S : cS) : Prop :=
((x1 < 0 →
  Q ((nI 0)) S) ∧
 (¬ x1 < 0 →
  ((((nI 24)) ≤ x1 →
    Q ((nI 0)) S) ∧
   (¬ ((nI 24)) ≤ x1 →
    ((x2 < 0 →
      Q ((nI 0)) S) ∧
     (¬ x2 < 0 →
      ((x2 < ((nI 100)) →
        cA S x0 7 ∧ ((∃ b1 : Nat, cr S 225 x0 = some b1 ∧ (cX S b1 18 x1 ∧ ((∃ b2 : Nat, cO S b1 (x1).toNatClampNeg = some b2 ∧ (cX S b2 14 x2 ∧ (Q ((cI S b2 (x2).toNatClampNeg)) S)))))))) ∧
       (¬ x2 < ((nI 100)) →
        Q ((nI 0)) S))))))))
set_option maxHeartbeats 1000000 in
set_option maxRecDepth 20000 in
theorem t_X7_markAt (l : Launch) (x0 : Nat) (x1 : Int32) (x2 : Int32) (S : cS) (dp : Nat) {P : Int32 → cS → Prop} (h : k_X7_markAt P dp x0 x1 x2 S) : cMet (cQi P) l yX7_markAt cX7_markAt 3 (some .int) 0 0 0 0 [.ref x0, .int x1, .int x2] S dp := by
  intro D Y tp sz
  refine cg_body (by decide +kernel) (Nat.le_of_ble_eq_true rfl) ?_
  intro p e s m args below meth c C
  generalize va_A (cWd Y S) sz = A at C ⊢
  have C : cC p s m args meth c cX7_markAt 3 (some .int) A D Y tp dp RX7 := C
  refine cg_lv (lv' := [(0, .ref x0), (1, .int x1), (2, .int x2)]) rfl ?_
  unfold k_X7_markAt at h
  refine cg_iload_n C (i := 1) rfl 1 rfl dX7_markAt_0 ?_
  refine cg_if_lt C 20 (by decide) dX7_markAt_1 (fun c_ => ?_) (fun c_ => ?_)
  · have h := h.1 c_
    refine cg_iconst C (x := nI 0) rfl dX7_markAt_20 ?_
    refine cg_goto C 32 (by decide) dX7_markAt_21 ?_
    exact cg_iret C h dX7_markAt_32 (by decide) (by decide)
  · have h := h.2 c_
    refine cg_iload_n C (i := 1) rfl 1 rfl dX7_markAt_4 ?_
    refine cg_bipush C (x := nI 24) rfl dX7_markAt_5 ?_
    refine cg_icmp_ge C 20 (by decide) dX7_markAt_7 (fun c_ => ?_) (fun c_ => ?_)
    · have h := h.1 c_
      refine cg_iconst C (x := nI 0) rfl dX7_markAt_20 ?_
      refine cg_goto C 32 (by decide) dX7_markAt_21 ?_
      exact cg_iret C h dX7_markAt_32 (by decide) (by decide)
    · have h := h.2 c_
      refine cg_iload_n C (i := 2) rfl 2 rfl dX7_markAt_10 ?_
      refine cg_if_lt C 20 (by decide) dX7_markAt_11 (fun c_ => ?_) (fun c_ => ?_)
      · have h := h.1 c_
        refine cg_iconst C (x := nI 0) rfl dX7_markAt_20 ?_
        refine cg_goto C 32 (by decide) dX7_markAt_21 ?_
        exact cg_iret C h dX7_markAt_32 (by decide) (by decide)
      · have h := h.2 c_
        refine cg_iload_n C (i := 2) rfl 2 rfl dX7_markAt_14 ?_
        refine cg_bipush C (x := nI 100) rfl dX7_markAt_15 ?_
        refine cg_icmp_lt C 24 (by decide) dX7_markAt_17 (fun c_ => ?_) (fun c_ => ?_)
        · have h := h.1 c_
          refine cg_aload_n C (i := 0) rfl 0 rfl dX7_markAt_24 ?_
          obtain ⟨hc_25, h⟩ := h
          obtain ⟨b1, hb_b1, h⟩ := h
          refine cg_get C (k := 7) (j := 1) (.ref b1) hc_25.1 hc_25.2 (by decide) rfl (by decide) rfl (show cV _ 7 1 x0 = _ from congrArg va_rf hb_b1) cWs_wsX70 cl_X7_17 rfl dX7_markAt_25 ?_
          refine cg_iload_n C (i := 1) rfl 1 rfl dX7_markAt_28 ?_
          obtain ⟨hc_29, h⟩ := h
          obtain ⟨b2, hb_b2, h⟩ := h
          refine cg_aaload2R C hc_29 hb_b2 dX7_markAt_29 ?_
          refine cg_iload_n C (i := 2) rfl 2 rfl dX7_markAt_30 ?_
          obtain ⟨hc_31, h⟩ := h
          refine cg_ialoadR C hc_31 dX7_markAt_31 ?_
          exact cg_iret C h dX7_markAt_32 (by decide) (by decide)
        · have h := h.2 c_
          refine cg_iconst C (x := nI 0) rfl dX7_markAt_20 ?_
          refine cg_goto C 32 (by decide) dX7_markAt_21 ?_
          exact cg_iret C h dX7_markAt_32 (by decide) (by decide)
def k_J6_bitCount_0f7a4 (Q : Int32 → cS → Prop) (dp : Nat) (x0 : Int32) (S : cS) : Prop :=
∀ x0_1 : Int32, x0_1 = (x0 - (((((x0.toUInt32 >>> (((nI 1)).toUInt32 &&& Int32.toUInt32 31)).toInt32)) &&& (((1431655765)))))) → ∀ x0_2 : Int32, x0_2 = (((x0_1 &&& (((858993459))))) + (((((x0_1.toUInt32 >>> (((nI 2)).toUInt32 &&& Int32.toUInt32 31)).toInt32)) &&& (((858993459)))))) → ∀ x0_3 : Int32, x0_3 = (((x0_2 + (((x0_2.toUInt32 >>> (((nI 4)).toUInt32 &&& Int32.toUInt32 31)).toInt32)))) &&& (((252645135)))) → ∀ x0_4 : Int32, x0_4 = (x0_3 + (((x0_3.toUInt32 >>> (((nI 8)).toUInt32 &&& Int32.toUInt32 31)).toInt32))) → ∀ x0_5 : Int32, x0_5 = (x0_4 + (((x0_4.toUInt32 >>> (((nI 16)).toUInt32 &&& Int32.toUInt32 31)).toInt32))) → Q ((x0_5 &&& ((nI 63)))) S
set_option maxHeartbeats 1000000 in
set_option maxRecDepth 20000 in
theorem t_J6_bitCount_0f7a4 (l : Launch) (x0 : Int32) (S : cS) (dp : Nat) {P : Int32 → cS → Prop} (h : k_J6_bitCount_0f7a4 P dp x0 S) : cMet (cQi P) l yJ6_bitCount_0f7a4 cJ6_bitCount_0f7a4 1 (some .int) 0 0 0 0 [.int x0] S dp := by
  intro D Y tp sz
  refine cg_body (by decide +kernel) (Nat.le_of_ble_eq_true rfl) ?_
  intro p e s m args below meth c C
  generalize va_A (cWd Y S) sz = A at C ⊢
  have C : cC p s m args meth c cJ6_bitCount_0f7a4 1 (some .int) A D Y tp dp RJ6 := C
  refine cg_lv (lv' := [(0, .int x0)]) rfl ?_
  unfold k_J6_bitCount_0f7a4 at h
  refine cg_iload_n C (i := 0) rfl 0 rfl dJ6_bitCount_0f7a4_0 ?_
  refine cg_iload_n C (i := 0) rfl 0 rfl dJ6_bitCount_0f7a4_1 ?_
  refine cg_iconst C (x := nI 1) rfl dJ6_bitCount_0f7a4_2 ?_
  refine cg_iushr C dJ6_bitCount_0f7a4_3 ?_
  refine cg_ldcw C (x := (1431655765)) ckw_J6_265 dJ6_bitCount_0f7a4_4 ?_
  refine cg_iand C dJ6_bitCount_0f7a4_7 ?_
  refine cg_isub C dJ6_bitCount_0f7a4_8 ?_
  refine cg_nmI (fun x0_1 e_x0_1 => ?_)
  have h := h x0_1 e_x0_1
  refine cg_istore_n C (i := 0) (lv' := [(0, .int x0_1)]) rfl (Nat.le_of_ble_eq_true rfl) rfl dJ6_bitCount_0f7a4_9 ?_
  refine cg_iload_n C (i := 0) rfl 0 rfl dJ6_bitCount_0f7a4_10 ?_
  refine cg_ldcw C (x := (858993459)) ckw_J6_266 dJ6_bitCount_0f7a4_11 ?_
  refine cg_iand C dJ6_bitCount_0f7a4_14 ?_
  refine cg_iload_n C (i := 0) rfl 0 rfl dJ6_bitCount_0f7a4_15 ?_
  refine cg_iconst C (x := nI 2) rfl dJ6_bitCount_0f7a4_16 ?_
  refine cg_iushr C dJ6_bitCount_0f7a4_17 ?_
  refine cg_ldcw C (x := (858993459)) ckw_J6_266 dJ6_bitCount_0f7a4_18 ?_
  refine cg_iand C dJ6_bitCount_0f7a4_21 ?_
  refine cg_iadd C dJ6_bitCount_0f7a4_22 ?_
  refine cg_nmI (fun x0_2 e_x0_2 => ?_)
  have h := h x0_2 e_x0_2
  refine cg_istore_n C (i := 0) (lv' := [(0, .int x0_2)]) rfl (Nat.le_of_ble_eq_true rfl) rfl dJ6_bitCount_0f7a4_23 ?_
  refine cg_iload_n C (i := 0) rfl 0 rfl dJ6_bitCount_0f7a4_24 ?_
  refine cg_iload_n C (i := 0) rfl 0 rfl dJ6_bitCount_0f7a4_25 ?_
  refine cg_iconst C (x := nI 4) rfl dJ6_bitCount_0f7a4_26 ?_
  refine cg_iushr C dJ6_bitCount_0f7a4_27 ?_
  refine cg_iadd C dJ6_bitCount_0f7a4_28 ?_
  refine cg_ldcw C (x := (252645135)) ckw_J6_267 dJ6_bitCount_0f7a4_29 ?_
  refine cg_iand C dJ6_bitCount_0f7a4_32 ?_
  refine cg_nmI (fun x0_3 e_x0_3 => ?_)
  have h := h x0_3 e_x0_3
  refine cg_istore_n C (i := 0) (lv' := [(0, .int x0_3)]) rfl (Nat.le_of_ble_eq_true rfl) rfl dJ6_bitCount_0f7a4_33 ?_
  refine cg_iload_n C (i := 0) rfl 0 rfl dJ6_bitCount_0f7a4_34 ?_
  refine cg_iload_n C (i := 0) rfl 0 rfl dJ6_bitCount_0f7a4_35 ?_
  refine cg_bipush C (x := nI 8) rfl dJ6_bitCount_0f7a4_36 ?_
  refine cg_iushr C dJ6_bitCount_0f7a4_38 ?_
  refine cg_iadd C dJ6_bitCount_0f7a4_39 ?_
  refine cg_nmI (fun x0_4 e_x0_4 => ?_)
  have h := h x0_4 e_x0_4
  refine cg_istore_n C (i := 0) (lv' := [(0, .int x0_4)]) rfl (Nat.le_of_ble_eq_true rfl) rfl dJ6_bitCount_0f7a4_40 ?_
  refine cg_iload_n C (i := 0) rfl 0 rfl dJ6_bitCount_0f7a4_41 ?_
  refine cg_iload_n C (i := 0) rfl 0 rfl dJ6_bitCount_0f7a4_42 ?_
  refine cg_bipush C (x := nI 16) rfl dJ6_bitCount_0f7a4_43 ?_
  refine cg_iushr C dJ6_bitCount_0f7a4_45 ?_
  refine cg_iadd C dJ6_bitCount_0f7a4_46 ?_
  refine cg_nmI (fun x0_5 e_x0_5 => ?_)
  have h := h x0_5 e_x0_5
  refine cg_istore_n C (i := 0) (lv' := [(0, .int x0_5)]) rfl (Nat.le_of_ble_eq_true rfl) rfl dJ6_bitCount_0f7a4_47 ?_
  refine cg_iload_n C (i := 0) rfl 0 rfl dJ6_bitCount_0f7a4_48 ?_
  refine cg_bipush C (x := nI 63) rfl dJ6_bitCount_0f7a4_49 ?_
  refine cg_iand C dJ6_bitCount_0f7a4_51 ?_
  exact cg_iret C h dJ6_bitCount_0f7a4_52 (by decide) (by decide)
def k_X7_giveOf_49 (Q : Int32 → cS → Prop) (dp : Nat)  (x4 : Int32) (S : cS) : Prop :=
Q ((x4 * ((nI 32)))) S
def k_X7_giveOf_22 (Q : Int32 → cS → Prop) (dp : Nat)  (x0 : Nat) (x1 : Nat) (x2 : Int32) (x3 : Int32) (t0 : Int32) (S : cS) : Prop :=
cA S x1 4 ∧ (k_X4_isCounted (fun r_2 S_2 => 
((r_2 = 0 →
  k_X7_giveOf_49 Q dp  t0 S_2) ∧
 (¬ r_2 = 0 →
  ((x3 < ((nI 1)) →
    k_X7_giveOf_49 Q dp  t0 S_2) ∧
   (¬ x3 < ((nI 1)) →
    ((x2 < 0 →
      k_X7_giveOf_49 Q dp  t0 S_2) ∧
     (¬ x2 < 0 →
      cA S_2 x0 7 ∧ ((∃ b3 : Nat, cr S_2 229 x0 = some b3 ∧ (cA S_2 b3 14 ∧ (((x2 < ((nI (cn S_2 b3))) →
        ¬ ((x3 + ((nI 1)))) = 0 ∧ (cA S_2 x0 7 ∧ ((∃ b4 : Nat, cr S_2 229 x0 = some b4 ∧ (cX S_2 b4 14 x2 ∧ (Q ((((t0 * ((((((nI 64)) * x3)) / ((x3 + ((nI 1)))))))) * ((cI S_2 b4 (x2).toNatClampNeg)))) S_2)))))) ∧
       (¬ x2 < ((nI (cn S_2 b3))) →
        k_X7_giveOf_49 Q dp  t0 S_2))))))))))))) dp x1 S)
def k_X7_giveOf (Q : Int32 → cS → Prop) (dp : Nat) (x0 : Nat) (x1 : Nat) (x2 : Int32) (x3 : Int32) (S : cS) : Prop :=
cA S x1 4 ∧ (((¬ ((ci S 129 x1)) = 0 →
  cA S x0 7 ∧ ((∃ b1 : Nat, cr S 224 x0 = some b1 ∧ (cX S b1 14 ((nI 1)) ∧ (k_X7_giveOf_22 Q dp  x0 x1 x2 x3 ((cI S b1 ((nI 1)).toNatClampNeg)) S))))) ∧
 (((ci S 129 x1)) = 0 →
  cA S x0 7 ∧ ((∃ b5 : Nat, cr S 224 x0 = some b5 ∧ (cX S b5 14 ((nI 0)) ∧ (k_X7_giveOf_22 Q dp  x0 x1 x2 x3 ((cI S b5 ((nI 0)).toNatClampNeg)) S)))))))
section S_X7_giveOf
variable {p : Program} {l : Launch} {e : Env} {s : State} {m : MethodId} {args : Array Value} {below : List Frame} {meth : Method} {c : Code} {A : Nat → Prop} {D : va_G} {Y : cY} {tp dp : Nat}
set_option maxRecDepth 20000 in
theorem tb_X7_giveOf_49 (C : cC p s m args meth c cX7_giveOf 5 (some .int) A D Y tp dp RX7) {post : Int32 → cS → Prop}   (x4 : Int32) (S : cS) (h : k_X7_giveOf_49 post dp  x4 S) : cG p l e (cRm 1 0 0 20) s m args below meth c A D Y 5 (MQ below (cQi post D Y A) args s 0 0 A) 0 0 49 [(4, .int x4)] [] S := by
  unfold k_X7_giveOf_49 at h
  refine cg_iload C 0 rfl dX7_giveOf_49 ?_
  refine cg_bipush C (x := nI 32) rfl dX7_giveOf_51 ?_
  refine cg_imul C dX7_giveOf_53 ?_
  exact cg_iret C h dX7_giveOf_54 (by decide) (by decide)
set_option maxRecDepth 20000 in
theorem tb_X7_giveOf_22 (C : cC p s m args meth c cX7_giveOf 5 (some .int) A D Y tp dp RX7) {post : Int32 → cS → Prop}   (x0 : Nat) (x1 : Nat) (x2 : Int32) (x3 : Int32) (t0 : Int32) (S : cS) (h : k_X7_giveOf_22 post dp  x0 x1 x2 x3 t0 S) : cG p l e (cRm 1 0 0 20) s m args below meth c A D Y 5 (MQ below (cQi post D Y A) args s 0 0 A) 0 0 22 [(0, .ref x0), (1, .ref x1), (2, .int x2), (3, .int x3)] [.int t0] S := by
  unfold k_X7_giveOf_22 at h
  refine cg_istore C (lv' := [(4, .int t0), (0, .ref x0), (1, .ref x1), (2, .int x2), (3, .int x3)]) (Nat.le_of_ble_eq_true rfl) rfl dX7_giveOf_22 ?_
  refine cg_aload_n C (i := 1) rfl 2 rfl dX7_giveOf_24 ?_
  obtain ⟨hc_25, h⟩ := h
  refine cg_calli C (t_X4_isCounted l x1 S dp h) cc_X7_110 hc_25.1 hc_25.2 (by decide) rfl rfl ⟨by decide, by decide⟩ ⟨by decide, by decide⟩ rfl (Nat.le_of_ble_eq_true rfl) dX7_giveOf_25 (fun r_2 S_2 h => ?_)
  refine cg_if_eq C 49 (by decide) dX7_giveOf_28 (fun c_ => ?_) (fun c_ => ?_)
  · have h := h.1 c_
    exact cg_sub [0] rfl (tb_X7_giveOf_49 C   t0 S_2 h)
  · have h := h.2 c_
    refine cg_iload_n C (i := 3) rfl 4 rfl dX7_giveOf_31 ?_
    refine cg_iconst C (x := nI 1) rfl dX7_giveOf_32 ?_
    refine cg_icmp_lt C 49 (by decide) dX7_giveOf_33 (fun c_ => ?_) (fun c_ => ?_)
    · have h := h.1 c_
      exact cg_sub [0] rfl (tb_X7_giveOf_49 C   t0 S_2 h)
    · have h := h.2 c_
      refine cg_iload_n C (i := 2) rfl 3 rfl dX7_giveOf_36 ?_
      refine cg_if_lt C 49 (by decide) dX7_giveOf_37 (fun c_ => ?_) (fun c_ => ?_)
      · have h := h.1 c_
        exact cg_sub [0] rfl (tb_X7_giveOf_49 C   t0 S_2 h)
      · have h := h.2 c_
        refine cg_iload_n C (i := 2) rfl 3 rfl dX7_giveOf_40 ?_
        refine cg_aload_n C (i := 0) rfl 1 rfl dX7_giveOf_41 ?_
        obtain ⟨hc_42, h⟩ := h
        obtain ⟨b3, hb_b3, h⟩ := h
        refine cg_get C (k := 7) (j := 5) (.ref b3) hc_42.1 hc_42.2 (by decide) rfl (by decide) rfl (show cV _ 7 5 x0 = _ from congrArg va_rf hb_b3) cWs_wsX70 cl_X7_29 rfl dX7_giveOf_42 ?_
        obtain ⟨hc_45, h⟩ := h
        refine cg_alen C hc_45.1 hc_45.2 (by decide) (by decide) dX7_giveOf_45 ?_
        refine cg_icmp_lt C 55 (by decide) dX7_giveOf_46 (fun c_ => ?_) (fun c_ => ?_)
        · have h := h.1 c_
          refine cg_iload C 0 rfl dX7_giveOf_55 ?_
          refine cg_bipush C (x := nI 64) rfl dX7_giveOf_57 ?_
          refine cg_iload_n C (i := 3) rfl 4 rfl dX7_giveOf_59 ?_
          refine cg_imul C dX7_giveOf_60 ?_
          refine cg_iload_n C (i := 3) rfl 4 rfl dX7_giveOf_61 ?_
          refine cg_iconst C (x := nI 1) rfl dX7_giveOf_62 ?_
          refine cg_iadd C dX7_giveOf_63 ?_
          obtain ⟨hc_64, h⟩ := h
          refine cg_idiv C hc_64 dX7_giveOf_64 ?_
          refine cg_imul C dX7_giveOf_65 ?_
          refine cg_aload_n C (i := 0) rfl 1 rfl dX7_giveOf_66 ?_
          obtain ⟨hc_67, h⟩ := h
          obtain ⟨b4, hb_b4, h⟩ := h
          refine cg_get C (k := 7) (j := 5) (.ref b4) hc_67.1 hc_67.2 (by decide) rfl (by decide) rfl (show cV _ 7 5 x0 = _ from congrArg va_rf hb_b4) cWs_wsX70 cl_X7_29 rfl dX7_giveOf_67 ?_
          refine cg_iload_n C (i := 2) rfl 3 rfl dX7_giveOf_70 ?_
          obtain ⟨hc_71, h⟩ := h
          refine cg_ialoadR C hc_71 dX7_giveOf_71 ?_
          refine cg_imul C dX7_giveOf_72 ?_
          exact cg_iret C h dX7_giveOf_73 (by decide) (by decide)
        · have h := h.2 c_
          exact cg_sub [0] rfl (tb_X7_giveOf_49 C   t0 S_2 h)
end S_X7_giveOf
set_option maxHeartbeats 1000000 in
set_option maxRecDepth 20000 in
theorem t_X7_giveOf (l : Launch) (x0 : Nat) (x1 : Nat) (x2 : Int32) (x3 : Int32) (S : cS) (dp : Nat) {P : Int32 → cS → Prop} (h : k_X7_giveOf P dp x0 x1 x2 x3 S) : cMet (cQi P) l yX7_giveOf cX7_giveOf 5 (some .int) 1 0 0 20 [.ref x0, .ref x1, .int x2, .int x3] S dp := by
  intro D Y tp sz
  refine cg_body (by decide +kernel) (Nat.le_of_ble_eq_true rfl) ?_
  intro p e s m args below meth c C
  generalize va_A (cWd Y S) sz = A at C ⊢
  have C : cC p s m args meth c cX7_giveOf 5 (some .int) A D Y tp dp RX7 := C
  refine cg_lv (lv' := [(0, .ref x0), (1, .ref x1), (2, .int x2), (3, .int x3)]) rfl ?_
  unfold k_X7_giveOf at h
  refine cg_aload_n C (i := 1) rfl 1 rfl dX7_giveOf_0 ?_
  obtain ⟨hc_1, h⟩ := h
  refine cg_get C (k := 4) (j := 1) (.int (ci S 129 x1)) hc_1.1 hc_1.2 (by decide) rfl (by decide) rfl rfl cWs_wsX40 cl_X7_61 rfl dX7_giveOf_1 ?_
  refine cg_if_ne C 16 (by decide) dX7_giveOf_4 (fun c_ => ?_) (fun c_ => ?_)
  · have h := h.1 c_
    refine cg_aload_n C (i := 0) rfl 0 rfl dX7_giveOf_16 ?_
    obtain ⟨hc_17, h⟩ := h
    obtain ⟨b1, hb_b1, h⟩ := h
    refine cg_get C (k := 7) (j := 0) (.ref b1) hc_17.1 hc_17.2 (by decide) rfl (by decide) rfl (show cV _ 7 0 x0 = _ from congrArg va_rf hb_b1) cWs_wsX70 cl_X7_9 rfl dX7_giveOf_17 ?_
    refine cg_iconst C (x := nI 1) rfl dX7_giveOf_20 ?_
    obtain ⟨hc_21, h⟩ := h
    refine cg_ialoadR C hc_21 dX7_giveOf_21 ?_
    exact cg_sub [0, 1, 2, 3] rfl (tb_X7_giveOf_22 C   x0 x1 x2 x3 ((cI S b1 ((nI 1)).toNatClampNeg)) S h)
  · have h := h.2 c_
    refine cg_aload_n C (i := 0) rfl 0 rfl dX7_giveOf_7 ?_
    obtain ⟨hc_8, h⟩ := h
    obtain ⟨b5, hb_b5, h⟩ := h
    refine cg_get C (k := 7) (j := 0) (.ref b5) hc_8.1 hc_8.2 (by decide) rfl (by decide) rfl (show cV _ 7 0 x0 = _ from congrArg va_rf hb_b5) cWs_wsX70 cl_X7_9 rfl dX7_giveOf_8 ?_
    refine cg_iconst C (x := nI 0) rfl dX7_giveOf_11 ?_
    obtain ⟨hc_12, h⟩ := h
    refine cg_ialoadR C hc_12 dX7_giveOf_12 ?_
    refine cg_goto C 22 (by decide) dX7_giveOf_13 ?_
    exact cg_sub [0, 1, 2, 3] rfl (tb_X7_giveOf_22 C   x0 x1 x2 x3 ((cI S b5 ((nI 0)).toNatClampNeg)) S h)
def k_X4_isLeaf (Q : Int32 → cS → Prop) (dp : Nat) (x0 : Nat) (S : cS) : Prop :=
cA S x0 4 ∧ (((((nI 4)) ≤ ((ci S 128 x0)) →
  Q ((bI false)) S) ∧
 (¬ ((nI 4)) ≤ ((ci S 128 x0)) →
  Q ((bI true)) S)))
set_option maxHeartbeats 1000000 in
set_option maxRecDepth 20000 in
theorem t_X4_isLeaf (l : Launch) (x0 : Nat) (S : cS) (dp : Nat) {P : Int32 → cS → Prop} (h : k_X4_isLeaf P dp x0 S) : cMet (cQi P) l yX4_isLeaf cX4_isLeaf 1 (some .boolean) 0 0 0 0 [.ref x0] S dp := by
  intro D Y tp sz
  refine cg_body (by decide +kernel) (Nat.le_of_ble_eq_true rfl) ?_
  intro p e s m args below meth c C
  generalize va_A (cWd Y S) sz = A at C ⊢
  have C : cC p s m args meth c cX4_isLeaf 1 (some .boolean) A D Y tp dp RX4 := C
  refine cg_lv (lv' := [(0, .ref x0)]) rfl ?_
  unfold k_X4_isLeaf at h
  refine cg_aload_n C (i := 0) rfl 0 rfl dX4_isLeaf_0 ?_
  obtain ⟨hc_1, h⟩ := h
  refine cg_get C (k := 4) (j := 0) (.int (ci S 128 x0)) hc_1.1 hc_1.2 (by decide) rfl (by decide) rfl rfl cWs_wsX40 cl_X4_40 rfl dX4_isLeaf_1 ?_
  refine cg_iconst C (x := nI 4) rfl dX4_isLeaf_4 ?_
  refine cg_icmp_ge C 12 (by decide) dX4_isLeaf_5 (fun c_ => ?_) (fun c_ => ?_)
  · have h := h.1 c_
    refine cg_iconst C (x := nI 0) rfl dX4_isLeaf_12 ?_
    refine cg_cast (.int (bI false)) rfl ?_
    exact cg_zret C (bI_nar _) h dX4_isLeaf_13 (by decide) (by decide)
  · have h := h.2 c_
    refine cg_iconst C (x := nI 1) rfl dX4_isLeaf_8 ?_
    refine cg_goto C 13 (by decide) dX4_isLeaf_9 ?_
    refine cg_cast (.int (bI true)) rfl ?_
    exact cg_zret C (bI_nar _) h dX4_isLeaf_13 (by decide) (by decide)
def k_X6_joined_59 (Q : Int32 → cS → Prop) (dp : Nat)  (x0 : Nat) (x1 : Nat) (x2 : Int32) (x3 : Int32) (x4 : Int32) (S : cS) : Prop :=
cA S x1 4 ∧ (((¬ ((ci S 128 x1)) = ((nI 5)) →
  cA S x1 4 ∧ (((x4 < ((ci S 130 x1)) →
    Q (((-1))) S) ∧
   (¬ x4 < ((ci S 130 x1)) →
    Q x3 S)))) ∧
 (((ci S 128 x1)) = ((nI 5)) →
  ((¬ x4 = ((nI 1)) →
    Q (((-1))) S) ∧
   (x4 = ((nI 1)) →
    ((x2 < 0 →
      Q (((-1))) S) ∧
     (¬ x2 < 0 →
      cA S x0 6 ∧ ((∃ b1 : Nat, cr S 196 x0 = some b1 ∧ (cA S b1 14 ∧ (((((nI (cn S b1))) ≤ x2 →
        Q (((-1))) S) ∧
       (¬ ((nI (cn S b1))) ≤ x2 →
        cA S x0 6 ∧ ((∃ b2 : Nat, cr S 196 x0 = some b2 ∧ (cX S b2 14 x2 ∧ (Q ((cI S b2 (x2).toNatClampNeg)) S)))))))))))))))))
def k_X6_joined_53 (Q : Int32 → cS → Prop) (dp : Nat) (R8 : Nat → Nat → Int32 → Int32 → Int32 → Int32 → cS → Prop) (x0 : Nat) (x1 : Nat) (x2 : Int32) (x3 : Int32) (x4 : Int32) (x5 : Int32) (S : cS) : Prop :=
∀ x5_5 : Int32, x5_5 = x5 + nI 1 → R8 x0 x1 x2 x3 x4 x5_5 S
def k_X6_joined_8 (Q : Int32 → cS → Prop) (dp : Nat) (R8 : Nat → Nat → Int32 → Int32 → Int32 → Int32 → cS → Prop) (x0 : Nat) (x1 : Nat) (x2 : Int32) (x3 : Int32) (x4 : Int32) (x5 : Int32) (S : cS) : Prop :=
cA S x1 4 ∧ (((((x2 + ((ci S 132 x1)))) ≤ x5 →
  k_X6_joined_59 Q dp  x0 x1 x2 x3 x4 S) ∧
 (¬ ((x2 + ((ci S 132 x1)))) ≤ x5 →
  cA S x0 6 ∧ ((∃ b3 : Nat, cr S 196 x0 = some b3 ∧ (cA S b3 14 ∧ (((((nI (cn S b3))) ≤ x5 →
    k_X6_joined_59 Q dp  x0 x1 x2 x3 x4 S) ∧
   (¬ ((nI (cn S b3))) ≤ x5 →
    cA S x0 6 ∧ ((∃ b4 : Nat, cr S 196 x0 = some b4 ∧ (cX S b4 14 x5 ∧ (((((cI S b4 (x5).toNatClampNeg)) = (((-1))) →
      k_X6_joined_53 Q dp R8 x0 x1 x2 x3 x4 x5 S) ∧
     (¬ ((cI S b4 (x5).toNatClampNeg)) = (((-1))) →
      cA S x0 6 ∧ ((∃ b6 : Nat, cr S 196 x0 = some b6 ∧ (cX S b6 14 x5 ∧ (∀ x3_7 : Int32, x3_7 = (x3 + ((cI S b6 (x5).toNatClampNeg))) → ∀ x4_8 : Int32, x4_8 = x4 + nI 1 → k_X6_joined_53 Q dp R8 x0 x1 x2 x3_7 x4_8 x5 S)))))))))))))))))))
def k_X6_joined_8L (Q : Int32 → cS → Prop) (dp : Nat)  (x0 : Nat) (x1 : Nat) (x2 : Int32) (x3 : Int32) (x4 : Int32) (x5 : Int32) (S : cS) : Prop :=
  lfp (X := Nat × Nat × Int32 × Int32 × Int32 × Int32 × cS) (fun P y => k_X6_joined_8 Q dp  (fun b0 b1 b2 b3 b4 b5 S => P (b0, b1, b2, b3, b4, b5, S)) y.1 y.2.1 y.2.2.1 y.2.2.2.1 y.2.2.2.2.1 y.2.2.2.2.2.1 y.2.2.2.2.2.2) (x0, x1, x2, x3, x4, x5, S)
def k_X6_joined (Q : Int32 → cS → Prop) (dp : Nat) (x0 : Nat) (x1 : Nat) (x2 : Int32) (S : cS) : Prop :=
k_X6_joined_8L Q dp  x0 x1 x2 (((nI 0))) (((nI 0))) x2 S
section S_X6_joined
variable {p : Program} {l : Launch} {e : Env} {s : State} {m : MethodId} {args : Array Value} {below : List Frame} {meth : Method} {c : Code} {A : Nat → Prop} {D : va_G} {Y : cY} {tp dp : Nat}
set_option maxRecDepth 20000 in
theorem tb_X6_joined_59 (C : cC p s m args meth c cX6_joined 6 (some .int) A D Y tp dp RX6) {post : Int32 → cS → Prop}   (x0 : Nat) (x1 : Nat) (x2 : Int32) (x3 : Int32) (x4 : Int32) (S : cS) (h : k_X6_joined_59 post dp  x0 x1 x2 x3 x4 S) : cG p l e (cRm 0 0 0 0) s m args below meth c A D Y 6 (MQ below (cQi post D Y A) args s 0 0 A) 0 0 59 [(0, .ref x0), (1, .ref x1), (2, .int x2), (3, .int x3), (4, .int x4)] [] S := by
  unfold k_X6_joined_59 at h
  refine cg_aload_n C (i := 1) rfl 1 rfl dX6_joined_59 ?_
  obtain ⟨hc_60, h⟩ := h
  refine cg_get C (k := 4) (j := 0) (.int (ci S 128 x1)) hc_60.1 hc_60.2 (by decide) rfl (by decide) rfl rfl cWs_wsX40 cl_X6_65 rfl dX6_joined_60 ?_
  refine cg_iconst C (x := nI 5) rfl dX6_joined_63 ?_
  refine cg_icmp_ne C 97 (by decide) dX6_joined_64 (fun c_ => ?_) (fun c_ => ?_)
  · have h := h.1 c_
    refine cg_iload C 4 rfl dX6_joined_97 ?_
    refine cg_aload_n C (i := 1) rfl 1 rfl dX6_joined_99 ?_
    obtain ⟨hc_100, h⟩ := h
    refine cg_get C (k := 4) (j := 2) (.int (ci S 130 x1)) hc_100.1 hc_100.2 (by decide) rfl (by decide) rfl rfl cWs_wsX40 cl_X6_68 rfl dX6_joined_100 ?_
    refine cg_icmp_lt C 110 (by decide) dX6_joined_103 (fun c_ => ?_) (fun c_ => ?_)
    · have h := h.1 c_
      refine cg_iconst C (x := (-1)) rfl dX6_joined_110 ?_
      exact cg_iret C h dX6_joined_111 (by decide) (by decide)
    · have h := h.2 c_
      refine cg_iload_n C (i := 3) rfl 3 rfl dX6_joined_106 ?_
      refine cg_goto C 111 (by decide) dX6_joined_107 ?_
      exact cg_iret C h dX6_joined_111 (by decide) (by decide)
  · have h := h.2 c_
    refine cg_iload C 4 rfl dX6_joined_67 ?_
    refine cg_iconst C (x := nI 1) rfl dX6_joined_69 ?_
    refine cg_icmp_ne C 95 (by decide) dX6_joined_70 (fun c_ => ?_) (fun c_ => ?_)
    · have h := h.1 c_
      refine cg_iconst C (x := (-1)) rfl dX6_joined_95 ?_
      exact cg_iret C h dX6_joined_96 (by decide) (by decide)
    · have h := h.2 c_
      refine cg_iload_n C (i := 2) rfl 2 rfl dX6_joined_73 ?_
      refine cg_if_lt C 95 (by decide) dX6_joined_74 (fun c_ => ?_) (fun c_ => ?_)
      · have h := h.1 c_
        refine cg_iconst C (x := (-1)) rfl dX6_joined_95 ?_
        exact cg_iret C h dX6_joined_96 (by decide) (by decide)
      · have h := h.2 c_
        refine cg_iload_n C (i := 2) rfl 2 rfl dX6_joined_77 ?_
        refine cg_aload_n C (i := 0) rfl 0 rfl dX6_joined_78 ?_
        obtain ⟨hc_79, h⟩ := h
        obtain ⟨b1, hb_b1, h⟩ := h
        refine cg_get C (k := 6) (j := 4) (.ref b1) hc_79.1 hc_79.2 (by decide) rfl (by decide) rfl (show cV _ 6 4 x0 = _ from congrArg va_rf hb_b1) cWs_wsX60 cl_X6_29 rfl dX6_joined_79 ?_
        obtain ⟨hc_82, h⟩ := h
        refine cg_alen C hc_82.1 hc_82.2 (by decide) (by decide) dX6_joined_82 ?_
        refine cg_icmp_ge C 95 (by decide) dX6_joined_83 (fun c_ => ?_) (fun c_ => ?_)
        · have h := h.1 c_
          refine cg_iconst C (x := (-1)) rfl dX6_joined_95 ?_
          exact cg_iret C h dX6_joined_96 (by decide) (by decide)
        · have h := h.2 c_
          refine cg_aload_n C (i := 0) rfl 0 rfl dX6_joined_86 ?_
          obtain ⟨hc_87, h⟩ := h
          obtain ⟨b2, hb_b2, h⟩ := h
          refine cg_get C (k := 6) (j := 4) (.ref b2) hc_87.1 hc_87.2 (by decide) rfl (by decide) rfl (show cV _ 6 4 x0 = _ from congrArg va_rf hb_b2) cWs_wsX60 cl_X6_29 rfl dX6_joined_87 ?_
          refine cg_iload_n C (i := 2) rfl 2 rfl dX6_joined_90 ?_
          obtain ⟨hc_91, h⟩ := h
          refine cg_ialoadR C hc_91 dX6_joined_91 ?_
          refine cg_goto C 96 (by decide) dX6_joined_92 ?_
          exact cg_iret C h dX6_joined_96 (by decide) (by decide)
set_option maxRecDepth 20000 in
theorem tb_X6_joined_53 (C : cC p s m args meth c cX6_joined 6 (some .int) A D Y tp dp RX6) {post : Int32 → cS → Prop} {R8 : Nat → Nat → Int32 → Int32 → Int32 → Int32 → cS → Prop} (hR8 : ∀ (x0 : Nat) (x1 : Nat) (x2 : Int32) (x3 : Int32) (x4 : Int32) (x5 : Int32) (S : cS), R8 x0 x1 x2 x3 x4 x5 S → cG p l e (cRm 0 0 0 0) s m args below meth c A D Y 6 (MQ below (cQi post D Y A) args s 0 0 A) 0 0 8 [(0, .ref x0), (1, .ref x1), (2, .int x2), (3, .int x3), (4, .int x4), (5, .int x5)] [] S) (x0 : Nat) (x1 : Nat) (x2 : Int32) (x3 : Int32) (x4 : Int32) (x5 : Int32) (S : cS) (h : k_X6_joined_53 post dp R8 x0 x1 x2 x3 x4 x5 S) : cG p l e (cRm 0 0 0 0) s m args below meth c A D Y 6 (MQ below (cQi post D Y A) args s 0 0 A) 0 0 53 [(0, .ref x0), (1, .ref x1), (2, .int x2), (3, .int x3), (4, .int x4), (5, .int x5)] [] S := by
  unfold k_X6_joined_53 at h
  obtain ⟨x5_5, e_x5_5⟩ : ∃ z : Int32, z = x5 + nI 1 := ⟨_, rfl⟩
  have h := h x5_5 e_x5_5
  refine cg_iinc C (lv' := [(5, .int x5_5), (0, .ref x0), (1, .ref x1), (2, .int x2), (3, .int x3), (4, .int x4)]) 5 rfl (by rw [e_x5_5]; rfl) (Nat.le_of_ble_eq_true rfl) rfl dX6_joined_53 ?_
  refine cg_goto C 8 (by decide) dX6_joined_56 ?_
  exact cg_sub [1, 2, 3, 4, 5, 0] rfl (hR8 x0 x1 x2 x3 x4 x5_5 S h)
set_option maxRecDepth 20000 in
theorem tb_X6_joined_8 (C : cC p s m args meth c cX6_joined 6 (some .int) A D Y tp dp RX6) {post : Int32 → cS → Prop} {R8 : Nat → Nat → Int32 → Int32 → Int32 → Int32 → cS → Prop} (hR8 : ∀ (x0 : Nat) (x1 : Nat) (x2 : Int32) (x3 : Int32) (x4 : Int32) (x5 : Int32) (S : cS), R8 x0 x1 x2 x3 x4 x5 S → cG p l e (cRm 0 0 0 0) s m args below meth c A D Y 6 (MQ below (cQi post D Y A) args s 0 0 A) 0 0 8 [(0, .ref x0), (1, .ref x1), (2, .int x2), (3, .int x3), (4, .int x4), (5, .int x5)] [] S) (x0 : Nat) (x1 : Nat) (x2 : Int32) (x3 : Int32) (x4 : Int32) (x5 : Int32) (S : cS) (h : k_X6_joined_8 post dp R8 x0 x1 x2 x3 x4 x5 S) : cG p l e (cRm 0 0 0 0) s m args below meth c A D Y 6 (MQ below (cQi post D Y A) args s 0 0 A) 0 0 8 [(0, .ref x0), (1, .ref x1), (2, .int x2), (3, .int x3), (4, .int x4), (5, .int x5)] [] S := by
  unfold k_X6_joined_8 at h
  refine cg_iload C 5 rfl dX6_joined_8 ?_
  refine cg_iload_n C (i := 2) rfl 2 rfl dX6_joined_10 ?_
  refine cg_aload_n C (i := 1) rfl 1 rfl dX6_joined_11 ?_
  obtain ⟨hc_12, h⟩ := h
  refine cg_get C (k := 4) (j := 4) (.int (ci S 132 x1)) hc_12.1 hc_12.2 (by decide) rfl (by decide) rfl rfl cWs_wsX40 cl_X6_40 rfl dX6_joined_12 ?_
  refine cg_iadd C dX6_joined_15 ?_
  refine cg_icmp_ge C 59 (by decide) dX6_joined_16 (fun c_ => ?_) (fun c_ => ?_)
  · have h := h.1 c_
    exact cg_sub [0, 1, 2, 3, 4] rfl (tb_X6_joined_59 C   x0 x1 x2 x3 x4 S h)
  · have h := h.2 c_
    refine cg_iload C 5 rfl dX6_joined_19 ?_
    refine cg_aload_n C (i := 0) rfl 0 rfl dX6_joined_21 ?_
    obtain ⟨hc_22, h⟩ := h
    obtain ⟨b3, hb_b3, h⟩ := h
    refine cg_get C (k := 6) (j := 4) (.ref b3) hc_22.1 hc_22.2 (by decide) rfl (by decide) rfl (show cV _ 6 4 x0 = _ from congrArg va_rf hb_b3) cWs_wsX60 cl_X6_29 rfl dX6_joined_22 ?_
    obtain ⟨hc_25, h⟩ := h
    refine cg_alen C hc_25.1 hc_25.2 (by decide) (by decide) dX6_joined_25 ?_
    refine cg_icmp_ge C 59 (by decide) dX6_joined_26 (fun c_ => ?_) (fun c_ => ?_)
    · have h := h.1 c_
      exact cg_sub [0, 1, 2, 3, 4] rfl (tb_X6_joined_59 C   x0 x1 x2 x3 x4 S h)
    · have h := h.2 c_
      refine cg_aload_n C (i := 0) rfl 0 rfl dX6_joined_29 ?_
      obtain ⟨hc_30, h⟩ := h
      obtain ⟨b4, hb_b4, h⟩ := h
      refine cg_get C (k := 6) (j := 4) (.ref b4) hc_30.1 hc_30.2 (by decide) rfl (by decide) rfl (show cV _ 6 4 x0 = _ from congrArg va_rf hb_b4) cWs_wsX60 cl_X6_29 rfl dX6_joined_30 ?_
      refine cg_iload C 5 rfl dX6_joined_33 ?_
      obtain ⟨hc_35, h⟩ := h
      refine cg_ialoadR C hc_35 dX6_joined_35 ?_
      refine cg_iconst C (x := (-1)) rfl dX6_joined_36 ?_
      refine cg_icmp_eq C 53 (by decide) dX6_joined_37 (fun c_ => ?_) (fun c_ => ?_)
      · have h := h.1 c_
        exact cg_sub [0, 1, 2, 3, 4, 5] rfl (tb_X6_joined_53 C  hR8 x0 x1 x2 x3 x4 x5 S h)
      · have h := h.2 c_
        refine cg_iload_n C (i := 3) rfl 3 rfl dX6_joined_40 ?_
        refine cg_aload_n C (i := 0) rfl 0 rfl dX6_joined_41 ?_
        obtain ⟨hc_42, h⟩ := h
        obtain ⟨b6, hb_b6, h⟩ := h
        refine cg_get C (k := 6) (j := 4) (.ref b6) hc_42.1 hc_42.2 (by decide) rfl (by decide) rfl (show cV _ 6 4 x0 = _ from congrArg va_rf hb_b6) cWs_wsX60 cl_X6_29 rfl dX6_joined_42 ?_
        refine cg_iload C 5 rfl dX6_joined_45 ?_
        obtain ⟨hc_47, h⟩ := h
        refine cg_ialoadR C hc_47 dX6_joined_47 ?_
        refine cg_iadd C dX6_joined_48 ?_
        refine cg_nmI (fun x3_7 e_x3_7 => ?_)
        have h := h x3_7 e_x3_7
        refine cg_istore_n C (i := 3) (lv' := [(3, .int x3_7), (0, .ref x0), (1, .ref x1), (2, .int x2), (4, .int x4), (5, .int x5)]) rfl (Nat.le_of_ble_eq_true rfl) rfl dX6_joined_49 ?_
        obtain ⟨x4_8, e_x4_8⟩ : ∃ z : Int32, z = x4 + nI 1 := ⟨_, rfl⟩
        have h := h x4_8 e_x4_8
        refine cg_iinc C (lv' := [(4, .int x4_8), (3, .int x3_7), (0, .ref x0), (1, .ref x1), (2, .int x2), (5, .int x5)]) 4 rfl (by rw [e_x4_8]; rfl) (Nat.le_of_ble_eq_true rfl) rfl dX6_joined_50 ?_
        exact cg_sub [2, 3, 4, 1, 0, 5] rfl (tb_X6_joined_53 C  hR8 x0 x1 x2 x3_7 x4_8 x5 S h)
set_option maxRecDepth 20000 in
theorem tl_X6_joined_8 (C : cC p s m args meth c cX6_joined 6 (some .int) A D Y tp dp RX6) {post : Int32 → cS → Prop}   (x0 : Nat) (x1 : Nat) (x2 : Int32) (x3 : Int32) (x4 : Int32) (x5 : Int32) (S : cS) (h : k_X6_joined_8L post dp  x0 x1 x2 x3 x4 x5 S) : cG p l e (cRm 0 0 0 0) s m args below meth c A D Y 6 (MQ below (cQi post D Y A) args s 0 0 A) 0 0 8 [(0, .ref x0), (1, .ref x1), (2, .int x2), (3, .int x3), (4, .int x4), (5, .int x5)] [] S :=
  h (fun y => cG p l e (cRm 0 0 0 0) s m args below meth c A D Y 6 (MQ below (cQi post D Y A) args s 0 0 A) 0 0 8 [(0, .ref (y.1)), (1, .ref (y.2.1)), (2, .int (y.2.2.1)), (3, .int (y.2.2.2.1)), (4, .int (y.2.2.2.2.1)), (5, .int (y.2.2.2.2.2.1))] [] (y.2.2.2.2.2.2)) (fun y hy => tb_X6_joined_8 C   (fun b0 b1 b2 b3 b4 b5 S z => z) (y.1) (y.2.1) (y.2.2.1) (y.2.2.2.1) (y.2.2.2.2.1) (y.2.2.2.2.2.1) (y.2.2.2.2.2.2) hy)
end S_X6_joined
set_option maxHeartbeats 1000000 in
set_option maxRecDepth 20000 in
theorem t_X6_joined (l : Launch) (x0 : Nat) (x1 : Nat) (x2 : Int32) (S : cS) (dp : Nat) {P : Int32 → cS → Prop} (h : k_X6_joined P dp x0 x1 x2 S) : cMet (cQi P) l yX6_joined cX6_joined 6 (some .int) 0 0 0 0 [.ref x0, .ref x1, .int x2] S dp := by
  intro D Y tp sz
  refine cg_body (by decide +kernel) (Nat.le_of_ble_eq_true rfl) ?_
  intro p e s m args below meth c C
  generalize va_A (cWd Y S) sz = A at C ⊢
  have C : cC p s m args meth c cX6_joined 6 (some .int) A D Y tp dp RX6 := C
  refine cg_lv (lv' := [(0, .ref x0), (1, .ref x1), (2, .int x2)]) rfl ?_
  unfold k_X6_joined at h
  refine cg_iconst C (x := nI 0) rfl dX6_joined_0 ?_
  refine cg_istore_n C (i := 3) (lv' := [(3, .int ((nI 0))), (0, .ref x0), (1, .ref x1), (2, .int x2)]) rfl (Nat.le_of_ble_eq_true rfl) rfl dX6_joined_1 ?_
  refine cg_iconst C (x := nI 0) rfl dX6_joined_2 ?_
  refine cg_istore C (lv' := [(4, .int ((nI 0))), (3, .int ((nI 0))), (0, .ref x0), (1, .ref x1), (2, .int x2)]) (Nat.le_of_ble_eq_true rfl) rfl dX6_joined_3 ?_
  refine cg_iload_n C (i := 2) rfl 4 rfl dX6_joined_5 ?_
  refine cg_istore C (lv' := [(5, .int x2), (4, .int ((nI 0))), (3, .int ((nI 0))), (0, .ref x0), (1, .ref x1), (2, .int x2)]) (Nat.le_of_ble_eq_true rfl) rfl dX6_joined_6 ?_
  exact cg_sub [3, 4, 5, 2, 1, 0] rfl (tl_X6_joined_8 C   x0 x1 x2 (((nI 0))) (((nI 0))) x2 S h)
def k_X6_valueOf_115 (Q : Int32 → cS → Prop) (dp : Nat) (R7 : Nat → Nat → Int32 → Int32 → Int32 → cS → Prop) (x0 : Nat) (x1 : Nat) (x2 : Int32) (x3 : Int32) (x4 : Int32) (S : cS) : Prop :=
∀ x4_9 : Int32, x4_9 = x4 + nI 1 → R7 x0 x1 x2 x3 x4_9 S
def k_X6_valueOf_72 (Q : Int32 → cS → Prop) (dp : Nat) (R7 : Nat → Nat → Int32 → Int32 → Int32 → cS → Prop) (x0 : Nat) (x1 : Nat) (x2 : Int32) (x3 : Int32) (x4 : Int32) (S : cS) : Prop :=
∀ x3_15 : Int32, x3_15 = x3 + nI 1 → k_X6_valueOf_115 Q dp R7 x0 x1 x2 x3_15 x4 S
def k_X6_valueOf_68 (Q : Int32 → cS → Prop) (dp : Nat) (R7 : Nat → Nat → Int32 → Int32 → Int32 → cS → Prop) (x0 : Nat) (x1 : Nat) (x2 : Int32) (x3 : Int32) (x4 : Int32) (t0 : Int32) (t1 : Int32) (t2 : Nat) (S : cS) : Prop :=
cX S t2 14 t1 ∧ (∀ S17 : cS, S17 = cSI S t2 (t1).toNatClampNeg t0 → ∀ x2_18 : Int32, x2_18 = x2 + nI 1 → k_X6_valueOf_72 Q dp R7 x0 x1 x2_18 x3 x4 S17)
def k_X6_valueOf_7 (Q : Int32 → cS → Prop) (dp : Nat) (R7 : Nat → Nat → Int32 → Int32 → Int32 → cS → Prop) (x0 : Nat) (x1 : Nat) (x2 : Int32) (x3 : Int32) (x4 : Int32) (S : cS) : Prop :=
cA S x0 6 ∧ ((∃ b1 : Nat, cr S 192 x0 = some b1 ∧ (cA S b1 12 ∧ (k_Jx4a65c_size_8abf5 (fun r_2 S_2 => 
((r_2 ≤ x4 →
  ((¬ x2 = ((nI 1)) →
    Q (((-1))) S_2) ∧
   (x2 = ((nI 1)) →
    cA S_2 x0 6 ∧ ((∃ b3 : Nat, cr S_2 196 x0 = some b3 ∧ (cX S_2 b3 14 ((nI 0)) ∧ (Q ((cI S_2 b3 ((nI 0)).toNatClampNeg)) S_2))))))) ∧
 (¬ r_2 ≤ x4 →
  cA S_2 x0 6 ∧ ((∃ b4 : Nat, cr S_2 192 x0 = some b4 ∧ (cA S_2 b4 12 ∧ (k_Jx4a65c_get_915e3 (fun r_5 S_5 => 
  cA S_5 r_5 4 ∧ (cA S_5 r_5 4 ∧ (k_X4_isLeaf (fun r_6 S_6 => 
  ((r_6 = 0 →
    cA S_6 r_5 4 ∧ (∀ x2_7 : Int32, x2_7 = (if ((x2 - ((ci S_6 132 r_5)))) < ((nI 0)) then ((nI 0)) else ((x2 - ((ci S_6 132 r_5))))) → cA S_6 x0 6 ∧ ((∃ b8 : Nat, cr S_6 196 x0 = some b8 ∧ (cA S_6 b8 14 ∧ (((((nI (cn S_6 b8))) ≤ x2_7 →
      k_X6_valueOf_115 Q dp R7 x0 x1 x2_7 x3 x4 S_6) ∧
     (¬ ((nI (cn S_6 b8))) ≤ x2_7 →
      cA S_6 x0 6 ∧ ((∃ b10 : Nat, cr S_6 196 x0 = some b10 ∧ (cA S_6 x0 6 ∧ (k_X6_joined (fun r_11 S_11 => 
      cX S_11 b10 14 x2_7 ∧ (∀ S12 : cS, S12 = cSI S_11 b10 (x2_7).toNatClampNeg r_11 → ∀ x2_13 : Int32, x2_13 = x2_7 + nI 1 → k_X6_valueOf_115 Q dp R7 x0 x1 x2_13 x3 x4 S12)) dp x0 r_5 x2_7 S_6)))))))))))) ∧
   (¬ r_6 = 0 →
    cA S_6 x0 6 ∧ ((∃ b14 : Nat, cr S_6 196 x0 = some b14 ∧ (cA S_6 b14 14 ∧ (((((nI (cn S_6 b14))) ≤ x2 →
      k_X6_valueOf_72 Q dp R7 x0 x1 x2 x3 x4 S_6) ∧
     (¬ ((nI (cn S_6 b14))) ≤ x2 →
      cA S_6 x0 6 ∧ ((∃ b16 : Nat, cr S_6 196 x0 = some b16 ∧ (cA S_6 x1 14 ∧ (((((nI (cn S_6 x1))) ≤ x3 →
        k_X6_valueOf_68 Q dp R7 x0 x1 x2 x3 x4 (((-1))) x2 b16 S_6) ∧
       (¬ ((nI (cn S_6 x1))) ≤ x3 →
        cX S_6 x1 14 x3 ∧ (k_X6_valueOf_68 Q dp R7 x0 x1 x2 x3 x4 ((cI S_6 x1 (x3).toNatClampNeg)) x2 b16 S_6)))))))))))))))) dp r_5 S_5))) dp b4 x4 S_2))))))) dp b1 S))))
def k_X6_valueOf_7L (Q : Int32 → cS → Prop) (dp : Nat)  (x0 : Nat) (x1 : Nat) (x2 : Int32) (x3 : Int32) (x4 : Int32) (S : cS) : Prop :=
  lfp (X := Nat × Nat × Int32 × Int32 × Int32 × cS) (fun P y => k_X6_valueOf_7 Q dp  (fun b0 b1 b2 b3 b4 S => P (b0, b1, b2, b3, b4, S)) y.1 y.2.1 y.2.2.1 y.2.2.2.1 y.2.2.2.2.1 y.2.2.2.2.2) (x0, x1, x2, x3, x4, S)
def k_X6_valueOf (Q : Int32 → cS → Prop) (dp : Nat) (x0 : Nat) (x1 : Nat) (S : cS) : Prop :=
k_X6_valueOf_7L Q dp  x0 x1 (((nI 0))) (((nI 0))) (((nI 0))) S
section S_X6_valueOf
variable {p : Program} {l : Launch} {e : Env} {s : State} {m : MethodId} {args : Array Value} {below : List Frame} {meth : Method} {c : Code} {A : Nat → Prop} {D : va_G} {Y : cY} {tp dp : Nat}
set_option maxRecDepth 20000 in
theorem tb_X6_valueOf_115 (C : cC p s m args meth c cX6_valueOf 6 (some .int) A D Y tp dp RX6) {post : Int32 → cS → Prop} {R7 : Nat → Nat → Int32 → Int32 → Int32 → cS → Prop} (hR7 : ∀ (x0 : Nat) (x1 : Nat) (x2 : Int32) (x3 : Int32) (x4 : Int32) (S : cS), R7 x0 x1 x2 x3 x4 S → cG p l e (cRm 3 0 0 64) s m args below meth c A D Y 6 (MQ below (cQi post D Y A) args s 0 0 A) 0 0 7 [(0, .ref x0), (1, .ref x1), (2, .int x2), (3, .int x3), (4, .int x4)] [] S) (x0 : Nat) (x1 : Nat) (x2 : Int32) (x3 : Int32) (x4 : Int32) (S : cS) (h : k_X6_valueOf_115 post dp R7 x0 x1 x2 x3 x4 S) : cG p l e (cRm 3 0 0 64) s m args below meth c A D Y 6 (MQ below (cQi post D Y A) args s 0 0 A) 0 0 115 [(0, .ref x0), (1, .ref x1), (2, .int x2), (3, .int x3), (4, .int x4)] [] S := by
  unfold k_X6_valueOf_115 at h
  obtain ⟨x4_9, e_x4_9⟩ : ∃ z : Int32, z = x4 + nI 1 := ⟨_, rfl⟩
  have h := h x4_9 e_x4_9
  refine cg_iinc C (lv' := [(4, .int x4_9), (0, .ref x0), (1, .ref x1), (2, .int x2), (3, .int x3)]) 4 rfl (by rw [e_x4_9]; rfl) (Nat.le_of_ble_eq_true rfl) rfl dX6_valueOf_115 ?_
  refine cg_goto C 7 (by decide) dX6_valueOf_118 ?_
  exact cg_sub [1, 2, 3, 4, 0] rfl (hR7 x0 x1 x2 x3 x4_9 S h)
set_option maxRecDepth 20000 in
theorem tb_X6_valueOf_72 (C : cC p s m args meth c cX6_valueOf 6 (some .int) A D Y tp dp RX6) {post : Int32 → cS → Prop} {R7 : Nat → Nat → Int32 → Int32 → Int32 → cS → Prop} (hR7 : ∀ (x0 : Nat) (x1 : Nat) (x2 : Int32) (x3 : Int32) (x4 : Int32) (S : cS), R7 x0 x1 x2 x3 x4 S → cG p l e (cRm 3 0 0 64) s m args below meth c A D Y 6 (MQ below (cQi post D Y A) args s 0 0 A) 0 0 7 [(0, .ref x0), (1, .ref x1), (2, .int x2), (3, .int x3), (4, .int x4)] [] S) (x0 : Nat) (x1 : Nat) (x2 : Int32) (x3 : Int32) (x4 : Int32) (S : cS) (h : k_X6_valueOf_72 post dp R7 x0 x1 x2 x3 x4 S) : cG p l e (cRm 3 0 0 64) s m args below meth c A D Y 6 (MQ below (cQi post D Y A) args s 0 0 A) 0 0 72 [(0, .ref x0), (1, .ref x1), (2, .int x2), (3, .int x3), (4, .int x4)] [] S := by
  unfold k_X6_valueOf_72 at h
  obtain ⟨x3_15, e_x3_15⟩ : ∃ z : Int32, z = x3 + nI 1 := ⟨_, rfl⟩
  have h := h x3_15 e_x3_15
  refine cg_iinc C (lv' := [(3, .int x3_15), (0, .ref x0), (1, .ref x1), (2, .int x2), (4, .int x4)]) 3 rfl (by rw [e_x3_15]; rfl) (Nat.le_of_ble_eq_true rfl) rfl dX6_valueOf_72 ?_
  refine cg_goto C 115 (by decide) dX6_valueOf_75 ?_
  exact cg_sub [1, 2, 3, 0, 4] rfl (tb_X6_valueOf_115 C  hR7 x0 x1 x2 x3_15 x4 S h)
set_option maxRecDepth 20000 in
theorem tb_X6_valueOf_68 (C : cC p s m args meth c cX6_valueOf 6 (some .int) A D Y tp dp RX6) {post : Int32 → cS → Prop} {R7 : Nat → Nat → Int32 → Int32 → Int32 → cS → Prop} (hR7 : ∀ (x0 : Nat) (x1 : Nat) (x2 : Int32) (x3 : Int32) (x4 : Int32) (S : cS), R7 x0 x1 x2 x3 x4 S → cG p l e (cRm 3 0 0 64) s m args below meth c A D Y 6 (MQ below (cQi post D Y A) args s 0 0 A) 0 0 7 [(0, .ref x0), (1, .ref x1), (2, .int x2), (3, .int x3), (4, .int x4)] [] S) (x0 : Nat) (x1 : Nat) (x2 : Int32) (x3 : Int32) (x4 : Int32) (t0 : Int32) (t1 : Int32) (t2 : Nat) (S : cS) (h : k_X6_valueOf_68 post dp R7 x0 x1 x2 x3 x4 t0 t1 t2 S) : cG p l e (cRm 3 0 0 64) s m args below meth c A D Y 6 (MQ below (cQi post D Y A) args s 0 0 A) 0 0 68 [(0, .ref x0), (1, .ref x1), (2, .int x2), (3, .int x3), (4, .int x4)] [.int t0, .int t1, .ref t2] S := by
  unfold k_X6_valueOf_68 at h
  obtain ⟨hc_68, h⟩ := h
  refine cg_iastoreR C hc_68 dX6_valueOf_68 ?_
  refine cg_nm (fun S17 e_S17 => ?_)
  have h := h S17 e_S17
  obtain ⟨x2_18, e_x2_18⟩ : ∃ z : Int32, z = x2 + nI 1 := ⟨_, rfl⟩
  have h := h x2_18 e_x2_18
  refine cg_iinc C (lv' := [(2, .int x2_18), (0, .ref x0), (1, .ref x1), (3, .int x3), (4, .int x4)]) 2 rfl (by rw [e_x2_18]; rfl) (Nat.le_of_ble_eq_true rfl) rfl dX6_valueOf_69 ?_
  exact cg_sub [1, 2, 0, 3, 4] rfl (tb_X6_valueOf_72 C  hR7 x0 x1 x2_18 x3 x4 S17 h)
set_option maxRecDepth 20000 in
theorem tb_X6_valueOf_7 (C : cC p s m args meth c cX6_valueOf 6 (some .int) A D Y tp dp RX6) {post : Int32 → cS → Prop} {R7 : Nat → Nat → Int32 → Int32 → Int32 → cS → Prop} (hR7 : ∀ (x0 : Nat) (x1 : Nat) (x2 : Int32) (x3 : Int32) (x4 : Int32) (S : cS), R7 x0 x1 x2 x3 x4 S → cG p l e (cRm 3 0 0 64) s m args below meth c A D Y 6 (MQ below (cQi post D Y A) args s 0 0 A) 0 0 7 [(0, .ref x0), (1, .ref x1), (2, .int x2), (3, .int x3), (4, .int x4)] [] S) (x0 : Nat) (x1 : Nat) (x2 : Int32) (x3 : Int32) (x4 : Int32) (S : cS) (h : k_X6_valueOf_7 post dp R7 x0 x1 x2 x3 x4 S) : cG p l e (cRm 3 0 0 64) s m args below meth c A D Y 6 (MQ below (cQi post D Y A) args s 0 0 A) 0 0 7 [(0, .ref x0), (1, .ref x1), (2, .int x2), (3, .int x3), (4, .int x4)] [] S := by
  unfold k_X6_valueOf_7 at h
  refine cg_iload C 4 rfl dX6_valueOf_7 ?_
  refine cg_aload_n C (i := 0) rfl 0 rfl dX6_valueOf_9 ?_
  obtain ⟨hc_10, h⟩ := h
  obtain ⟨b1, hb_b1, h⟩ := h
  refine cg_get C (k := 6) (j := 0) (.ref b1) hc_10.1 hc_10.2 (by decide) rfl (by decide) rfl (show cV _ 6 0 x0 = _ from congrArg va_rf hb_b1) cWs_wsX60 cl_X6_12 rfl dX6_valueOf_10 ?_
  obtain ⟨hc_13, h⟩ := h
  refine cg_calli C (t_Jx4a65c_size_8abf5 l b1 S dp h) cc_X6_32 hc_13.1 hc_13.2 (by decide) rfl rfl ⟨by decide, by decide⟩ ⟨by decide, by decide⟩ rfl (Nat.le_of_ble_eq_true rfl) dX6_valueOf_13 (fun r_2 S_2 h => ?_)
  refine cg_icmp_ge C 121 (by decide) dX6_valueOf_16 (fun c_ => ?_) (fun c_ => ?_)
  · have h := h.1 c_
    refine cg_iload_n C (i := 2) rfl 2 rfl dX6_valueOf_121 ?_
    refine cg_iconst C (x := nI 1) rfl dX6_valueOf_122 ?_
    refine cg_icmp_ne C 135 (by decide) dX6_valueOf_123 (fun c_ => ?_) (fun c_ => ?_)
    · have h := h.1 c_
      refine cg_iconst C (x := (-1)) rfl dX6_valueOf_135 ?_
      exact cg_iret C h dX6_valueOf_136 (by decide) (by decide)
    · have h := h.2 c_
      refine cg_aload_n C (i := 0) rfl 0 rfl dX6_valueOf_126 ?_
      obtain ⟨hc_127, h⟩ := h
      obtain ⟨b3, hb_b3, h⟩ := h
      refine cg_get C (k := 6) (j := 4) (.ref b3) hc_127.1 hc_127.2 (by decide) rfl (by decide) rfl (show cV _ 6 4 x0 = _ from congrArg va_rf hb_b3) cWs_wsX60 cl_X6_29 rfl dX6_valueOf_127 ?_
      refine cg_iconst C (x := nI 0) rfl dX6_valueOf_130 ?_
      obtain ⟨hc_131, h⟩ := h
      refine cg_ialoadR C hc_131 dX6_valueOf_131 ?_
      refine cg_goto C 136 (by decide) dX6_valueOf_132 ?_
      exact cg_iret C h dX6_valueOf_136 (by decide) (by decide)
  · have h := h.2 c_
    refine cg_aload_n C (i := 0) rfl 0 rfl dX6_valueOf_19 ?_
    obtain ⟨hc_20, h⟩ := h
    obtain ⟨b4, hb_b4, h⟩ := h
    refine cg_get C (k := 6) (j := 0) (.ref b4) hc_20.1 hc_20.2 (by decide) rfl (by decide) rfl (show cV _ 6 0 x0 = _ from congrArg va_rf hb_b4) cWs_wsX60 cl_X6_12 rfl dX6_valueOf_20 ?_
    refine cg_iload C 4 rfl dX6_valueOf_23 ?_
    obtain ⟨hc_25, h⟩ := h
    refine cg_callr C (t_Jx4a65c_get_915e3 l b4 x4 S_2 dp h) cc_X6_49 hc_25.1 hc_25.2 (by decide) rfl rfl ⟨by decide, by decide⟩ ⟨by decide, by decide⟩ rfl (Nat.le_of_ble_eq_true rfl) dX6_valueOf_25 (fun r_5 S_5 h => ?_)
    obtain ⟨hc_28, h⟩ := h
    refine cg_ccast C (k := 4) hc_28.1 hc_28.2 (by decide) rfl cnc_X6_41 dX6_valueOf_28 ?_
    refine cg_astore (lv' := [(5, .ref r_5), (0, .ref x0), (1, .ref x1), (2, .int x2), (3, .int x3), (4, .int x4)]) C (Nat.le_of_ble_eq_true rfl) rfl dX6_valueOf_31 ?_
    refine cg_aload C 0 rfl dX6_valueOf_33 ?_
    obtain ⟨hc_35, h⟩ := h
    refine cg_calli C (t_X4_isLeaf l r_5 S_5 dp h) cc_X6_57 hc_35.1 hc_35.2 (by decide) rfl rfl ⟨by decide, by decide⟩ ⟨by decide, by decide⟩ rfl (Nat.le_of_ble_eq_true rfl) dX6_valueOf_35 (fun r_6 S_6 h => ?_)
    refine cg_if_eq C 78 (by decide) dX6_valueOf_38 (fun c_ => ?_) (fun c_ => ?_)
    · have h := h.1 c_
      refine cg_iload_n C (i := 2) rfl 3 rfl dX6_valueOf_78 ?_
      refine cg_aload C 0 rfl dX6_valueOf_79 ?_
      obtain ⟨hc_81, h⟩ := h
      refine cg_get C (k := 4) (j := 4) (.int (ci S_6 132 r_5)) hc_81.1 hc_81.2 (by decide) rfl (by decide) rfl rfl cWs_wsX40 cl_X6_40 rfl dX6_valueOf_81 ?_
      refine cg_isub C dX6_valueOf_84 ?_
      refine cg_iconst C (x := nI 0) rfl dX6_valueOf_85 ?_
      refine cg_mmax C cmmax_X6_43 cmmax_s cmm_i cmmax_c (Nat.le_of_ble_eq_true rfl) (Nat.le_of_ble_eq_true rfl) (by decide) (by decide) dX6_valueOf_86 ?_
      refine cg_nmI (fun x2_7 e_x2_7 => ?_)
      have h := h x2_7 e_x2_7
      refine cg_istore_n C (i := 2) (lv' := [(2, .int x2_7), (5, .ref r_5), (0, .ref x0), (1, .ref x1), (3, .int x3), (4, .int x4)]) rfl (Nat.le_of_ble_eq_true rfl) rfl dX6_valueOf_89 ?_
      refine cg_iload_n C (i := 2) rfl 0 rfl dX6_valueOf_90 ?_
      refine cg_aload_n C (i := 0) rfl 2 rfl dX6_valueOf_91 ?_
      obtain ⟨hc_92, h⟩ := h
      obtain ⟨b8, hb_b8, h⟩ := h
      refine cg_get C (k := 6) (j := 4) (.ref b8) hc_92.1 hc_92.2 (by decide) rfl (by decide) rfl (show cV _ 6 4 x0 = _ from congrArg va_rf hb_b8) cWs_wsX60 cl_X6_29 rfl dX6_valueOf_92 ?_
      obtain ⟨hc_95, h⟩ := h
      refine cg_alen C hc_95.1 hc_95.2 (by decide) (by decide) dX6_valueOf_95 ?_
      refine cg_icmp_ge C 115 (by decide) dX6_valueOf_96 (fun c_ => ?_) (fun c_ => ?_)
      · have h := h.1 c_
        exact cg_sub [2, 3, 0, 4, 5] rfl (tb_X6_valueOf_115 C  hR7 x0 x1 x2_7 x3 x4 S_6 h)
      · have h := h.2 c_
        refine cg_aload_n C (i := 0) rfl 2 rfl dX6_valueOf_99 ?_
        obtain ⟨hc_100, h⟩ := h
        obtain ⟨b10, hb_b10, h⟩ := h
        refine cg_get C (k := 6) (j := 4) (.ref b10) hc_100.1 hc_100.2 (by decide) rfl (by decide) rfl (show cV _ 6 4 x0 = _ from congrArg va_rf hb_b10) cWs_wsX60 cl_X6_29 rfl dX6_valueOf_100 ?_
        refine cg_iload_n C (i := 2) rfl 0 rfl dX6_valueOf_103 ?_
        refine cg_aload_n C (i := 0) rfl 2 rfl dX6_valueOf_104 ?_
        refine cg_aload C 1 rfl dX6_valueOf_105 ?_
        refine cg_iload_n C (i := 2) rfl 0 rfl dX6_valueOf_107 ?_
        obtain ⟨hc_108, h⟩ := h
        refine cg_calli C (t_X6_joined l x0 r_5 x2_7 S_6 dp h) cc_X6_61 hc_108.1 hc_108.2 (by decide) rfl rfl ⟨by decide, by decide⟩ ⟨by decide, by decide⟩ rfl (Nat.le_of_ble_eq_true rfl) dX6_valueOf_108 (fun r_11 S_11 h => ?_)
        obtain ⟨hc_111, h⟩ := h
        refine cg_iastoreR C hc_111 dX6_valueOf_111 ?_
        refine cg_nm (fun S12 e_S12 => ?_)
        have h := h S12 e_S12
        obtain ⟨x2_13, e_x2_13⟩ : ∃ z : Int32, z = x2_7 + nI 1 := ⟨_, rfl⟩
        have h := h x2_13 e_x2_13
        refine cg_iinc C (lv' := [(2, .int x2_13), (5, .ref r_5), (0, .ref x0), (1, .ref x1), (3, .int x3), (4, .int x4)]) 0 rfl (by rw [e_x2_13]; rfl) (Nat.le_of_ble_eq_true rfl) rfl dX6_valueOf_112 ?_
        exact cg_sub [2, 3, 0, 4, 5] rfl (tb_X6_valueOf_115 C  hR7 x0 x1 x2_13 x3 x4 S12 h)
    · have h := h.2 c_
      refine cg_iload_n C (i := 2) rfl 3 rfl dX6_valueOf_41 ?_
      refine cg_aload_n C (i := 0) rfl 1 rfl dX6_valueOf_42 ?_
      obtain ⟨hc_43, h⟩ := h
      obtain ⟨b14, hb_b14, h⟩ := h
      refine cg_get C (k := 6) (j := 4) (.ref b14) hc_43.1 hc_43.2 (by decide) rfl (by decide) rfl (show cV _ 6 4 x0 = _ from congrArg va_rf hb_b14) cWs_wsX60 cl_X6_29 rfl dX6_valueOf_43 ?_
      obtain ⟨hc_46, h⟩ := h
      refine cg_alen C hc_46.1 hc_46.2 (by decide) (by decide) dX6_valueOf_46 ?_
      refine cg_icmp_ge C 72 (by decide) dX6_valueOf_47 (fun c_ => ?_) (fun c_ => ?_)
      · have h := h.1 c_
        exact cg_sub [1, 2, 3, 4, 5] rfl (tb_X6_valueOf_72 C  hR7 x0 x1 x2 x3 x4 S_6 h)
      · have h := h.2 c_
        refine cg_aload_n C (i := 0) rfl 1 rfl dX6_valueOf_50 ?_
        obtain ⟨hc_51, h⟩ := h
        obtain ⟨b16, hb_b16, h⟩ := h
        refine cg_get C (k := 6) (j := 4) (.ref b16) hc_51.1 hc_51.2 (by decide) rfl (by decide) rfl (show cV _ 6 4 x0 = _ from congrArg va_rf hb_b16) cWs_wsX60 cl_X6_29 rfl dX6_valueOf_51 ?_
        refine cg_iload_n C (i := 2) rfl 3 rfl dX6_valueOf_54 ?_
        refine cg_iload_n C (i := 3) rfl 4 rfl dX6_valueOf_55 ?_
        refine cg_aload_n C (i := 1) rfl 2 rfl dX6_valueOf_56 ?_
        obtain ⟨hc_57, h⟩ := h
        refine cg_alen C hc_57.1 hc_57.2 (by decide) (by decide) dX6_valueOf_57 ?_
        refine cg_icmp_ge C 67 (by decide) dX6_valueOf_58 (fun c_ => ?_) (fun c_ => ?_)
        · have h := h.1 c_
          refine cg_iconst C (x := (-1)) rfl dX6_valueOf_67 ?_
          exact cg_sub [1, 2, 3, 4, 5] rfl (tb_X6_valueOf_68 C  hR7 x0 x1 x2 x3 x4 (((-1))) x2 b16 S_6 h)
        · have h := h.2 c_
          refine cg_aload_n C (i := 1) rfl 2 rfl dX6_valueOf_61 ?_
          refine cg_iload_n C (i := 3) rfl 4 rfl dX6_valueOf_62 ?_
          obtain ⟨hc_63, h⟩ := h
          refine cg_ialoadR C hc_63 dX6_valueOf_63 ?_
          refine cg_goto C 68 (by decide) dX6_valueOf_64 ?_
          exact cg_sub [1, 2, 3, 4, 5] rfl (tb_X6_valueOf_68 C  hR7 x0 x1 x2 x3 x4 ((cI S_6 x1 (x3).toNatClampNeg)) x2 b16 S_6 h)
set_option maxRecDepth 20000 in
theorem tl_X6_valueOf_7 (C : cC p s m args meth c cX6_valueOf 6 (some .int) A D Y tp dp RX6) {post : Int32 → cS → Prop}   (x0 : Nat) (x1 : Nat) (x2 : Int32) (x3 : Int32) (x4 : Int32) (S : cS) (h : k_X6_valueOf_7L post dp  x0 x1 x2 x3 x4 S) : cG p l e (cRm 3 0 0 64) s m args below meth c A D Y 6 (MQ below (cQi post D Y A) args s 0 0 A) 0 0 7 [(0, .ref x0), (1, .ref x1), (2, .int x2), (3, .int x3), (4, .int x4)] [] S :=
  h (fun y => cG p l e (cRm 3 0 0 64) s m args below meth c A D Y 6 (MQ below (cQi post D Y A) args s 0 0 A) 0 0 7 [(0, .ref (y.1)), (1, .ref (y.2.1)), (2, .int (y.2.2.1)), (3, .int (y.2.2.2.1)), (4, .int (y.2.2.2.2.1))] [] (y.2.2.2.2.2)) (fun y hy => tb_X6_valueOf_7 C   (fun b0 b1 b2 b3 b4 S z => z) (y.1) (y.2.1) (y.2.2.1) (y.2.2.2.1) (y.2.2.2.2.1) (y.2.2.2.2.2) hy)
end S_X6_valueOf
set_option maxHeartbeats 1000000 in
set_option maxRecDepth 20000 in
theorem t_X6_valueOf (l : Launch) (x0 : Nat) (x1 : Nat) (S : cS) (dp : Nat) {P : Int32 → cS → Prop} (h : k_X6_valueOf P dp x0 x1 S) : cMet (cQi P) l yX6_valueOf cX6_valueOf 6 (some .int) 3 0 0 64 [.ref x0, .ref x1] S dp := by
  intro D Y tp sz
  refine cg_body (by decide +kernel) (Nat.le_of_ble_eq_true rfl) ?_
  intro p e s m args below meth c C
  generalize va_A (cWd Y S) sz = A at C ⊢
  have C : cC p s m args meth c cX6_valueOf 6 (some .int) A D Y tp dp RX6 := C
  refine cg_lv (lv' := [(0, .ref x0), (1, .ref x1)]) rfl ?_
  unfold k_X6_valueOf at h
  refine cg_iconst C (x := nI 0) rfl dX6_valueOf_0 ?_
  refine cg_istore_n C (i := 2) (lv' := [(2, .int ((nI 0))), (0, .ref x0), (1, .ref x1)]) rfl (Nat.le_of_ble_eq_true rfl) rfl dX6_valueOf_1 ?_
  refine cg_iconst C (x := nI 0) rfl dX6_valueOf_2 ?_
  refine cg_istore_n C (i := 3) (lv' := [(3, .int ((nI 0))), (2, .int ((nI 0))), (0, .ref x0), (1, .ref x1)]) rfl (Nat.le_of_ble_eq_true rfl) rfl dX6_valueOf_3 ?_
  refine cg_iconst C (x := nI 0) rfl dX6_valueOf_4 ?_
  refine cg_istore C (lv' := [(4, .int ((nI 0))), (3, .int ((nI 0))), (2, .int ((nI 0))), (0, .ref x0), (1, .ref x1)]) (Nat.le_of_ble_eq_true rfl) rfl dX6_valueOf_5 ?_
  exact cg_sub [3, 4, 2, 1, 0] rfl (tl_X6_valueOf_7 C   x0 x1 (((nI 0))) (((nI 0))) (((nI 0))) S h)
def k_X7_valueAt_72 (Q : Int32 → cS → Prop) (dp : Nat)  (x0 : Nat) (x1 : Nat) (S : cS) : Prop :=
cA S x0 7 ∧ ((∃ b3 : Nat, cr S 230 x0 = some b3 ∧ (cA S x1 6 ∧ (k_X6_valueOf (fun r_4 S_4 => 
Q r_4 S_4) dp x1 b3 S))))
def k_X7_valueAt_65 (Q : Int32 → cS → Prop) (dp : Nat) (R2 : Nat → Nat → Int32 → Int32 → cS → Prop) (x0 : Nat) (x1 : Nat) (x2 : Int32) (x3 : Int32) (t0 : Int32) (t1 : Int32) (t2 : Nat) (S : cS) : Prop :=
cX S t2 14 t1 ∧ (∀ S12 : cS, S12 = cSI S t2 (t1).toNatClampNeg t0 → ∀ x3_13 : Int32, x3_13 = x3 + nI 1 → R2 x0 x1 x2 x3_13 S12)
def k_X7_valueAt_2 (Q : Int32 → cS → Prop) (dp : Nat) (R2 : Nat → Nat → Int32 → Int32 → cS → Prop) (x0 : Nat) (x1 : Nat) (x2 : Int32) (x3 : Int32) (S : cS) : Prop :=
cA S x1 6 ∧ ((∃ b1 : Nat, cr S 193 x1 = some b1 ∧ (cA S b1 12 ∧ (k_Jx4a65c_size_8abf5 (fun r_2 S_2 => 
((r_2 ≤ x3 →
  k_X7_valueAt_72 Q dp  x0 x1 S_2) ∧
 (¬ r_2 ≤ x3 →
  cA S_2 x0 7 ∧ ((∃ b5 : Nat, cr S_2 230 x0 = some b5 ∧ (cA S_2 b5 14 ∧ (((((nI (cn S_2 b5))) ≤ x3 →
    k_X7_valueAt_72 Q dp  x0 x1 S_2) ∧
   (¬ ((nI (cn S_2 b5))) ≤ x3 →
    cA S_2 x0 7 ∧ (k_X7_markAt (fun r_6 S_6 => 
    cA S_6 x0 7 ∧ ((∃ b7 : Nat, cr S_6 230 x0 = some b7 ∧ (((¬ r_6 = 0 →
      cA S_6 x1 6 ∧ ((∃ b8 : Nat, cr S_6 193 x1 = some b8 ∧ (cA S_6 b8 12 ∧ (k_Jx4a65c_get_915e3 (fun r_9 S_9 => 
      cA S_9 r_9 4 ∧ (k_J6_bitCount_0f7a4 (fun r_10 S_10 => 
      cA S_10 x0 7 ∧ (k_X7_giveOf (fun r_11 S_11 => 
      k_X7_valueAt_65 Q dp R2 x0 x1 x2 x3 r_11 x3 b7 S_11) dp x0 r_9 x3 r_10 S_10)) dp r_6 S_9)) dp b8 x3 S_6))))) ∧
     (r_6 = 0 →
      k_X7_valueAt_65 Q dp R2 x0 x1 x2 x3 (((-1))) x3 b7 S_6)))))) dp x0 x3 x2 S_2)))))))))) dp b1 S))))
def k_X7_valueAt_2L (Q : Int32 → cS → Prop) (dp : Nat)  (x0 : Nat) (x1 : Nat) (x2 : Int32) (x3 : Int32) (S : cS) : Prop :=
  lfp (X := Nat × Nat × Int32 × Int32 × cS) (fun P y => k_X7_valueAt_2 Q dp  (fun b0 b1 b2 b3 S => P (b0, b1, b2, b3, S)) y.1 y.2.1 y.2.2.1 y.2.2.2.1 y.2.2.2.2) (x0, x1, x2, x3, S)
def k_X7_valueAt (Q : Int32 → cS → Prop) (dp : Nat) (x0 : Nat) (x1 : Nat) (x2 : Int32) (S : cS) : Prop :=
k_X7_valueAt_2L Q dp  x0 x1 x2 (((nI 0))) S
section S_X7_valueAt
variable {p : Program} {l : Launch} {e : Env} {s : State} {m : MethodId} {args : Array Value} {below : List Frame} {meth : Method} {c : Code} {A : Nat → Prop} {D : va_G} {Y : cY} {tp dp : Nat}
set_option maxRecDepth 20000 in
theorem tb_X7_valueAt_72 (C : cC p s m args meth c cX7_valueAt 5 (some .int) A D Y tp dp RX7) {post : Int32 → cS → Prop}   (x0 : Nat) (x1 : Nat) (S : cS) (h : k_X7_valueAt_72 post dp  x0 x1 S) : cG p l e (cRm 4 0 0 89) s m args below meth c A D Y 5 (MQ below (cQi post D Y A) args s 0 0 A) 0 0 72 [(0, .ref x0), (1, .ref x1)] [] S := by
  unfold k_X7_valueAt_72 at h
  refine cg_aload_n C (i := 1) rfl 1 rfl dX7_valueAt_72 ?_
  refine cg_aload_n C (i := 0) rfl 0 rfl dX7_valueAt_73 ?_
  obtain ⟨hc_74, h⟩ := h
  obtain ⟨b3, hb_b3, h⟩ := h
  refine cg_get C (k := 7) (j := 6) (.ref b3) hc_74.1 hc_74.2 (by decide) rfl (by decide) rfl (show cV _ 7 6 x0 = _ from congrArg va_rf hb_b3) cWs_wsX70 cl_X7_32 rfl dX7_valueAt_74 ?_
  obtain ⟨hc_77, h⟩ := h
  refine cg_calli C (t_X6_valueOf l x1 b3 S dp h) cc_X7_212 hc_77.1 hc_77.2 (by decide) rfl rfl ⟨by decide, by decide⟩ ⟨by decide, by decide⟩ rfl (Nat.le_of_ble_eq_true rfl) dX7_valueAt_77 (fun r_4 S_4 h => ?_)
  exact cg_iret C h dX7_valueAt_80 (by decide) (by decide)
set_option maxRecDepth 20000 in
theorem tb_X7_valueAt_65 (C : cC p s m args meth c cX7_valueAt 5 (some .int) A D Y tp dp RX7) {post : Int32 → cS → Prop} {R2 : Nat → Nat → Int32 → Int32 → cS → Prop} (hR2 : ∀ (x0 : Nat) (x1 : Nat) (x2 : Int32) (x3 : Int32) (S : cS), R2 x0 x1 x2 x3 S → cG p l e (cRm 4 0 0 89) s m args below meth c A D Y 5 (MQ below (cQi post D Y A) args s 0 0 A) 0 0 2 [(0, .ref x0), (1, .ref x1), (2, .int x2), (3, .int x3)] [] S) (x0 : Nat) (x1 : Nat) (x2 : Int32) (x3 : Int32) (t0 : Int32) (t1 : Int32) (t2 : Nat) (S : cS) (h : k_X7_valueAt_65 post dp R2 x0 x1 x2 x3 t0 t1 t2 S) : cG p l e (cRm 4 0 0 89) s m args below meth c A D Y 5 (MQ below (cQi post D Y A) args s 0 0 A) 0 0 65 [(0, .ref x0), (1, .ref x1), (2, .int x2), (3, .int x3)] [.int t0, .int t1, .ref t2] S := by
  unfold k_X7_valueAt_65 at h
  obtain ⟨hc_65, h⟩ := h
  refine cg_iastoreR C hc_65 dX7_valueAt_65 ?_
  refine cg_nm (fun S12 e_S12 => ?_)
  have h := h S12 e_S12
  obtain ⟨x3_13, e_x3_13⟩ : ∃ z : Int32, z = x3 + nI 1 := ⟨_, rfl⟩
  have h := h x3_13 e_x3_13
  refine cg_iinc C (lv' := [(3, .int x3_13), (0, .ref x0), (1, .ref x1), (2, .int x2)]) 3 rfl (by rw [e_x3_13]; rfl) (Nat.le_of_ble_eq_true rfl) rfl dX7_valueAt_66 ?_
  refine cg_goto C 2 (by decide) dX7_valueAt_69 ?_
  exact cg_sub [1, 2, 3, 0] rfl (hR2 x0 x1 x2 x3_13 S12 h)
set_option maxRecDepth 20000 in
theorem tb_X7_valueAt_2 (C : cC p s m args meth c cX7_valueAt 5 (some .int) A D Y tp dp RX7) {post : Int32 → cS → Prop} {R2 : Nat → Nat → Int32 → Int32 → cS → Prop} (hR2 : ∀ (x0 : Nat) (x1 : Nat) (x2 : Int32) (x3 : Int32) (S : cS), R2 x0 x1 x2 x3 S → cG p l e (cRm 4 0 0 89) s m args below meth c A D Y 5 (MQ below (cQi post D Y A) args s 0 0 A) 0 0 2 [(0, .ref x0), (1, .ref x1), (2, .int x2), (3, .int x3)] [] S) (x0 : Nat) (x1 : Nat) (x2 : Int32) (x3 : Int32) (S : cS) (h : k_X7_valueAt_2 post dp R2 x0 x1 x2 x3 S) : cG p l e (cRm 4 0 0 89) s m args below meth c A D Y 5 (MQ below (cQi post D Y A) args s 0 0 A) 0 0 2 [(0, .ref x0), (1, .ref x1), (2, .int x2), (3, .int x3)] [] S := by
  unfold k_X7_valueAt_2 at h
  refine cg_iload_n C (i := 3) rfl 3 rfl dX7_valueAt_2 ?_
  refine cg_aload_n C (i := 1) rfl 1 rfl dX7_valueAt_3 ?_
  obtain ⟨hc_4, h⟩ := h
  obtain ⟨b1, hb_b1, h⟩ := h
  refine cg_get C (k := 6) (j := 1) (.ref b1) hc_4.1 hc_4.2 (by decide) rfl (by decide) rfl (show cV _ 6 1 x1 = _ from congrArg va_rf hb_b1) cWs_wsX60 cl_X7_41 rfl dX7_valueAt_4 ?_
  obtain ⟨hc_7, h⟩ := h
  refine cg_calli C (t_Jx4a65c_size_8abf5 l b1 S dp h) cc_X7_47 hc_7.1 hc_7.2 (by decide) rfl rfl ⟨by decide, by decide⟩ ⟨by decide, by decide⟩ rfl (Nat.le_of_ble_eq_true rfl) dX7_valueAt_7 (fun r_2 S_2 h => ?_)
  refine cg_icmp_ge C 72 (by decide) dX7_valueAt_10 (fun c_ => ?_) (fun c_ => ?_)
  · have h := h.1 c_
    exact cg_sub [0, 1] rfl (tb_X7_valueAt_72 C   x0 x1 S_2 h)
  · have h := h.2 c_
    refine cg_iload_n C (i := 3) rfl 3 rfl dX7_valueAt_13 ?_
    refine cg_aload_n C (i := 0) rfl 0 rfl dX7_valueAt_14 ?_
    obtain ⟨hc_15, h⟩ := h
    obtain ⟨b5, hb_b5, h⟩ := h
    refine cg_get C (k := 7) (j := 6) (.ref b5) hc_15.1 hc_15.2 (by decide) rfl (by decide) rfl (show cV _ 7 6 x0 = _ from congrArg va_rf hb_b5) cWs_wsX70 cl_X7_32 rfl dX7_valueAt_15 ?_
    obtain ⟨hc_18, h⟩ := h
    refine cg_alen C hc_18.1 hc_18.2 (by decide) (by decide) dX7_valueAt_18 ?_
    refine cg_icmp_ge C 72 (by decide) dX7_valueAt_19 (fun c_ => ?_) (fun c_ => ?_)
    · have h := h.1 c_
      exact cg_sub [0, 1] rfl (tb_X7_valueAt_72 C   x0 x1 S_2 h)
    · have h := h.2 c_
      refine cg_aload_n C (i := 0) rfl 0 rfl dX7_valueAt_22 ?_
      refine cg_iload_n C (i := 3) rfl 3 rfl dX7_valueAt_23 ?_
      refine cg_iload_n C (i := 2) rfl 2 rfl dX7_valueAt_24 ?_
      obtain ⟨hc_25, h⟩ := h
      refine cg_calli C (t_X7_markAt l x0 x3 x2 S_2 dp h) cc_X7_200 hc_25.1 hc_25.2 (by decide) rfl rfl ⟨by decide, by decide⟩ ⟨by decide, by decide⟩ rfl (Nat.le_of_ble_eq_true rfl) dX7_valueAt_25 (fun r_6 S_6 h => ?_)
      refine cg_istore C (lv' := [(4, .int r_6), (0, .ref x0), (1, .ref x1), (2, .int x2), (3, .int x3)]) (Nat.le_of_ble_eq_true rfl) rfl dX7_valueAt_28 ?_
      refine cg_aload_n C (i := 0) rfl 1 rfl dX7_valueAt_30 ?_
      obtain ⟨hc_31, h⟩ := h
      obtain ⟨b7, hb_b7, h⟩ := h
      refine cg_get C (k := 7) (j := 6) (.ref b7) hc_31.1 hc_31.2 (by decide) rfl (by decide) rfl (show cV _ 7 6 x0 = _ from congrArg va_rf hb_b7) cWs_wsX70 cl_X7_32 rfl dX7_valueAt_31 ?_
      refine cg_iload_n C (i := 3) rfl 4 rfl dX7_valueAt_34 ?_
      refine cg_iload C 0 rfl dX7_valueAt_35 ?_
      refine cg_if_ne C 44 (by decide) dX7_valueAt_37 (fun c_ => ?_) (fun c_ => ?_)
      · have h := h.1 c_
        refine cg_aload_n C (i := 0) rfl 1 rfl dX7_valueAt_44 ?_
        refine cg_aload_n C (i := 1) rfl 2 rfl dX7_valueAt_45 ?_
        obtain ⟨hc_46, h⟩ := h
        obtain ⟨b8, hb_b8, h⟩ := h
        refine cg_get C (k := 6) (j := 1) (.ref b8) hc_46.1 hc_46.2 (by decide) rfl (by decide) rfl (show cV _ 6 1 x1 = _ from congrArg va_rf hb_b8) cWs_wsX60 cl_X7_41 rfl dX7_valueAt_46 ?_
        refine cg_iload_n C (i := 3) rfl 4 rfl dX7_valueAt_49 ?_
        obtain ⟨hc_50, h⟩ := h
        refine cg_callr C (t_Jx4a65c_get_915e3 l b8 x3 S_6 dp h) cc_X7_52 hc_50.1 hc_50.2 (by decide) rfl rfl ⟨by decide, by decide⟩ ⟨by decide, by decide⟩ rfl (Nat.le_of_ble_eq_true rfl) dX7_valueAt_50 (fun r_9 S_9 h => ?_)
        obtain ⟨hc_53, h⟩ := h
        refine cg_ccast C (k := 4) hc_53.1 hc_53.2 (by decide) rfl cnc_X7_56 dX7_valueAt_53 ?_
        refine cg_iload_n C (i := 3) rfl 4 rfl dX7_valueAt_56 ?_
        refine cg_iload C 0 rfl dX7_valueAt_57 ?_
        refine cg_callsi C (t_J6_bitCount_0f7a4 l r_6 S_9 dp h) cc_X7_203 rfl ⟨by decide, by decide⟩ ⟨by decide, by decide⟩ rfl (Nat.le_of_ble_eq_true rfl) dX7_valueAt_59 (fun r_10 S_10 h => ?_)
        obtain ⟨hc_62, h⟩ := h
        refine cg_calli C (t_X7_giveOf l x0 r_9 x3 r_10 S_10 dp h) cc_X7_208 hc_62.1 hc_62.2 (by decide) rfl rfl ⟨by decide, by decide⟩ ⟨by decide, by decide⟩ rfl (Nat.le_of_ble_eq_true rfl) dX7_valueAt_62 (fun r_11 S_11 h => ?_)
        exact cg_sub [1, 2, 3, 4] rfl (tb_X7_valueAt_65 C  hR2 x0 x1 x2 x3 r_11 x3 b7 S_11 h)
      · have h := h.2 c_
        refine cg_iconst C (x := (-1)) rfl dX7_valueAt_40 ?_
        refine cg_goto C 65 (by decide) dX7_valueAt_41 ?_
        exact cg_sub [1, 2, 3, 4] rfl (tb_X7_valueAt_65 C  hR2 x0 x1 x2 x3 (((-1))) x3 b7 S_6 h)
set_option maxRecDepth 20000 in
theorem tl_X7_valueAt_2 (C : cC p s m args meth c cX7_valueAt 5 (some .int) A D Y tp dp RX7) {post : Int32 → cS → Prop}   (x0 : Nat) (x1 : Nat) (x2 : Int32) (x3 : Int32) (S : cS) (h : k_X7_valueAt_2L post dp  x0 x1 x2 x3 S) : cG p l e (cRm 4 0 0 89) s m args below meth c A D Y 5 (MQ below (cQi post D Y A) args s 0 0 A) 0 0 2 [(0, .ref x0), (1, .ref x1), (2, .int x2), (3, .int x3)] [] S :=
  h (fun y => cG p l e (cRm 4 0 0 89) s m args below meth c A D Y 5 (MQ below (cQi post D Y A) args s 0 0 A) 0 0 2 [(0, .ref (y.1)), (1, .ref (y.2.1)), (2, .int (y.2.2.1)), (3, .int (y.2.2.2.1))] [] (y.2.2.2.2)) (fun y hy => tb_X7_valueAt_2 C   (fun b0 b1 b2 b3 S z => z) (y.1) (y.2.1) (y.2.2.1) (y.2.2.2.1) (y.2.2.2.2) hy)
end S_X7_valueAt
set_option maxHeartbeats 1000000 in
set_option maxRecDepth 20000 in
theorem t_X7_valueAt (l : Launch) (x0 : Nat) (x1 : Nat) (x2 : Int32) (S : cS) (dp : Nat) {P : Int32 → cS → Prop} (h : k_X7_valueAt P dp x0 x1 x2 S) : cMet (cQi P) l yX7_valueAt cX7_valueAt 5 (some .int) 4 0 0 89 [.ref x0, .ref x1, .int x2] S dp := by
  intro D Y tp sz
  refine cg_body (by decide +kernel) (Nat.le_of_ble_eq_true rfl) ?_
  intro p e s m args below meth c C
  generalize va_A (cWd Y S) sz = A at C ⊢
  have C : cC p s m args meth c cX7_valueAt 5 (some .int) A D Y tp dp RX7 := C
  refine cg_lv (lv' := [(0, .ref x0), (1, .ref x1), (2, .int x2)]) rfl ?_
  unfold k_X7_valueAt at h
  refine cg_iconst C (x := nI 0) rfl dX7_valueAt_0 ?_
  refine cg_istore_n C (i := 3) (lv' := [(3, .int ((nI 0))), (0, .ref x0), (1, .ref x1), (2, .int x2)]) rfl (Nat.le_of_ble_eq_true rfl) rfl dX7_valueAt_1 ?_
  exact cg_sub [1, 2, 3, 0] rfl (tl_X7_valueAt_2 C   x0 x1 x2 (((nI 0))) S h)
def k_X1_entryOf_167 (Q : Int32 → cS → Prop) (dp : Nat) (R123 : Nat → Nat → Nat → Int32 → Int32 → cS → Prop) (x0 : Nat) (x1 : Nat) (x3 : Nat) (x4 : Int32) (x5 : Int32) (t0 : Int32) (t1 : Int32) (t2 : Nat) (S : cS) : Prop :=
cX S t2 14 t1 ∧ (∀ S14 : cS, S14 = cSI S t2 (t1).toNatClampNeg t0 → ∀ x5_15 : Int32, x5_15 = x5 + nI 1 → R123 x0 x1 x3 x4 x5_15 S14)
def k_X1_entryOf_123 (Q : Int32 → cS → Prop) (dp : Nat) (R123 : Nat → Nat → Nat → Int32 → Int32 → cS → Prop) (x0 : Nat) (x1 : Nat) (x3 : Nat) (x4 : Int32) (x5 : Int32) (S : cS) : Prop :=
cA S x3 8 ∧ (k_X8_size (fun r_9 S_9 => 
((r_9 ≤ x5 →
  Q x4 S_9) ∧
 (¬ r_9 ≤ x5 →
  ((((nI 100)) ≤ x5 →
    Q x4 S_9) ∧
   (¬ ((nI 100)) ≤ x5 →
    cA S_9 x0 1 ∧ ((∃ b10 : Nat, cr S_9 43 x0 = some b10 ∧ (cX S_9 b10 18 x4 ∧ ((∃ b11 : Nat, cO S_9 b10 (x4).toNatClampNeg = some b11 ∧ (cA S_9 x0 1 ∧ ((∃ b12 : Nat, cr S_9 32 x0 = some b12 ∧ (cA S_9 b12 7 ∧ (k_X7_valueAt (fun r_13 S_13 => 
    ((¬ r_13 = (((-1))) →
      k_X1_entryOf_167 Q dp R123 x0 x1 x3 x4 x5 ((nI 1)) x5 b11 S_13) ∧
     (r_13 = (((-1))) →
      k_X1_entryOf_167 Q dp R123 x0 x1 x3 x4 x5 ((nI 0)) x5 b11 S_13))) dp b12 x1 x5 S_9))))))))))))))) dp x3 S)
def k_X1_entryOf_123L (Q : Int32 → cS → Prop) (dp : Nat)  (x0 : Nat) (x1 : Nat) (x3 : Nat) (x4 : Int32) (x5 : Int32) (S : cS) : Prop :=
  lfp (X := Nat × Nat × Nat × Int32 × Int32 × cS) (fun P y => k_X1_entryOf_123 Q dp  (fun b0 b1 b2 b3 b4 S => P (b0, b1, b2, b3, b4, S)) y.1 y.2.1 y.2.2.1 y.2.2.2.1 y.2.2.2.2.1 y.2.2.2.2.2) (x0, x1, x3, x4, x5, S)
def k_X1_entryOf_84 (Q : Int32 → cS → Prop) (dp : Nat)  (x0 : Nat) (x1 : Nat) (x2 : Int32) (x3 : Nat) (S : cS) : Prop :=
cA S x0 1 ∧ (k_X1_freeEntry (fun r_2 S_2 => 
cA S_2 x0 1 ∧ ((∃ b3 : Nat, cr S_2 40 x0 = some b3 ∧ (cX S_2 b3 14 r_2 ∧ (∀ S4 : cS, S4 = cSI S_2 b3 (r_2).toNatClampNeg x2 → cA S4 x0 1 ∧ ((∃ b5 : Nat, cr S4 41 x0 = some b5 ∧ (cA S4 x3 8 ∧ (cX S4 b5 14 r_2 ∧ (∀ S6 : cS, S6 = cSI S4 b5 (r_2).toNatClampNeg ((ci S4 256 x3)) → cA S6 x0 1 ∧ ((∃ b7 : Nat, cr S6 42 x0 = some b7 ∧ (cA S6 x0 1 ∧ (cX S6 b7 14 r_2 ∧ (∀ S8 : cS, S8 = cSI S6 b7 (r_2).toNatClampNeg ((ci S6 39 x0)) → k_X1_entryOf_123L Q dp  x0 x1 x3 r_2 (((nI 0))) S8))))))))))))))) dp x0 S)
def k_X1_entryOf_78 (Q : Int32 → cS → Prop) (dp : Nat) (R13 : Nat → Nat → Int32 → Nat → Int32 → cS → Prop) (x0 : Nat) (x1 : Nat) (x2 : Int32) (x3 : Nat) (x4 : Int32) (S : cS) : Prop :=
∀ x4_17 : Int32, x4_17 = x4 + nI 1 → R13 x0 x1 x2 x3 x4_17 S
def k_X1_entryOf_13 (Q : Int32 → cS → Prop) (dp : Nat) (R13 : Nat → Nat → Int32 → Nat → Int32 → cS → Prop) (x0 : Nat) (x1 : Nat) (x2 : Int32) (x3 : Nat) (x4 : Int32) (S : cS) : Prop :=
cA S x0 1 ∧ (((((ci S 38 x0)) ≤ x4 →
  k_X1_entryOf_84 Q dp  x0 x1 x2 x3 S) ∧
 (¬ ((ci S 38 x0)) ≤ x4 →
  ((((nI 8)) ≤ x4 →
    k_X1_entryOf_84 Q dp  x0 x1 x2 x3 S) ∧
   (¬ ((nI 8)) ≤ x4 →
    cA S x0 1 ∧ ((∃ b16 : Nat, cr S 40 x0 = some b16 ∧ (cX S b16 14 x4 ∧ (((¬ ((cI S b16 (x4).toNatClampNeg)) = x2 →
      k_X1_entryOf_78 Q dp R13 x0 x1 x2 x3 x4 S) ∧
     (((cI S b16 (x4).toNatClampNeg)) = x2 →
      cA S x0 1 ∧ ((∃ b18 : Nat, cr S 41 x0 = some b18 ∧ (cX S b18 14 x4 ∧ (cA S x3 8 ∧ (((¬ ((cI S b18 (x4).toNatClampNeg)) = ((ci S 256 x3)) →
        k_X1_entryOf_78 Q dp R13 x0 x1 x2 x3 x4 S) ∧
       (((cI S b18 (x4).toNatClampNeg)) = ((ci S 256 x3)) →
        cA S x0 1 ∧ (cA S x0 1 ∧ (∀ S19 : cS, S19 = cSi S 37 x0 ((((ci S 37 x0)) + ((nI 1)))) → cA S19 x0 1 ∧ ((∃ b20 : Nat, cr S19 42 x0 = some b20 ∧ (cA S19 x0 1 ∧ (cX S19 b20 14 x4 ∧ (∀ S21 : cS, S21 = cSI S19 b20 (x4).toNatClampNeg ((ci S19 39 x0)) → Q x4 S21)))))))))))))))))))))))))
def k_X1_entryOf_13L (Q : Int32 → cS → Prop) (dp : Nat)  (x0 : Nat) (x1 : Nat) (x2 : Int32) (x3 : Nat) (x4 : Int32) (S : cS) : Prop :=
  lfp (X := Nat × Nat × Int32 × Nat × Int32 × cS) (fun P y => k_X1_entryOf_13 Q dp  (fun b0 b1 b2 b3 b4 S => P (b0, b1, b2, b3, b4, S)) y.1 y.2.1 y.2.2.1 y.2.2.2.1 y.2.2.2.2.1 y.2.2.2.2.2) (x0, x1, x2, x3, x4, S)
def k_X1_entryOf (Q : Int32 → cS → Prop) (dp : Nat) (x0 : Nat) (x1 : Nat) (x2 : Int32) (x3 : Nat) (S : cS) : Prop :=
cA S x0 1 ∧ (cA S x0 1 ∧ (∀ S1 : cS, S1 = cSi S 39 x0 ((((ci S 39 x0)) + ((nI 1)))) → k_X1_entryOf_13L Q dp  x0 x1 x2 x3 (((nI 0))) S1))
section S_X1_entryOf
variable {p : Program} {l : Launch} {e : Env} {s : State} {m : MethodId} {args : Array Value} {below : List Frame} {meth : Method} {c : Code} {A : Nat → Prop} {D : va_G} {Y : cY} {tp dp : Nat}
set_option maxRecDepth 20000 in
theorem tb_X1_entryOf_167 (C : cC p s m args meth c cX1_entryOf 6 (some .int) A D Y tp dp RX1) {post : Int32 → cS → Prop} {R123 : Nat → Nat → Nat → Int32 → Int32 → cS → Prop} (hR123 : ∀ (x0 : Nat) (x1 : Nat) (x3 : Nat) (x4 : Int32) (x5 : Int32) (S : cS), R123 x0 x1 x3 x4 x5 S → cG p l e (cRm 5 0 0 113) s m args below meth c A D Y 6 (MQ below (cQi post D Y A) args s 0 0 A) 0 0 123 [(0, .ref x0), (1, .ref x1), (3, .ref x3), (4, .int x4), (5, .int x5)] [] S) (x0 : Nat) (x1 : Nat) (x3 : Nat) (x4 : Int32) (x5 : Int32) (t0 : Int32) (t1 : Int32) (t2 : Nat) (S : cS) (h : k_X1_entryOf_167 post dp R123 x0 x1 x3 x4 x5 t0 t1 t2 S) : cG p l e (cRm 5 0 0 113) s m args below meth c A D Y 6 (MQ below (cQi post D Y A) args s 0 0 A) 0 0 167 [(0, .ref x0), (1, .ref x1), (3, .ref x3), (4, .int x4), (5, .int x5)] [.int t0, .int t1, .ref t2] S := by
  unfold k_X1_entryOf_167 at h
  obtain ⟨hc_167, h⟩ := h
  refine cg_iastoreR C hc_167 dX1_entryOf_167 ?_
  refine cg_nm (fun S14 e_S14 => ?_)
  have h := h S14 e_S14
  obtain ⟨x5_15, e_x5_15⟩ : ∃ z : Int32, z = x5 + nI 1 := ⟨_, rfl⟩
  have h := h x5_15 e_x5_15
  refine cg_iinc C (lv' := [(5, .int x5_15), (0, .ref x0), (1, .ref x1), (3, .ref x3), (4, .int x4)]) 4 rfl (by rw [e_x5_15]; rfl) (Nat.le_of_ble_eq_true rfl) rfl dX1_entryOf_168 ?_
  refine cg_goto C 123 (by decide) dX1_entryOf_171 ?_
  exact cg_sub [1, 2, 3, 4, 0] rfl (hR123 x0 x1 x3 x4 x5_15 S14 h)
set_option maxRecDepth 20000 in
theorem tb_X1_entryOf_123 (C : cC p s m args meth c cX1_entryOf 6 (some .int) A D Y tp dp RX1) {post : Int32 → cS → Prop} {R123 : Nat → Nat → Nat → Int32 → Int32 → cS → Prop} (hR123 : ∀ (x0 : Nat) (x1 : Nat) (x3 : Nat) (x4 : Int32) (x5 : Int32) (S : cS), R123 x0 x1 x3 x4 x5 S → cG p l e (cRm 5 0 0 113) s m args below meth c A D Y 6 (MQ below (cQi post D Y A) args s 0 0 A) 0 0 123 [(0, .ref x0), (1, .ref x1), (3, .ref x3), (4, .int x4), (5, .int x5)] [] S) (x0 : Nat) (x1 : Nat) (x3 : Nat) (x4 : Int32) (x5 : Int32) (S : cS) (h : k_X1_entryOf_123 post dp R123 x0 x1 x3 x4 x5 S) : cG p l e (cRm 5 0 0 113) s m args below meth c A D Y 6 (MQ below (cQi post D Y A) args s 0 0 A) 0 0 123 [(0, .ref x0), (1, .ref x1), (3, .ref x3), (4, .int x4), (5, .int x5)] [] S := by
  unfold k_X1_entryOf_123 at h
  refine cg_iload C 4 rfl dX1_entryOf_123 ?_
  refine cg_aload_n C (i := 3) rfl 2 rfl dX1_entryOf_125 ?_
  obtain ⟨hc_126, h⟩ := h
  refine cg_calli C (t_X8_size l x3 S dp h) cc_X1_92 hc_126.1 hc_126.2 (by decide) rfl rfl ⟨by decide, by decide⟩ ⟨by decide, by decide⟩ rfl (Nat.le_of_ble_eq_true rfl) dX1_entryOf_126 (fun r_9 S_9 h => ?_)
  refine cg_icmp_ge C 174 (by decide) dX1_entryOf_129 (fun c_ => ?_) (fun c_ => ?_)
  · have h := h.1 c_
    refine cg_iload C 3 rfl dX1_entryOf_174 ?_
    exact cg_iret C h dX1_entryOf_176 (by decide) (by decide)
  · have h := h.2 c_
    refine cg_iload C 4 rfl dX1_entryOf_132 ?_
    refine cg_bipush C (x := nI 100) rfl dX1_entryOf_134 ?_
    refine cg_icmp_ge C 174 (by decide) dX1_entryOf_136 (fun c_ => ?_) (fun c_ => ?_)
    · have h := h.1 c_
      refine cg_iload C 3 rfl dX1_entryOf_174 ?_
      exact cg_iret C h dX1_entryOf_176 (by decide) (by decide)
    · have h := h.2 c_
      refine cg_aload_n C (i := 0) rfl 0 rfl dX1_entryOf_139 ?_
      obtain ⟨hc_140, h⟩ := h
      obtain ⟨b10, hb_b10, h⟩ := h
      refine cg_get C (k := 1) (j := 11) (.ref b10) hc_140.1 hc_140.2 (by decide) rfl (by decide) rfl (show cV _ 1 11 x0 = _ from congrArg va_rf hb_b10) cWs_wsX10 cl_X1_45 rfl dX1_entryOf_140 ?_
      refine cg_iload C 3 rfl dX1_entryOf_143 ?_
      obtain ⟨hc_145, h⟩ := h
      obtain ⟨b11, hb_b11, h⟩ := h
      refine cg_aaload2R C hc_145 hb_b11 dX1_entryOf_145 ?_
      refine cg_iload C 4 rfl dX1_entryOf_146 ?_
      refine cg_aload_n C (i := 0) rfl 0 rfl dX1_entryOf_148 ?_
      obtain ⟨hc_149, h⟩ := h
      obtain ⟨b12, hb_b12, h⟩ := h
      refine cg_get C (k := 1) (j := 0) (.ref b12) hc_149.1 hc_149.2 (by decide) rfl (by decide) rfl (show cV _ 1 0 x0 = _ from congrArg va_rf hb_b12) cWs_wsX10 cl_X1_54 rfl dX1_entryOf_149 ?_
      refine cg_aload_n C (i := 1) rfl 1 rfl dX1_entryOf_152 ?_
      refine cg_iload C 4 rfl dX1_entryOf_153 ?_
      obtain ⟨hc_155, h⟩ := h
      refine cg_calli C (t_X7_valueAt l b12 x1 x5 S_9 dp h) cc_X1_124 hc_155.1 hc_155.2 (by decide) rfl rfl ⟨by decide, by decide⟩ ⟨by decide, by decide⟩ rfl (Nat.le_of_ble_eq_true rfl) dX1_entryOf_155 (fun r_13 S_13 h => ?_)
      refine cg_iconst C (x := (-1)) rfl dX1_entryOf_158 ?_
      refine cg_icmp_ne C 166 (by decide) dX1_entryOf_159 (fun c_ => ?_) (fun c_ => ?_)
      · have h := h.1 c_
        refine cg_iconst C (x := nI 1) rfl dX1_entryOf_166 ?_
        exact cg_sub [0, 1, 2, 3, 4] rfl (tb_X1_entryOf_167 C  hR123 x0 x1 x3 x4 x5 ((nI 1)) x5 b11 S_13 h)
      · have h := h.2 c_
        refine cg_iconst C (x := nI 0) rfl dX1_entryOf_162 ?_
        refine cg_goto C 167 (by decide) dX1_entryOf_163 ?_
        exact cg_sub [0, 1, 2, 3, 4] rfl (tb_X1_entryOf_167 C  hR123 x0 x1 x3 x4 x5 ((nI 0)) x5 b11 S_13 h)
set_option maxRecDepth 20000 in
theorem tl_X1_entryOf_123 (C : cC p s m args meth c cX1_entryOf 6 (some .int) A D Y tp dp RX1) {post : Int32 → cS → Prop}   (x0 : Nat) (x1 : Nat) (x3 : Nat) (x4 : Int32) (x5 : Int32) (S : cS) (h : k_X1_entryOf_123L post dp  x0 x1 x3 x4 x5 S) : cG p l e (cRm 5 0 0 113) s m args below meth c A D Y 6 (MQ below (cQi post D Y A) args s 0 0 A) 0 0 123 [(0, .ref x0), (1, .ref x1), (3, .ref x3), (4, .int x4), (5, .int x5)] [] S :=
  h (fun y => cG p l e (cRm 5 0 0 113) s m args below meth c A D Y 6 (MQ below (cQi post D Y A) args s 0 0 A) 0 0 123 [(0, .ref (y.1)), (1, .ref (y.2.1)), (3, .ref (y.2.2.1)), (4, .int (y.2.2.2.1)), (5, .int (y.2.2.2.2.1))] [] (y.2.2.2.2.2)) (fun y hy => tb_X1_entryOf_123 C   (fun b0 b1 b2 b3 b4 S z => z) (y.1) (y.2.1) (y.2.2.1) (y.2.2.2.1) (y.2.2.2.2.1) (y.2.2.2.2.2) hy)
set_option maxRecDepth 20000 in
theorem tb_X1_entryOf_84 (C : cC p s m args meth c cX1_entryOf 6 (some .int) A D Y tp dp RX1) {post : Int32 → cS → Prop}   (x0 : Nat) (x1 : Nat) (x2 : Int32) (x3 : Nat) (S : cS) (h : k_X1_entryOf_84 post dp  x0 x1 x2 x3 S) : cG p l e (cRm 5 0 0 113) s m args below meth c A D Y 6 (MQ below (cQi post D Y A) args s 0 0 A) 0 0 84 [(0, .ref x0), (1, .ref x1), (2, .int x2), (3, .ref x3)] [] S := by
  unfold k_X1_entryOf_84 at h
  refine cg_aload_n C (i := 0) rfl 0 rfl dX1_entryOf_84 ?_
  obtain ⟨hc_85, h⟩ := h
  refine cg_calli C (t_X1_freeEntry l x0 S dp h) cc_X1_135 hc_85.1 hc_85.2 (by decide) rfl rfl ⟨by decide, by decide⟩ ⟨by decide, by decide⟩ rfl (Nat.le_of_ble_eq_true rfl) dX1_entryOf_85 (fun r_2 S_2 h => ?_)
  refine cg_istore C (lv' := [(4, .int r_2), (0, .ref x0), (1, .ref x1), (2, .int x2), (3, .ref x3)]) (Nat.le_of_ble_eq_true rfl) rfl dX1_entryOf_88 ?_
  refine cg_aload_n C (i := 0) rfl 1 rfl dX1_entryOf_90 ?_
  obtain ⟨hc_91, h⟩ := h
  obtain ⟨b3, hb_b3, h⟩ := h
  refine cg_get C (k := 1) (j := 8) (.ref b3) hc_91.1 hc_91.2 (by decide) rfl (by decide) rfl (show cV _ 1 8 x0 = _ from congrArg va_rf hb_b3) cWs_wsX10 cl_X1_34 rfl dX1_entryOf_91 ?_
  refine cg_iload C 0 rfl dX1_entryOf_94 ?_
  refine cg_iload_n C (i := 2) rfl 3 rfl dX1_entryOf_96 ?_
  obtain ⟨hc_97, h⟩ := h
  refine cg_iastoreR C hc_97 dX1_entryOf_97 ?_
  refine cg_nm (fun S4 e_S4 => ?_)
  have h := h S4 e_S4
  refine cg_aload_n C (i := 0) rfl 1 rfl dX1_entryOf_98 ?_
  obtain ⟨hc_99, h⟩ := h
  obtain ⟨b5, hb_b5, h⟩ := h
  refine cg_get C (k := 1) (j := 9) (.ref b5) hc_99.1 hc_99.2 (by decide) rfl (by decide) rfl (show cV _ 1 9 x0 = _ from congrArg va_rf hb_b5) cWs_wsX10 cl_X1_37 rfl dX1_entryOf_99 ?_
  refine cg_iload C 0 rfl dX1_entryOf_102 ?_
  refine cg_aload_n C (i := 3) rfl 4 rfl dX1_entryOf_104 ?_
  obtain ⟨hc_105, h⟩ := h
  refine cg_get C (k := 8) (j := 0) (.int (ci S4 256 x3)) hc_105.1 hc_105.2 (by decide) rfl (by decide) rfl rfl cWs_wsX80 cl_X1_132 rfl dX1_entryOf_105 ?_
  obtain ⟨hc_108, h⟩ := h
  refine cg_iastoreR C hc_108 dX1_entryOf_108 ?_
  refine cg_nm (fun S6 e_S6 => ?_)
  have h := h S6 e_S6
  refine cg_aload_n C (i := 0) rfl 1 rfl dX1_entryOf_109 ?_
  obtain ⟨hc_110, h⟩ := h
  obtain ⟨b7, hb_b7, h⟩ := h
  refine cg_get C (k := 1) (j := 10) (.ref b7) hc_110.1 hc_110.2 (by decide) rfl (by decide) rfl (show cV _ 1 10 x0 = _ from congrArg va_rf hb_b7) cWs_wsX10 cl_X1_40 rfl dX1_entryOf_110 ?_
  refine cg_iload C 0 rfl dX1_entryOf_113 ?_
  refine cg_aload_n C (i := 0) rfl 1 rfl dX1_entryOf_115 ?_
  obtain ⟨hc_116, h⟩ := h
  refine cg_get C (k := 1) (j := 7) (.int (ci S6 39 x0)) hc_116.1 hc_116.2 (by decide) rfl (by decide) rfl rfl cWs_wsX10 cl_X1_31 rfl dX1_entryOf_116 ?_
  obtain ⟨hc_119, h⟩ := h
  refine cg_iastoreR C hc_119 dX1_entryOf_119 ?_
  refine cg_nm (fun S8 e_S8 => ?_)
  have h := h S8 e_S8
  refine cg_iconst C (x := nI 0) rfl dX1_entryOf_120 ?_
  refine cg_istore C (lv' := [(5, .int ((nI 0))), (4, .int r_2), (0, .ref x0), (1, .ref x1), (2, .int x2), (3, .ref x3)]) (Nat.le_of_ble_eq_true rfl) rfl dX1_entryOf_121 ?_
  exact cg_sub [2, 3, 5, 1, 0] rfl (tl_X1_entryOf_123 C   x0 x1 x3 r_2 (((nI 0))) S8 h)
set_option maxRecDepth 20000 in
theorem tb_X1_entryOf_78 (C : cC p s m args meth c cX1_entryOf 6 (some .int) A D Y tp dp RX1) {post : Int32 → cS → Prop} {R13 : Nat → Nat → Int32 → Nat → Int32 → cS → Prop} (hR13 : ∀ (x0 : Nat) (x1 : Nat) (x2 : Int32) (x3 : Nat) (x4 : Int32) (S : cS), R13 x0 x1 x2 x3 x4 S → cG p l e (cRm 5 0 0 113) s m args below meth c A D Y 6 (MQ below (cQi post D Y A) args s 0 0 A) 0 0 13 [(0, .ref x0), (1, .ref x1), (2, .int x2), (3, .ref x3), (4, .int x4)] [] S) (x0 : Nat) (x1 : Nat) (x2 : Int32) (x3 : Nat) (x4 : Int32) (S : cS) (h : k_X1_entryOf_78 post dp R13 x0 x1 x2 x3 x4 S) : cG p l e (cRm 5 0 0 113) s m args below meth c A D Y 6 (MQ below (cQi post D Y A) args s 0 0 A) 0 0 78 [(0, .ref x0), (1, .ref x1), (2, .int x2), (3, .ref x3), (4, .int x4)] [] S := by
  unfold k_X1_entryOf_78 at h
  obtain ⟨x4_17, e_x4_17⟩ : ∃ z : Int32, z = x4 + nI 1 := ⟨_, rfl⟩
  have h := h x4_17 e_x4_17
  refine cg_iinc C (lv' := [(4, .int x4_17), (0, .ref x0), (1, .ref x1), (2, .int x2), (3, .ref x3)]) 4 rfl (by rw [e_x4_17]; rfl) (Nat.le_of_ble_eq_true rfl) rfl dX1_entryOf_78 ?_
  refine cg_goto C 13 (by decide) dX1_entryOf_81 ?_
  exact cg_sub [1, 2, 3, 4, 0] rfl (hR13 x0 x1 x2 x3 x4_17 S h)
set_option maxRecDepth 20000 in
theorem tb_X1_entryOf_13 (C : cC p s m args meth c cX1_entryOf 6 (some .int) A D Y tp dp RX1) {post : Int32 → cS → Prop} {R13 : Nat → Nat → Int32 → Nat → Int32 → cS → Prop} (hR13 : ∀ (x0 : Nat) (x1 : Nat) (x2 : Int32) (x3 : Nat) (x4 : Int32) (S : cS), R13 x0 x1 x2 x3 x4 S → cG p l e (cRm 5 0 0 113) s m args below meth c A D Y 6 (MQ below (cQi post D Y A) args s 0 0 A) 0 0 13 [(0, .ref x0), (1, .ref x1), (2, .int x2), (3, .ref x3), (4, .int x4)] [] S) (x0 : Nat) (x1 : Nat) (x2 : Int32) (x3 : Nat) (x4 : Int32) (S : cS) (h : k_X1_entryOf_13 post dp R13 x0 x1 x2 x3 x4 S) : cG p l e (cRm 5 0 0 113) s m args below meth c A D Y 6 (MQ below (cQi post D Y A) args s 0 0 A) 0 0 13 [(0, .ref x0), (1, .ref x1), (2, .int x2), (3, .ref x3), (4, .int x4)] [] S := by
  unfold k_X1_entryOf_13 at h
  refine cg_iload C 4 rfl dX1_entryOf_13 ?_
  refine cg_aload_n C (i := 0) rfl 0 rfl dX1_entryOf_15 ?_
  obtain ⟨hc_16, h⟩ := h
  refine cg_get C (k := 1) (j := 6) (.int (ci S 38 x0)) hc_16.1 hc_16.2 (by decide) rfl (by decide) rfl rfl cWs_wsX10 cl_X1_28 rfl dX1_entryOf_16 ?_
  refine cg_icmp_ge C 84 (by decide) dX1_entryOf_19 (fun c_ => ?_) (fun c_ => ?_)
  · have h := h.1 c_
    exact cg_sub [0, 1, 2, 3] rfl (tb_X1_entryOf_84 C   x0 x1 x2 x3 S h)
  · have h := h.2 c_
    refine cg_iload C 4 rfl dX1_entryOf_22 ?_
    refine cg_bipush C (x := nI 8) rfl dX1_entryOf_24 ?_
    refine cg_icmp_ge C 84 (by decide) dX1_entryOf_26 (fun c_ => ?_) (fun c_ => ?_)
    · have h := h.1 c_
      exact cg_sub [0, 1, 2, 3] rfl (tb_X1_entryOf_84 C   x0 x1 x2 x3 S h)
    · have h := h.2 c_
      refine cg_aload_n C (i := 0) rfl 0 rfl dX1_entryOf_29 ?_
      obtain ⟨hc_30, h⟩ := h
      obtain ⟨b16, hb_b16, h⟩ := h
      refine cg_get C (k := 1) (j := 8) (.ref b16) hc_30.1 hc_30.2 (by decide) rfl (by decide) rfl (show cV _ 1 8 x0 = _ from congrArg va_rf hb_b16) cWs_wsX10 cl_X1_34 rfl dX1_entryOf_30 ?_
      refine cg_iload C 4 rfl dX1_entryOf_33 ?_
      obtain ⟨hc_35, h⟩ := h
      refine cg_ialoadR C hc_35 dX1_entryOf_35 ?_
      refine cg_iload_n C (i := 2) rfl 2 rfl dX1_entryOf_36 ?_
      refine cg_icmp_ne C 78 (by decide) dX1_entryOf_37 (fun c_ => ?_) (fun c_ => ?_)
      · have h := h.1 c_
        exact cg_sub [0, 1, 2, 3, 4] rfl (tb_X1_entryOf_78 C  hR13 x0 x1 x2 x3 x4 S h)
      · have h := h.2 c_
        refine cg_aload_n C (i := 0) rfl 0 rfl dX1_entryOf_40 ?_
        obtain ⟨hc_41, h⟩ := h
        obtain ⟨b18, hb_b18, h⟩ := h
        refine cg_get C (k := 1) (j := 9) (.ref b18) hc_41.1 hc_41.2 (by decide) rfl (by decide) rfl (show cV _ 1 9 x0 = _ from congrArg va_rf hb_b18) cWs_wsX10 cl_X1_37 rfl dX1_entryOf_41 ?_
        refine cg_iload C 4 rfl dX1_entryOf_44 ?_
        obtain ⟨hc_46, h⟩ := h
        refine cg_ialoadR C hc_46 dX1_entryOf_46 ?_
        refine cg_aload_n C (i := 3) rfl 3 rfl dX1_entryOf_47 ?_
        obtain ⟨hc_48, h⟩ := h
        refine cg_get C (k := 8) (j := 0) (.int (ci S 256 x3)) hc_48.1 hc_48.2 (by decide) rfl (by decide) rfl rfl cWs_wsX80 cl_X1_132 rfl dX1_entryOf_48 ?_
        refine cg_icmp_ne C 78 (by decide) dX1_entryOf_51 (fun c_ => ?_) (fun c_ => ?_)
        · have h := h.1 c_
          exact cg_sub [0, 1, 2, 3, 4] rfl (tb_X1_entryOf_78 C  hR13 x0 x1 x2 x3 x4 S h)
        · have h := h.2 c_
          refine cg_aload_n C (i := 0) rfl 0 rfl dX1_entryOf_54 ?_
          refine cg_dup C rfl dX1_entryOf_55 ?_
          obtain ⟨hc_56, h⟩ := h
          refine cg_get C (k := 1) (j := 5) (.int (ci S 37 x0)) hc_56.1 hc_56.2 (by decide) rfl (by decide) rfl rfl cWs_wsX10 cl_X1_25 rfl dX1_entryOf_56 ?_
          refine cg_iconst C (x := nI 1) rfl dX1_entryOf_59 ?_
          refine cg_iadd C dX1_entryOf_60 ?_
          obtain ⟨hc_61, h⟩ := h
          refine cg_puti C (k := 1) (j := 5) (ty := tyX1) (fty := .int) hc_61.1 hc_61.2 (by decide) rfl (by decide) rfl (by decide) rfl cWs_wsX10 tyX1_ok nmX1 cl_X1_25 rfl rfl rfl rfl rfl dX1_entryOf_61 ?_
          refine cg_nm (fun S19 e_S19 => ?_)
          have h := h S19 e_S19
          refine cg_aload_n C (i := 0) rfl 0 rfl dX1_entryOf_64 ?_
          obtain ⟨hc_65, h⟩ := h
          obtain ⟨b20, hb_b20, h⟩ := h
          refine cg_get C (k := 1) (j := 10) (.ref b20) hc_65.1 hc_65.2 (by decide) rfl (by decide) rfl (show cV _ 1 10 x0 = _ from congrArg va_rf hb_b20) cWs_wsX10 cl_X1_40 rfl dX1_entryOf_65 ?_
          refine cg_iload C 4 rfl dX1_entryOf_68 ?_
          refine cg_aload_n C (i := 0) rfl 0 rfl dX1_entryOf_70 ?_
          obtain ⟨hc_71, h⟩ := h
          refine cg_get C (k := 1) (j := 7) (.int (ci S19 39 x0)) hc_71.1 hc_71.2 (by decide) rfl (by decide) rfl rfl cWs_wsX10 cl_X1_31 rfl dX1_entryOf_71 ?_
          obtain ⟨hc_74, h⟩ := h
          refine cg_iastoreR C hc_74 dX1_entryOf_74 ?_
          refine cg_nm (fun S21 e_S21 => ?_)
          have h := h S21 e_S21
          refine cg_iload C 4 rfl dX1_entryOf_75 ?_
          exact cg_iret C h dX1_entryOf_77 (by decide) (by decide)
set_option maxRecDepth 20000 in
theorem tl_X1_entryOf_13 (C : cC p s m args meth c cX1_entryOf 6 (some .int) A D Y tp dp RX1) {post : Int32 → cS → Prop}   (x0 : Nat) (x1 : Nat) (x2 : Int32) (x3 : Nat) (x4 : Int32) (S : cS) (h : k_X1_entryOf_13L post dp  x0 x1 x2 x3 x4 S) : cG p l e (cRm 5 0 0 113) s m args below meth c A D Y 6 (MQ below (cQi post D Y A) args s 0 0 A) 0 0 13 [(0, .ref x0), (1, .ref x1), (2, .int x2), (3, .ref x3), (4, .int x4)] [] S :=
  h (fun y => cG p l e (cRm 5 0 0 113) s m args below meth c A D Y 6 (MQ below (cQi post D Y A) args s 0 0 A) 0 0 13 [(0, .ref (y.1)), (1, .ref (y.2.1)), (2, .int (y.2.2.1)), (3, .ref (y.2.2.2.1)), (4, .int (y.2.2.2.2.1))] [] (y.2.2.2.2.2)) (fun y hy => tb_X1_entryOf_13 C   (fun b0 b1 b2 b3 b4 S z => z) (y.1) (y.2.1) (y.2.2.1) (y.2.2.2.1) (y.2.2.2.2.1) (y.2.2.2.2.2) hy)
end S_X1_entryOf
set_option maxHeartbeats 1000000 in
set_option maxRecDepth 20000 in
theorem t_X1_entryOf (l : Launch) (x0 : Nat) (x1 : Nat) (x2 : Int32) (x3 : Nat) (S : cS) (dp : Nat) {P : Int32 → cS → Prop} (h : k_X1_entryOf P dp x0 x1 x2 x3 S) : cMet (cQi P) l yX1_entryOf cX1_entryOf 6 (some .int) 5 0 0 113 [.ref x0, .ref x1, .int x2, .ref x3] S dp := by
  intro D Y tp sz
  refine cg_body (by decide +kernel) (Nat.le_of_ble_eq_true rfl) ?_
  intro p e s m args below meth c C
  generalize va_A (cWd Y S) sz = A at C ⊢
  have C : cC p s m args meth c cX1_entryOf 6 (some .int) A D Y tp dp RX1 := C
  refine cg_lv (lv' := [(0, .ref x0), (1, .ref x1), (2, .int x2), (3, .ref x3)]) rfl ?_
  unfold k_X1_entryOf at h
  refine cg_aload_n C (i := 0) rfl 0 rfl dX1_entryOf_0 ?_
  refine cg_dup C rfl dX1_entryOf_1 ?_
  obtain ⟨hc_2, h⟩ := h
  refine cg_get C (k := 1) (j := 7) (.int (ci S 39 x0)) hc_2.1 hc_2.2 (by decide) rfl (by decide) rfl rfl cWs_wsX10 cl_X1_31 rfl dX1_entryOf_2 ?_
  refine cg_iconst C (x := nI 1) rfl dX1_entryOf_5 ?_
  refine cg_iadd C dX1_entryOf_6 ?_
  obtain ⟨hc_7, h⟩ := h
  refine cg_puti C (k := 1) (j := 7) (ty := tyX1) (fty := .int) hc_7.1 hc_7.2 (by decide) rfl (by decide) rfl (by decide) rfl cWs_wsX10 tyX1_ok nmX1 cl_X1_31 rfl rfl rfl rfl rfl dX1_entryOf_7 ?_
  refine cg_nm (fun S1 e_S1 => ?_)
  have h := h S1 e_S1
  refine cg_iconst C (x := nI 0) rfl dX1_entryOf_10 ?_
  refine cg_istore C (lv' := [(4, .int ((nI 0))), (0, .ref x0), (1, .ref x1), (2, .int x2), (3, .ref x3)]) (Nat.le_of_ble_eq_true rfl) rfl dX1_entryOf_11 ?_
  exact cg_sub [1, 2, 3, 4, 0] rfl (tl_X1_entryOf_13 C   x0 x1 x2 x3 (((nI 0))) S1 h)
