/-! the methods of the class as predicates, and their contracts -/
def k_X1_readPassages_26 (Q : Int32 → cS → Prop) (dp : Nat) (R26 : Nat → Int32 → Int32 → cS → Prop) (x0 : Nat) (x4 : Int32) (x5 : Int32) (S : cS) : Prop :=
((x4 = 0 →
  Q ((nI 0)) S) ∧
 (¬ x4 = 0 →
  ((((nI 4)) < x5 →
    Q ((nI 0)) S) ∧
   (¬ ((nI 4)) < x5 →
    cA S x0 1 ∧ ((∃ b5 : Nat, cr S 45 x0 = some b5 ∧ (cA S x0 1 ∧ ((∃ b6 : Nat, cr S 44 x0 = some b6 ∧ (k_X1_isCovered_v4 (fun r_7 S_7 => 
    ((r_7 = 0 →
      ∀ x5_8 : Int32, x5_8 = x5 + nI 1 → R26 x0 x4 x5_8 S_7) ∧
     (¬ r_7 = 0 →
      Q x5 S_7))) dp b5 b6 x4 ((nI 0)) x5 S))))))))))
def k_X1_readPassages_26L (Q : Int32 → cS → Prop) (dp : Nat)  (x0 : Nat) (x4 : Int32) (x5 : Int32) (S : cS) : Prop :=
  lfp (X := Nat × Int32 × Int32 × cS) (fun P y => k_X1_readPassages_26 Q dp  (fun b0 b1 b2 S => P (b0, b1, b2, S)) y.1 y.2.1 y.2.2.1 y.2.2.2) (x0, x4, x5, S)
def k_X1_readPassages (Q : Int32 → cS → Prop) (dp : Nat) (x0 : Nat) (x1 : Option Nat) (x2 : Nat) (x3 : Int32) (S : cS) : Prop :=
((x1 = none →
  Q ((nI 0)) S) ∧
 (∀ b1 : Nat, x1 = some b1 →
  cA S x0 1 ∧ ((∃ b2 : Nat, cr S 32 x0 = some b2 ∧ (cA S b2 7 ∧ (k_X7_scanDocument (fun S_3 => 
  cA S_3 x0 1 ∧ (k_X1_readSpots (fun r_4 S_4 => 
  k_X1_readPassages_26L Q dp  x0 r_4 (((nI 1))) S_4) dp x0 x2 x3 S_3)) dp b2 x2 b1 S))))))
section S_X1_readPassages
variable {p : Program} {l : Launch} {e : Env} {s : State} {m : MethodId} {args : Array Value} {below : List Frame} {meth : Method} {c : Code} {A : Nat → Prop} {D : va_G} {Y : cY} {tp dp : Nat}
set_option maxRecDepth 20000 in
theorem tb_X1_readPassages_26 (C : cC p s m args meth c cX1_readPassages 6 (some .int) A D Y tp dp RX1) {post : Int32 → cS → Prop} {R26 : Nat → Int32 → Int32 → cS → Prop} (hR26 : ∀ (x0 : Nat) (x4 : Int32) (x5 : Int32) (S : cS), R26 x0 x4 x5 S → cG p l e (cRm 6 0 0 149) s m args below meth c A D Y 6 (MQ below (cQi post D Y A) args s 0 0 A) 0 0 26 [(0, .ref x0), (4, .int x4), (5, .int x5)] [] S) (x0 : Nat) (x4 : Int32) (x5 : Int32) (S : cS) (h : k_X1_readPassages_26 post dp R26 x0 x4 x5 S) : cG p l e (cRm 6 0 0 149) s m args below meth c A D Y 6 (MQ below (cQi post D Y A) args s 0 0 A) 0 0 26 [(0, .ref x0), (4, .int x4), (5, .int x5)] [] S := by
  unfold k_X1_readPassages_26 at h
  refine cg_iload C 1 rfl dX1_readPassages_26 ?_
  refine cg_if_eq C 65 (by decide) dX1_readPassages_28 (fun c_ => ?_) (fun c_ => ?_)
  · have h := h.1 c_
    refine cg_iconst C (x := nI 0) rfl dX1_readPassages_65 ?_
    exact cg_iret C h dX1_readPassages_66 (by decide) (by decide)
  · have h := h.2 c_
    refine cg_iload C 2 rfl dX1_readPassages_31 ?_
    refine cg_iconst C (x := nI 4) rfl dX1_readPassages_33 ?_
    refine cg_icmp_gt C 65 (by decide) dX1_readPassages_34 (fun c_ => ?_) (fun c_ => ?_)
    · have h := h.1 c_
      refine cg_iconst C (x := nI 0) rfl dX1_readPassages_65 ?_
      exact cg_iret C h dX1_readPassages_66 (by decide) (by decide)
    · have h := h.2 c_
      refine cg_aload_n C (i := 0) rfl 0 rfl dX1_readPassages_37 ?_
      obtain ⟨hc_38, h⟩ := h
      obtain ⟨b5, hb_b5, h⟩ := h
      refine cg_get C (k := 1) (j := 13) (.ref b5) hc_38.1 hc_38.2 (by decide) rfl (by decide) rfl (show cV _ 1 13 x0 = _ from congrArg va_rf hb_b5) cWs_wsX10 cl_X1_51 rfl dX1_readPassages_38 ?_
      refine cg_aload_n C (i := 0) rfl 0 rfl dX1_readPassages_41 ?_
      obtain ⟨hc_42, h⟩ := h
      obtain ⟨b6, hb_b6, h⟩ := h
      refine cg_get C (k := 1) (j := 12) (.ref b6) hc_42.1 hc_42.2 (by decide) rfl (by decide) rfl (show cV _ 1 12 x0 = _ from congrArg va_rf hb_b6) cWs_wsX10 cl_X1_48 rfl dX1_readPassages_42 ?_
      refine cg_iload C 1 rfl dX1_readPassages_45 ?_
      refine cg_iconst C (x := nI 0) rfl dX1_readPassages_47 ?_
      refine cg_iload C 2 rfl dX1_readPassages_48 ?_
      refine cg_callsi C (t_X1_isCovered_v4 l b5 b6 x4 ((nI 0)) x5 S dp h) cc_X1_145 rfl ⟨by decide, by decide⟩ ⟨by decide, by decide⟩ rfl (Nat.le_of_ble_eq_true rfl) dX1_readPassages_50 (fun r_7 S_7 h => ?_)
      refine cg_if_eq C 59 (by decide) dX1_readPassages_53 (fun c_ => ?_) (fun c_ => ?_)
      · have h := h.1 c_
        obtain ⟨x5_8, e_x5_8⟩ : ∃ z : Int32, z = x5 + nI 1 := ⟨_, rfl⟩
        have h := h x5_8 e_x5_8
        refine cg_iinc C (lv' := [(5, .int x5_8), (0, .ref x0), (4, .int x4)]) 2 rfl (by rw [e_x5_8]; rfl) (Nat.le_of_ble_eq_true rfl) rfl dX1_readPassages_59 ?_
        refine cg_goto C 26 (by decide) dX1_readPassages_62 ?_
        exact cg_sub [1, 2, 0] rfl (hR26 x0 x4 x5_8 S_7 h)
      · have h := h.2 c_
        refine cg_iload C 2 rfl dX1_readPassages_56 ?_
        exact cg_iret C h dX1_readPassages_58 (by decide) (by decide)
set_option maxRecDepth 20000 in
theorem tl_X1_readPassages_26 (C : cC p s m args meth c cX1_readPassages 6 (some .int) A D Y tp dp RX1) {post : Int32 → cS → Prop}   (x0 : Nat) (x4 : Int32) (x5 : Int32) (S : cS) (h : k_X1_readPassages_26L post dp  x0 x4 x5 S) : cG p l e (cRm 6 0 0 149) s m args below meth c A D Y 6 (MQ below (cQi post D Y A) args s 0 0 A) 0 0 26 [(0, .ref x0), (4, .int x4), (5, .int x5)] [] S :=
  h (fun y => cG p l e (cRm 6 0 0 149) s m args below meth c A D Y 6 (MQ below (cQi post D Y A) args s 0 0 A) 0 0 26 [(0, .ref (y.1)), (4, .int (y.2.1)), (5, .int (y.2.2.1))] [] (y.2.2.2)) (fun y hy => tb_X1_readPassages_26 C   (fun b0 b1 b2 S z => z) (y.1) (y.2.1) (y.2.2.1) (y.2.2.2) hy)
end S_X1_readPassages
set_option maxHeartbeats 1000000 in
set_option maxRecDepth 20000 in
theorem t_X1_readPassages (l : Launch) (x0 : Nat) (x1 : Option Nat) (x2 : Nat) (x3 : Int32) (S : cS) (dp : Nat) {P : Int32 → cS → Prop} (h : k_X1_readPassages P dp x0 x1 x2 x3 S) : cMet (cQi P) l yX1_readPassages cX1_readPassages 6 (some .int) 6 0 0 149 [.ref x0, va_rf x1, .ref x2, .int x3] S dp := by
  unfold k_X1_readPassages at h
  obtain ho | ⟨b1, ho⟩ := c_opt x1
  · replace h := h.1 ho
    subst ho
    intro D Y tp sz
    refine cg_body (by decide +kernel) (Nat.le_of_ble_eq_true rfl) ?_
    intro p e s m args below meth c C
    generalize va_A (cWd Y S) sz = A at C ⊢
    have C : cC p s m args meth c cX1_readPassages 6 (some .int) A D Y tp dp RX1 := C
    refine cg_lv (lv' := [(0, .ref x0), (1, .null), (2, .ref x2), (3, .int x3)]) rfl ?_
    refine cg_aloadN_n C (i := 1) rfl 1 rfl dX1_readPassages_0 ?_
    refine cg_ifnonnullN C dX1_readPassages_1 ?_
    refine cg_iconst C (x := nI 0) rfl dX1_readPassages_4 ?_
    exact cg_iret C h dX1_readPassages_5 (by decide) (by decide)
  · replace h := h.2 b1 ho
    subst ho
    intro D Y tp sz
    refine cg_body (by decide +kernel) (Nat.le_of_ble_eq_true rfl) ?_
    intro p e s m args below meth c C
    generalize va_A (cWd Y S) sz = A at C ⊢
    have C : cC p s m args meth c cX1_readPassages 6 (some .int) A D Y tp dp RX1 := C
    refine cg_lv (lv' := [(0, .ref x0), (1, .ref b1), (2, .ref x2), (3, .int x3)]) rfl ?_
    refine cg_aload_n C (i := 1) rfl 1 rfl dX1_readPassages_0 ?_
    refine cg_ifnonnull C 6 (by decide) dX1_readPassages_1 ?_
    refine cg_aload_n C (i := 0) rfl 0 rfl dX1_readPassages_6 ?_
    obtain ⟨hc_7, h⟩ := h
    obtain ⟨b2, hb_b2, h⟩ := h
    refine cg_get C (k := 1) (j := 0) (.ref b2) hc_7.1 hc_7.2 (by decide) rfl (by decide) rfl (show cV _ 1 0 x0 = _ from congrArg va_rf hb_b2) cWs_wsX10 cl_X1_54 rfl dX1_readPassages_7 ?_
    refine cg_aload_n C (i := 2) rfl 2 rfl dX1_readPassages_10 ?_
    refine cg_aload_n C (i := 1) rfl 1 rfl dX1_readPassages_11 ?_
    obtain ⟨hc_12, h⟩ := h
    refine cg_callv C (t_X7_scanDocument l b2 x2 b1 S dp h) cc_X1_138 hc_12.1 hc_12.2 (by decide) rfl rfl ⟨by decide, by decide⟩ ⟨by decide, by decide⟩ rfl (Nat.le_of_ble_eq_true rfl) dX1_readPassages_12 (fun S_3 h => ?_)
    refine cg_aload_n C (i := 0) rfl 0 rfl dX1_readPassages_15 ?_
    refine cg_aload_n C (i := 2) rfl 2 rfl dX1_readPassages_16 ?_
    refine cg_iload_n C (i := 3) rfl 3 rfl dX1_readPassages_17 ?_
    obtain ⟨hc_18, h⟩ := h
    refine cg_calli C (t_X1_readSpots l x0 x2 x3 S_3 dp h) cc_X1_142 hc_18.1 hc_18.2 (by decide) rfl rfl ⟨by decide, by decide⟩ ⟨by decide, by decide⟩ rfl (Nat.le_of_ble_eq_true rfl) dX1_readPassages_18 (fun r_4 S_4 h => ?_)
    refine cg_istore C (lv' := [(4, .int r_4), (0, .ref x0), (1, .ref b1), (2, .ref x2), (3, .int x3)]) (Nat.le_of_ble_eq_true rfl) rfl dX1_readPassages_21 ?_
    refine cg_iconst C (x := nI 1) rfl dX1_readPassages_23 ?_
    refine cg_istore C (lv' := [(5, .int ((nI 1))), (4, .int r_4), (0, .ref x0), (1, .ref b1), (2, .ref x2), (3, .int x3)]) (Nat.le_of_ble_eq_true rfl) rfl dX1_readPassages_24 ?_
    exact cg_sub [2, 1, 0] rfl (tl_X1_readPassages_26 C   x0 r_4 (((nI 1))) S_4 h)
def k_X2_init (Q : cS → Prop) (dp : Nat) (mc ms : Nat) (x0 : Nat) (x1 : Nat) (S : cS) : Prop :=
cA S x0 2 ∧ (∀ S1 : cS, S1 = cSr S 64 x0 ((some x1)) → cA S1 x1 8 ∧ ((0 ≤ mc ∧ 0 ≤ ms) ∧ (k_X8_size (fun r_2 S_2 => 
(∃ n3 : Nat, r_2 = nI n3 ∧ n3 < 2 ^ 20 ∧ 0 + 1 ≤ mc ∧ 0 + n3 ≤ ms ∧ (∀ q4 : Nat, q4 ∉ cL S_2 → ∀ S5 : cS, S5 = cNewA S_2 q4 16 n3 → cA S5 x0 2 ∧ (∀ S6 : cS, S6 = cSr S5 65 x0 ((some q4)) → (0 + 1 ≤ mc ∧ 0 + n3 ≤ ms) ∧ (Q S6))))) dp x1 S1)))
set_option maxHeartbeats 1000000 in
set_option maxRecDepth 20000 in
theorem t_X2_init (l : Launch) (mc ms : Nat) (x0 : Nat) (x1 : Nat) (S : cS) (dp : Nat) {P : cS → Prop} (h : k_X2_init P dp mc ms x0 x1 S) : cMet (cQv P) l yX2_init cX2_init 2 none 2 mc ms 40 [.ref x0, .ref x1] S dp := by
  intro D Y tp sz
  refine cg_bodyI (by decide +kernel) (Nat.le_of_ble_eq_true rfl) ?_
  intro p e s m args below meth c C hin
  generalize va_A (cWd Y S) sz = A at C ⊢
  have C : cC p s m args meth c cX2_init 2 none A D Y tp dp RX2 := C
  refine cg_lv (lv' := [(0, .ref x0), (1, .ref x1)]) rfl ?_
  unfold k_X2_init at h
  refine cg_aload_n C (i := 0) rfl 0 rfl dX2_init_0 ?_
  refine cg_objInit C co_X2_3 co_i co_c (by decide) (Nat.le_of_ble_eq_true rfl) dX2_init_1 ?_
  refine cg_aload_n C (i := 0) rfl 0 rfl dX2_init_4 ?_
  refine cg_aload_n C (i := 1) rfl 1 rfl dX2_init_5 ?_
  obtain ⟨hc_6, h⟩ := h
  refine cg_putrF C (k := 2) (j := 0) (x := (some x1)) (ty := tyX2) (fty := tyX2 0) hc_6.1 hc_6.2 (by decide) rfl (by decide) rfl (by decide) rfl cWs_wsX20 tyX2_ok nmX2 cl_X2_9 rfl rfl hin rfl rfl rfl rfl dX2_init_6 ?_
  refine cg_nm (fun S1 e_S1 => ?_)
  have h := h S1 e_S1
  refine cg_aload_n C (i := 0) rfl 0 rfl dX2_init_9 ?_
  refine cg_aload_n C (i := 1) rfl 1 rfl dX2_init_10 ?_
  obtain ⟨hc_11, h⟩ := h
  obtain ⟨hb_11, h⟩ := h
  refine cg_calli C (t_X8_size l x1 S1 dp h) cc_X2_15 hc_11.1 hc_11.2 (by decide) rfl rfl ⟨by decide, by decide⟩ hb_11 rfl (Nat.le_of_ble_eq_true rfl) dX2_init_11 (fun r_2 S_2 h => ?_)
  simp only [Nat.add_zero]
  obtain ⟨n3, hn_1, hn_2, hn_3, hn_4, h⟩ := h
  refine cg_cast (.int (nI n3)) (congrArg Value.int hn_1) ?_
  refine cg_newZ C n3 hn_2 ca_boolean hn_3 hn_4 dX2_init_14 (fun q4 hf_q4 => ?_)
  have h := h q4 hf_q4
  refine cg_nm (fun S5 e_S5 => ?_)
  have h := h S5 e_S5
  obtain ⟨hc_16, h⟩ := h
  refine cg_putrF C (k := 2) (j := 1) (x := (some q4)) (ty := tyX2) (fty := tyX2 1) hc_16.1 hc_16.2 (by decide) rfl (by decide) rfl (by decide) rfl cWs_wsX20 tyX2_ok nmX2 cl_X2_21 rfl rfl hin rfl rfl rfl rfl dX2_init_16 ?_
  refine cg_nm (fun S6 e_S6 => ?_)
  have h := h S6 e_S6
  obtain ⟨hb_19, h⟩ := h
  exact cg_vret C h dX2_init_19 hb_19.1 hb_19.2
def k_X2_copy_14 (Q : Nat → cS → Prop) (dp : Nat) (mc ms : Nat) (R14 : Nat → Nat → Int32 → Nat → Nat → cS → Prop) (x0 : Nat) (x1 : Nat) (x2 : Int32) (cd dd : Nat) (S : cS) : Prop :=
cA S x0 2 ∧ ((∃ b7 : Nat, cr S 65 x0 = some b7 ∧ (cA S b7 16 ∧ (((((nI (cn S b7))) ≤ x2 →
  (cd ≤ mc ∧ dd ≤ ms) ∧ (Q x1 S)) ∧
 (¬ ((nI (cn S b7))) ≤ x2 →
  cA S x1 2 ∧ ((∃ b8 : Nat, cr S 65 x1 = some b8 ∧ (cA S b8 16 ∧ (((((nI (cn S b8))) ≤ x2 →
    (cd ≤ mc ∧ dd ≤ ms) ∧ (Q x1 S)) ∧
   (¬ ((nI (cn S b8))) ≤ x2 →
    cA S x1 2 ∧ ((∃ b9 : Nat, cr S 65 x1 = some b9 ∧ (cA S x0 2 ∧ ((∃ b10 : Nat, cr S 65 x0 = some b10 ∧ (cX S b10 16 x2 ∧ (cX S b9 16 x2 ∧ (isZ ((cI S b10 (x2).toNatClampNeg)) ∧ (∀ S11 : cS, S11 = cSI S b9 (x2).toNatClampNeg ((cI S b10 (x2).toNatClampNeg)) → ∀ x2_12 : Int32, x2_12 = x2 + nI 1 → R14 x0 x1 x2_12 cd dd S11)))))))))))))))))))))
def k_X2_copy_14L (Q : Nat → cS → Prop) (dp : Nat) (mc ms : Nat)  (x0 : Nat) (x1 : Nat) (x2 : Int32) (cd dd : Nat) (S : cS) : Prop :=
  lfp (X := Nat × Nat × Int32 × Nat × Nat × cS) (fun P y => k_X2_copy_14 Q dp mc ms  (fun b0 b1 b2 b3 b4 S => P (b0, b1, b2, b3, b4, S)) y.1 y.2.1 y.2.2.1 y.2.2.2.1 y.2.2.2.2.1 y.2.2.2.2.2) (x0, x1, x2, cd, dd, S)
def k_X2_copy (Q : Nat → cS → Prop) (dp : Nat) (mc ms : Nat) (x0 : Nat) (S : cS) : Prop :=
(0 + 1 ≤ mc ∧ 0 + 2 ≤ ms) ∧ (∀ q1 : Nat, q1 ∉ cL S → ∀ S2 : cS, S2 = cNew S q1 2 → cA S2 x0 2 ∧ ((∃ b3 : Nat, cr S2 64 x0 = some b3 ∧ ((∃ mc4 ms5 : Nat, 0 + 1 + mc4 ≤ mc ∧ 0 + 2 + ms5 ≤ ms ∧ (k_X2_init (fun S_6 => 
k_X2_copy_14L Q dp mc ms  x0 q1 (((nI 0))) (0 + 1 + mc4) (0 + 2 + ms5) S_6) dp mc4 ms5 q1 b3 S2))))))
section S_X2_copy
variable {p : Program} {l : Launch} {e : Env} {s : State} {m : MethodId} {args : Array Value} {below : List Frame} {meth : Method} {c : Code} {A : Nat → Prop} {D : va_G} {Y : cY} {tp dp : Nat}
set_option maxRecDepth 20000 in
theorem tb_X2_copy_14 {mc ms : Nat} (C : cC p s m args meth c cX2_copy 3 (some (.object "SearchMill$Holding")) A D Y tp dp RX2) {post : Nat → cS → Prop} {R14 : Nat → Nat → Int32 → Nat → Nat → cS → Prop} (hR14 : ∀ (x0 : Nat) (x1 : Nat) (x2 : Int32) (cd dd : Nat) (S : cS), R14 x0 x1 x2 cd dd S → cG p l e (cRm 3 mc ms 61) s m args below meth c A D Y 3 (MQ below (cQr post D Y A) args s mc ms A) cd dd 14 [(0, .ref x0), (1, .ref x1), (2, .int x2)] [] S) (x0 : Nat) (x1 : Nat) (x2 : Int32) (cd dd : Nat) (S : cS) (h : k_X2_copy_14 post dp mc ms R14 x0 x1 x2 cd dd S) : cG p l e (cRm 3 mc ms 61) s m args below meth c A D Y 3 (MQ below (cQr post D Y A) args s mc ms A) cd dd 14 [(0, .ref x0), (1, .ref x1), (2, .int x2)] [] S := by
  unfold k_X2_copy_14 at h
  refine cg_iload_n C (i := 2) rfl 2 rfl dX2_copy_14 ?_
  refine cg_aload_n C (i := 0) rfl 0 rfl dX2_copy_15 ?_
  obtain ⟨hc_16, h⟩ := h
  obtain ⟨b7, hb_b7, h⟩ := h
  refine cg_get C (k := 2) (j := 1) (.ref b7) hc_16.1 hc_16.2 (by decide) rfl (by decide) rfl (show cV _ 2 1 x0 = _ from congrArg va_rf hb_b7) cWs_wsX20 cl_X2_21 rfl dX2_copy_16 ?_
  obtain ⟨hc_19, h⟩ := h
  refine cg_alen C hc_19.1 hc_19.2 (by decide) (by decide) dX2_copy_19 ?_
  refine cg_icmp_ge C 50 (by decide) dX2_copy_20 (fun c_ => ?_) (fun c_ => ?_)
  · have h := h.1 c_
    refine cg_aload_n C (i := 1) rfl 1 rfl dX2_copy_50 ?_
    obtain ⟨hb_51, h⟩ := h
    exact cg_aret C rfl (by first | exact Or.inl ⟨_, rfl⟩ | exact Or.inr ⟨_, rfl⟩) h dX2_copy_51 hb_51.1 hb_51.2
  · have h := h.2 c_
    refine cg_iload_n C (i := 2) rfl 2 rfl dX2_copy_23 ?_
    refine cg_aload_n C (i := 1) rfl 1 rfl dX2_copy_24 ?_
    obtain ⟨hc_25, h⟩ := h
    obtain ⟨b8, hb_b8, h⟩ := h
    refine cg_get C (k := 2) (j := 1) (.ref b8) hc_25.1 hc_25.2 (by decide) rfl (by decide) rfl (show cV _ 2 1 x1 = _ from congrArg va_rf hb_b8) cWs_wsX20 cl_X2_21 rfl dX2_copy_25 ?_
    obtain ⟨hc_28, h⟩ := h
    refine cg_alen C hc_28.1 hc_28.2 (by decide) (by decide) dX2_copy_28 ?_
    refine cg_icmp_ge C 50 (by decide) dX2_copy_29 (fun c_ => ?_) (fun c_ => ?_)
    · have h := h.1 c_
      refine cg_aload_n C (i := 1) rfl 1 rfl dX2_copy_50 ?_
      obtain ⟨hb_51, h⟩ := h
      exact cg_aret C rfl (by first | exact Or.inl ⟨_, rfl⟩ | exact Or.inr ⟨_, rfl⟩) h dX2_copy_51 hb_51.1 hb_51.2
    · have h := h.2 c_
      refine cg_aload_n C (i := 1) rfl 1 rfl dX2_copy_32 ?_
      obtain ⟨hc_33, h⟩ := h
      obtain ⟨b9, hb_b9, h⟩ := h
      refine cg_get C (k := 2) (j := 1) (.ref b9) hc_33.1 hc_33.2 (by decide) rfl (by decide) rfl (show cV _ 2 1 x1 = _ from congrArg va_rf hb_b9) cWs_wsX20 cl_X2_21 rfl dX2_copy_33 ?_
      refine cg_iload_n C (i := 2) rfl 2 rfl dX2_copy_36 ?_
      refine cg_aload_n C (i := 0) rfl 0 rfl dX2_copy_37 ?_
      obtain ⟨hc_38, h⟩ := h
      obtain ⟨b10, hb_b10, h⟩ := h
      refine cg_get C (k := 2) (j := 1) (.ref b10) hc_38.1 hc_38.2 (by decide) rfl (by decide) rfl (show cV _ 2 1 x0 = _ from congrArg va_rf hb_b10) cWs_wsX20 cl_X2_21 rfl dX2_copy_38 ?_
      refine cg_iload_n C (i := 2) rfl 2 rfl dX2_copy_41 ?_
      obtain ⟨hc_42, h⟩ := h
      refine cg_zaloadR C hc_42 dX2_copy_42 ?_
      obtain ⟨hc_43, h⟩ := h
      obtain ⟨hz_43, h⟩ := h
      refine cg_zastoreR C hc_43 (isZ_vp hz_43) dX2_copy_43 ?_
      refine cg_nm (fun S11 e_S11 => ?_)
      have h := h S11 e_S11
      obtain ⟨x2_12, e_x2_12⟩ : ∃ z : Int32, z = x2 + nI 1 := ⟨_, rfl⟩
      have h := h x2_12 e_x2_12
      refine cg_iinc C (lv' := [(2, .int x2_12), (0, .ref x0), (1, .ref x1)]) 2 rfl (by rw [e_x2_12]; rfl) (Nat.le_of_ble_eq_true rfl) rfl dX2_copy_44 ?_
      refine cg_goto C 14 (by decide) dX2_copy_47 ?_
      exact cg_sub [1, 2, 0] rfl (hR14 x0 x1 x2_12 cd dd S11 h)
set_option maxRecDepth 20000 in
theorem tl_X2_copy_14 {mc ms : Nat} (C : cC p s m args meth c cX2_copy 3 (some (.object "SearchMill$Holding")) A D Y tp dp RX2) {post : Nat → cS → Prop}   (x0 : Nat) (x1 : Nat) (x2 : Int32) (cd dd : Nat) (S : cS) (h : k_X2_copy_14L post dp mc ms  x0 x1 x2 cd dd S) : cG p l e (cRm 3 mc ms 61) s m args below meth c A D Y 3 (MQ below (cQr post D Y A) args s mc ms A) cd dd 14 [(0, .ref x0), (1, .ref x1), (2, .int x2)] [] S :=
  h (fun y => cG p l e (cRm 3 mc ms 61) s m args below meth c A D Y 3 (MQ below (cQr post D Y A) args s mc ms A) (y.2.2.2.1) (y.2.2.2.2.1) 14 [(0, .ref (y.1)), (1, .ref (y.2.1)), (2, .int (y.2.2.1))] [] (y.2.2.2.2.2)) (fun y hy => tb_X2_copy_14 C   (fun b0 b1 b2 b3 b4 S z => z) (y.1) (y.2.1) (y.2.2.1) (y.2.2.2.1) (y.2.2.2.2.1) (y.2.2.2.2.2) hy)
end S_X2_copy
set_option maxHeartbeats 1000000 in
set_option maxRecDepth 20000 in
theorem t_X2_copy (l : Launch) (mc ms : Nat) (x0 : Nat) (S : cS) (dp : Nat) {P : Nat → cS → Prop} (h : k_X2_copy P dp mc ms x0 S) : cMet (cQr P) l yX2_copy cX2_copy 3 (some (.object "SearchMill$Holding")) 3 mc ms 61 [.ref x0] S dp := by
  intro D Y tp sz
  refine cg_body (by decide +kernel) (Nat.le_of_ble_eq_true rfl) ?_
  intro p e s m args below meth c C
  generalize va_A (cWd Y S) sz = A at C ⊢
  have C : cC p s m args meth c cX2_copy 3 (some (.object "SearchMill$Holding")) A D Y tp dp RX2 := C
  refine cg_lv (lv' := [(0, .ref x0)]) rfl ?_
  unfold k_X2_copy at h
  obtain ⟨hc_0, h⟩ := h
  refine cg_new C (k := 2) (N := 2) (fs := [.null, .null]) (by decide) rfl cWs_wsX20 tyX2_ok cn_X2_10 ci_X2 ct_X2 (fun j_ hj_ => by rcases (show j_ = 0 ∨ j_ = 1 by omega) with rfl | rfl <;> rfl) rfl hc_0.1 hc_0.2 dX2_copy_0 (fun q1 hf_q1 => ?_)
  have h := h q1 hf_q1
  refine cg_nm (fun S2 e_S2 => ?_)
  have h := h S2 e_S2
  refine cg_dup C rfl dX2_copy_3 ?_
  refine cg_aload_n C (i := 0) rfl 0 rfl dX2_copy_4 ?_
  obtain ⟨hc_5, h⟩ := h
  obtain ⟨b3, hb_b3, h⟩ := h
  refine cg_get C (k := 2) (j := 0) (.ref b3) hc_5.1 hc_5.2 (by decide) rfl (by decide) rfl (show cV _ 2 0 x0 = _ from congrArg va_rf hb_b3) cWs_wsX20 cl_X2_9 rfl dX2_copy_5 ?_
  obtain ⟨mc4, ms5, hm_1, hm_2, h⟩ := h
  refine cg_callI C (t_X2_init l mc4 ms5 q1 b3 S2 dp h) cz_X2_25 rfl ⟨by decide, by decide⟩ ⟨hm_1, hm_2⟩ rfl (Nat.le_of_ble_eq_true rfl) dX2_copy_8 (fun S_6 h => ?_)
  refine cg_astore_n (lv' := [(1, .ref q1), (0, .ref x0)]) C (i := 1) rfl (Nat.le_of_ble_eq_true rfl) rfl dX2_copy_11 ?_
  refine cg_iconst C (x := nI 0) rfl dX2_copy_12 ?_
  refine cg_istore_n C (i := 2) (lv' := [(2, .int ((nI 0))), (1, .ref q1), (0, .ref x0)]) rfl (Nat.le_of_ble_eq_true rfl) rfl dX2_copy_13 ?_
  exact cg_sub [2, 1, 0] rfl (tl_X2_copy_14 C   x0 q1 (((nI 0))) (0 + 1 + mc4) (0 + 2 + ms5) S_6 h)
def k_X2_hasDead (Q : Int32 → cS → Prop) (dp : Nat) (x0 : Nat) (S : cS) : Prop :=
cA S x0 2 ∧ (k_X2_liveCount (fun r_1 S_1 => 
cA S_1 x0 2 ∧ ((∃ b2 : Nat, cr S_1 65 x0 = some b2 ∧ (cA S_1 b2 16 ∧ (((((nI (cn S_1 b2))) ≤ r_1 →
  Q ((bI false)) S_1) ∧
 (¬ ((nI (cn S_1 b2))) ≤ r_1 →
  Q ((bI true)) S_1))))))) dp x0 S)
set_option maxHeartbeats 1000000 in
set_option maxRecDepth 20000 in
theorem t_X2_hasDead (l : Launch) (x0 : Nat) (S : cS) (dp : Nat) {P : Int32 → cS → Prop} (h : k_X2_hasDead P dp x0 S) : cMet (cQi P) l yX2_hasDead cX2_hasDead 1 (some .boolean) 1 0 0 22 [.ref x0] S dp := by
  intro D Y tp sz
  refine cg_body (by decide +kernel) (Nat.le_of_ble_eq_true rfl) ?_
  intro p e s m args below meth c C
  generalize va_A (cWd Y S) sz = A at C ⊢
  have C : cC p s m args meth c cX2_hasDead 1 (some .boolean) A D Y tp dp RX2 := C
  refine cg_lv (lv' := [(0, .ref x0)]) rfl ?_
  unfold k_X2_hasDead at h
  refine cg_aload_n C (i := 0) rfl 0 rfl dX2_hasDead_0 ?_
  obtain ⟨hc_1, h⟩ := h
  refine cg_calli C (t_X2_liveCount l x0 S dp h) cc_X2_32 hc_1.1 hc_1.2 (by decide) rfl rfl ⟨by decide, by decide⟩ ⟨by decide, by decide⟩ rfl (Nat.le_of_ble_eq_true rfl) dX2_hasDead_1 (fun r_1 S_1 h => ?_)
  refine cg_aload_n C (i := 0) rfl 0 rfl dX2_hasDead_4 ?_
  obtain ⟨hc_5, h⟩ := h
  obtain ⟨b2, hb_b2, h⟩ := h
  refine cg_get C (k := 2) (j := 1) (.ref b2) hc_5.1 hc_5.2 (by decide) rfl (by decide) rfl (show cV _ 2 1 x0 = _ from congrArg va_rf hb_b2) cWs_wsX20 cl_X2_21 rfl dX2_hasDead_5 ?_
  obtain ⟨hc_8, h⟩ := h
  refine cg_alen C hc_8.1 hc_8.2 (by decide) (by decide) dX2_hasDead_8 ?_
  refine cg_icmp_ge C 16 (by decide) dX2_hasDead_9 (fun c_ => ?_) (fun c_ => ?_)
  · have h := h.1 c_
    refine cg_iconst C (x := nI 0) rfl dX2_hasDead_16 ?_
    refine cg_cast (.int (bI false)) rfl ?_
    exact cg_zret C (bI_nar _) h dX2_hasDead_17 (by decide) (by decide)
  · have h := h.2 c_
    refine cg_iconst C (x := nI 1) rfl dX2_hasDead_12 ?_
    refine cg_goto C 17 (by decide) dX2_hasDead_13 ?_
    refine cg_cast (.int (bI true)) rfl ?_
    exact cg_zret C (bI_nar _) h dX2_hasDead_17 (by decide) (by decide)
def k_X2_isAlike_2 (Q : Int32 → cS → Prop) (dp : Nat) (R2 : Nat → Nat → Int32 → cS → Prop) (x0 : Nat) (x1 : Nat) (x2 : Int32) (S : cS) : Prop :=
cA S x0 2 ∧ ((∃ b1 : Nat, cr S 65 x0 = some b1 ∧ (cA S b1 16 ∧ (((((nI (cn S b1))) ≤ x2 →
  Q ((bI true)) S) ∧
 (¬ ((nI (cn S b1))) ≤ x2 →
  cA S x0 2 ∧ (k_X2_isLive (fun r_2 S_2 => 
  cA S_2 x1 2 ∧ (k_X2_isLive (fun r_3 S_3 => 
  ((r_2 = r_3 →
    ∀ x2_4 : Int32, x2_4 = x2 + nI 1 → R2 x0 x1 x2_4 S_3) ∧
   (¬ r_2 = r_3 →
    Q ((bI false)) S_3))) dp x1 x2 S_2)) dp x0 x2 S)))))))
def k_X2_isAlike_2L (Q : Int32 → cS → Prop) (dp : Nat)  (x0 : Nat) (x1 : Nat) (x2 : Int32) (S : cS) : Prop :=
  lfp (X := Nat × Nat × Int32 × cS) (fun P y => k_X2_isAlike_2 Q dp  (fun b0 b1 b2 S => P (b0, b1, b2, S)) y.1 y.2.1 y.2.2.1 y.2.2.2) (x0, x1, x2, S)
def k_X2_isAlike (Q : Int32 → cS → Prop) (dp : Nat) (x0 : Nat) (x1 : Nat) (S : cS) : Prop :=
k_X2_isAlike_2L Q dp  x0 x1 (((nI 0))) S
section S_X2_isAlike
variable {p : Program} {l : Launch} {e : Env} {s : State} {m : MethodId} {args : Array Value} {below : List Frame} {meth : Method} {c : Code} {A : Nat → Prop} {D : va_G} {Y : cY} {tp dp : Nat}
set_option maxRecDepth 20000 in
theorem tb_X2_isAlike_2 (C : cC p s m args meth c cX2_isAlike 3 (some .boolean) A D Y tp dp RX2) {post : Int32 → cS → Prop} {R2 : Nat → Nat → Int32 → cS → Prop} (hR2 : ∀ (x0 : Nat) (x1 : Nat) (x2 : Int32) (S : cS), R2 x0 x1 x2 S → cG p l e (cRm 1 0 0 21) s m args below meth c A D Y 3 (MQ below (cQi post D Y A) args s 0 0 A) 0 0 2 [(0, .ref x0), (1, .ref x1), (2, .int x2)] [] S) (x0 : Nat) (x1 : Nat) (x2 : Int32) (S : cS) (h : k_X2_isAlike_2 post dp R2 x0 x1 x2 S) : cG p l e (cRm 1 0 0 21) s m args below meth c A D Y 3 (MQ below (cQi post D Y A) args s 0 0 A) 0 0 2 [(0, .ref x0), (1, .ref x1), (2, .int x2)] [] S := by
  unfold k_X2_isAlike_2 at h
  refine cg_iload_n C (i := 2) rfl 2 rfl dX2_isAlike_2 ?_
  refine cg_aload_n C (i := 0) rfl 0 rfl dX2_isAlike_3 ?_
  obtain ⟨hc_4, h⟩ := h
  obtain ⟨b1, hb_b1, h⟩ := h
  refine cg_get C (k := 2) (j := 1) (.ref b1) hc_4.1 hc_4.2 (by decide) rfl (by decide) rfl (show cV _ 2 1 x0 = _ from congrArg va_rf hb_b1) cWs_wsX20 cl_X2_21 rfl dX2_isAlike_4 ?_
  obtain ⟨hc_7, h⟩ := h
  refine cg_alen C hc_7.1 hc_7.2 (by decide) (by decide) dX2_isAlike_7 ?_
  refine cg_icmp_ge C 32 (by decide) dX2_isAlike_8 (fun c_ => ?_) (fun c_ => ?_)
  · have h := h.1 c_
    refine cg_iconst C (x := nI 1) rfl dX2_isAlike_32 ?_
    refine cg_cast (.int (bI true)) rfl ?_
    exact cg_zret C (bI_nar _) h dX2_isAlike_33 (by decide) (by decide)
  · have h := h.2 c_
    refine cg_aload_n C (i := 0) rfl 0 rfl dX2_isAlike_11 ?_
    refine cg_iload_n C (i := 2) rfl 2 rfl dX2_isAlike_12 ?_
    obtain ⟨hc_13, h⟩ := h
    refine cg_calli C (t_X2_isLive l x0 x2 S dp h) cc_X2_28 hc_13.1 hc_13.2 (by decide) rfl rfl ⟨by decide, by decide⟩ ⟨by decide, by decide⟩ rfl (Nat.le_of_ble_eq_true rfl) dX2_isAlike_13 (fun r_2 S_2 h => ?_)
    refine cg_aload_n C (i := 1) rfl 1 rfl dX2_isAlike_16 ?_
    refine cg_iload_n C (i := 2) rfl 2 rfl dX2_isAlike_17 ?_
    obtain ⟨hc_18, h⟩ := h
    refine cg_calli C (t_X2_isLive l x1 x2 S_2 dp h) cc_X2_28 hc_18.1 hc_18.2 (by decide) rfl rfl ⟨by decide, by decide⟩ ⟨by decide, by decide⟩ rfl (Nat.le_of_ble_eq_true rfl) dX2_isAlike_18 (fun r_3 S_3 h => ?_)
    refine cg_icmp_eq C 26 (by decide) dX2_isAlike_21 (fun c_ => ?_) (fun c_ => ?_)
    · have h := h.1 c_
      obtain ⟨x2_4, e_x2_4⟩ : ∃ z : Int32, z = x2 + nI 1 := ⟨_, rfl⟩
      have h := h x2_4 e_x2_4
      refine cg_iinc C (lv' := [(2, .int x2_4), (0, .ref x0), (1, .ref x1)]) 2 rfl (by rw [e_x2_4]; rfl) (Nat.le_of_ble_eq_true rfl) rfl dX2_isAlike_26 ?_
      refine cg_goto C 2 (by decide) dX2_isAlike_29 ?_
      exact cg_sub [1, 2, 0] rfl (hR2 x0 x1 x2_4 S_3 h)
    · have h := h.2 c_
      refine cg_iconst C (x := nI 0) rfl dX2_isAlike_24 ?_
      refine cg_cast (.int (bI false)) rfl ?_
      exact cg_zret C (bI_nar _) h dX2_isAlike_25 (by decide) (by decide)
set_option maxRecDepth 20000 in
theorem tl_X2_isAlike_2 (C : cC p s m args meth c cX2_isAlike 3 (some .boolean) A D Y tp dp RX2) {post : Int32 → cS → Prop}   (x0 : Nat) (x1 : Nat) (x2 : Int32) (S : cS) (h : k_X2_isAlike_2L post dp  x0 x1 x2 S) : cG p l e (cRm 1 0 0 21) s m args below meth c A D Y 3 (MQ below (cQi post D Y A) args s 0 0 A) 0 0 2 [(0, .ref x0), (1, .ref x1), (2, .int x2)] [] S :=
  h (fun y => cG p l e (cRm 1 0 0 21) s m args below meth c A D Y 3 (MQ below (cQi post D Y A) args s 0 0 A) 0 0 2 [(0, .ref (y.1)), (1, .ref (y.2.1)), (2, .int (y.2.2.1))] [] (y.2.2.2)) (fun y hy => tb_X2_isAlike_2 C   (fun b0 b1 b2 S z => z) (y.1) (y.2.1) (y.2.2.1) (y.2.2.2) hy)
end S_X2_isAlike
set_option maxHeartbeats 1000000 in
set_option maxRecDepth 20000 in
theorem t_X2_isAlike (l : Launch) (x0 : Nat) (x1 : Nat) (S : cS) (dp : Nat) {P : Int32 → cS → Prop} (h : k_X2_isAlike P dp x0 x1 S) : cMet (cQi P) l yX2_isAlike cX2_isAlike 3 (some .boolean) 1 0 0 21 [.ref x0, .ref x1] S dp := by
  intro D Y tp sz
  refine cg_body (by decide +kernel) (Nat.le_of_ble_eq_true rfl) ?_
  intro p e s m args below meth c C
  generalize va_A (cWd Y S) sz = A at C ⊢
  have C : cC p s m args meth c cX2_isAlike 3 (some .boolean) A D Y tp dp RX2 := C
  refine cg_lv (lv' := [(0, .ref x0), (1, .ref x1)]) rfl ?_
  unfold k_X2_isAlike at h
  refine cg_iconst C (x := nI 0) rfl dX2_isAlike_0 ?_
  refine cg_istore_n C (i := 2) (lv' := [(2, .int ((nI 0))), (0, .ref x0), (1, .ref x1)]) rfl (Nat.le_of_ble_eq_true rfl) rfl dX2_isAlike_1 ?_
  exact cg_sub [1, 2, 0] rfl (tl_X2_isAlike_2 C   x0 x1 (((nI 0))) S h)
def k_X2_liveAt_54 (Q : Int32 → cS → Prop) (dp : Nat) (R2 : Nat → Int32 → Int32 → cS → Prop) (x0 : Nat) (x1 : Int32) (x2 : Int32) (S : cS) : Prop :=
∀ x2_5 : Int32, x2_5 = x2 + nI 1 → R2 x0 x1 x2_5 S
def k_X2_liveAt_2 (Q : Int32 → cS → Prop) (dp : Nat) (R2 : Nat → Int32 → Int32 → cS → Prop) (x0 : Nat) (x1 : Int32) (x2 : Int32) (S : cS) : Prop :=
cA S x0 2 ∧ ((∃ b1 : Nat, cr S 65 x0 = some b1 ∧ (cA S b1 16 ∧ (((((nI (cn S b1))) ≤ x2 →
  Q (((-1))) S) ∧
 (¬ ((nI (cn S b1))) ≤ x2 →
  cA S x0 2 ∧ ((∃ b2 : Nat, cr S 64 x0 = some b2 ∧ (cA S b2 8 ∧ (k_X8_size (fun r_3 S_3 => 
  ((r_3 ≤ x2 →
    Q (((-1))) S_3) ∧
   (¬ r_3 ≤ x2 →
    cA S_3 x0 2 ∧ ((∃ b4 : Nat, cr S_3 65 x0 = some b4 ∧ (cX S_3 b4 16 x2 ∧ (((¬ ((cI S_3 b4 (x2).toNatClampNeg)) = 0 →
      k_X2_liveAt_54 Q dp R2 x0 x1 x2 S_3) ∧
     (((cI S_3 b4 (x2).toNatClampNeg)) = 0 →
      cA S_3 x0 2 ∧ ((∃ b6 : Nat, cr S_3 64 x0 = some b6 ∧ (cA S_3 b6 8 ∧ ((∃ b7 : Nat, cr S_3 257 b6 = some b7 ∧ (cA S_3 b7 12 ∧ (k_Jx4a65c_get_915e3 (fun r_8 S_8 => 
      cA S_8 r_8 0 ∧ (cA S_8 r_8 0 ∧ (((¬ ((ci S_8 0 r_8)) = x1 →
        k_X2_liveAt_54 Q dp R2 x0 x1 x2 S_8) ∧
       (((ci S_8 0 r_8)) = x1 →
        Q x2 S_8))))) dp b7 x2 S_3)))))))))))))))) dp b2 S))))))))))
def k_X2_liveAt_2L (Q : Int32 → cS → Prop) (dp : Nat)  (x0 : Nat) (x1 : Int32) (x2 : Int32) (S : cS) : Prop :=
  lfp (X := Nat × Int32 × Int32 × cS) (fun P y => k_X2_liveAt_2 Q dp  (fun b0 b1 b2 S => P (b0, b1, b2, S)) y.1 y.2.1 y.2.2.1 y.2.2.2) (x0, x1, x2, S)
def k_X2_liveAt (Q : Int32 → cS → Prop) (dp : Nat) (x0 : Nat) (x1 : Int32) (S : cS) : Prop :=
k_X2_liveAt_2L Q dp  x0 x1 (((nI 0))) S
section S_X2_liveAt
variable {p : Program} {l : Launch} {e : Env} {s : State} {m : MethodId} {args : Array Value} {below : List Frame} {meth : Method} {c : Code} {A : Nat → Prop} {D : va_G} {Y : cY} {tp dp : Nat}
set_option maxRecDepth 20000 in
theorem tb_X2_liveAt_54 (C : cC p s m args meth c cX2_liveAt 3 (some .int) A D Y tp dp RX2) {post : Int32 → cS → Prop} {R2 : Nat → Int32 → Int32 → cS → Prop} (hR2 : ∀ (x0 : Nat) (x1 : Int32) (x2 : Int32) (S : cS), R2 x0 x1 x2 S → cG p l e (cRm 3 0 0 64) s m args below meth c A D Y 3 (MQ below (cQi post D Y A) args s 0 0 A) 0 0 2 [(0, .ref x0), (1, .int x1), (2, .int x2)] [] S) (x0 : Nat) (x1 : Int32) (x2 : Int32) (S : cS) (h : k_X2_liveAt_54 post dp R2 x0 x1 x2 S) : cG p l e (cRm 3 0 0 64) s m args below meth c A D Y 3 (MQ below (cQi post D Y A) args s 0 0 A) 0 0 54 [(0, .ref x0), (1, .int x1), (2, .int x2)] [] S := by
  unfold k_X2_liveAt_54 at h
  obtain ⟨x2_5, e_x2_5⟩ : ∃ z : Int32, z = x2 + nI 1 := ⟨_, rfl⟩
  have h := h x2_5 e_x2_5
  refine cg_iinc C (lv' := [(2, .int x2_5), (0, .ref x0), (1, .int x1)]) 2 rfl (by rw [e_x2_5]; rfl) (Nat.le_of_ble_eq_true rfl) rfl dX2_liveAt_54 ?_
  refine cg_goto C 2 (by decide) dX2_liveAt_57 ?_
  exact cg_sub [1, 2, 0] rfl (hR2 x0 x1 x2_5 S h)
set_option maxRecDepth 20000 in
theorem tb_X2_liveAt_2 (C : cC p s m args meth c cX2_liveAt 3 (some .int) A D Y tp dp RX2) {post : Int32 → cS → Prop} {R2 : Nat → Int32 → Int32 → cS → Prop} (hR2 : ∀ (x0 : Nat) (x1 : Int32) (x2 : Int32) (S : cS), R2 x0 x1 x2 S → cG p l e (cRm 3 0 0 64) s m args below meth c A D Y 3 (MQ below (cQi post D Y A) args s 0 0 A) 0 0 2 [(0, .ref x0), (1, .int x1), (2, .int x2)] [] S) (x0 : Nat) (x1 : Int32) (x2 : Int32) (S : cS) (h : k_X2_liveAt_2 post dp R2 x0 x1 x2 S) : cG p l e (cRm 3 0 0 64) s m args below meth c A D Y 3 (MQ below (cQi post D Y A) args s 0 0 A) 0 0 2 [(0, .ref x0), (1, .int x1), (2, .int x2)] [] S := by
  unfold k_X2_liveAt_2 at h
  refine cg_iload_n C (i := 2) rfl 2 rfl dX2_liveAt_2 ?_
  refine cg_aload_n C (i := 0) rfl 0 rfl dX2_liveAt_3 ?_
  obtain ⟨hc_4, h⟩ := h
  obtain ⟨b1, hb_b1, h⟩ := h
  refine cg_get C (k := 2) (j := 1) (.ref b1) hc_4.1 hc_4.2 (by decide) rfl (by decide) rfl (show cV _ 2 1 x0 = _ from congrArg va_rf hb_b1) cWs_wsX20 cl_X2_21 rfl dX2_liveAt_4 ?_
  obtain ⟨hc_7, h⟩ := h
  refine cg_alen C hc_7.1 hc_7.2 (by decide) (by decide) dX2_liveAt_7 ?_
  refine cg_icmp_ge C 60 (by decide) dX2_liveAt_8 (fun c_ => ?_) (fun c_ => ?_)
  · have h := h.1 c_
    refine cg_iconst C (x := (-1)) rfl dX2_liveAt_60 ?_
    exact cg_iret C h dX2_liveAt_61 (by decide) (by decide)
  · have h := h.2 c_
    refine cg_iload_n C (i := 2) rfl 2 rfl dX2_liveAt_11 ?_
    refine cg_aload_n C (i := 0) rfl 0 rfl dX2_liveAt_12 ?_
    obtain ⟨hc_13, h⟩ := h
    obtain ⟨b2, hb_b2, h⟩ := h
    refine cg_get C (k := 2) (j := 0) (.ref b2) hc_13.1 hc_13.2 (by decide) rfl (by decide) rfl (show cV _ 2 0 x0 = _ from congrArg va_rf hb_b2) cWs_wsX20 cl_X2_9 rfl dX2_liveAt_13 ?_
    obtain ⟨hc_16, h⟩ := h
    refine cg_calli C (t_X8_size l b2 S dp h) cc_X2_15 hc_16.1 hc_16.2 (by decide) rfl rfl ⟨by decide, by decide⟩ ⟨by decide, by decide⟩ rfl (Nat.le_of_ble_eq_true rfl) dX2_liveAt_16 (fun r_3 S_3 h => ?_)
    refine cg_icmp_ge C 60 (by decide) dX2_liveAt_19 (fun c_ => ?_) (fun c_ => ?_)
    · have h := h.1 c_
      refine cg_iconst C (x := (-1)) rfl dX2_liveAt_60 ?_
      exact cg_iret C h dX2_liveAt_61 (by decide) (by decide)
    · have h := h.2 c_
      refine cg_aload_n C (i := 0) rfl 0 rfl dX2_liveAt_22 ?_
      obtain ⟨hc_23, h⟩ := h
      obtain ⟨b4, hb_b4, h⟩ := h
      refine cg_get C (k := 2) (j := 1) (.ref b4) hc_23.1 hc_23.2 (by decide) rfl (by decide) rfl (show cV _ 2 1 x0 = _ from congrArg va_rf hb_b4) cWs_wsX20 cl_X2_21 rfl dX2_liveAt_23 ?_
      refine cg_iload_n C (i := 2) rfl 2 rfl dX2_liveAt_26 ?_
      obtain ⟨hc_27, h⟩ := h
      refine cg_zaloadR C hc_27 dX2_liveAt_27 ?_
      refine cg_if_ne C 54 (by decide) dX2_liveAt_28 (fun c_ => ?_) (fun c_ => ?_)
      · have h := h.1 c_
        exact cg_sub [0, 1, 2] rfl (tb_X2_liveAt_54 C  hR2 x0 x1 x2 S_3 h)
      · have h := h.2 c_
        refine cg_aload_n C (i := 0) rfl 0 rfl dX2_liveAt_31 ?_
        obtain ⟨hc_32, h⟩ := h
        obtain ⟨b6, hb_b6, h⟩ := h
        refine cg_get C (k := 2) (j := 0) (.ref b6) hc_32.1 hc_32.2 (by decide) rfl (by decide) rfl (show cV _ 2 0 x0 = _ from congrArg va_rf hb_b6) cWs_wsX20 cl_X2_9 rfl dX2_liveAt_32 ?_
        obtain ⟨hc_35, h⟩ := h
        obtain ⟨b7, hb_b7, h⟩ := h
        refine cg_get C (k := 8) (j := 1) (.ref b7) hc_35.1 hc_35.2 (by decide) rfl (by decide) rfl (show cV _ 8 1 b6 = _ from congrArg va_rf hb_b7) cWs_wsX80 cl_X2_35 rfl dX2_liveAt_35 ?_
        refine cg_iload_n C (i := 2) rfl 2 rfl dX2_liveAt_38 ?_
        obtain ⟨hc_39, h⟩ := h
        refine cg_callr C (t_Jx4a65c_get_915e3 l b7 x2 S_3 dp h) cc_X2_39 hc_39.1 hc_39.2 (by decide) rfl rfl ⟨by decide, by decide⟩ ⟨by decide, by decide⟩ rfl (Nat.le_of_ble_eq_true rfl) dX2_liveAt_39 (fun r_8 S_8 h => ?_)
        obtain ⟨hc_42, h⟩ := h
        refine cg_ccast C (k := 0) hc_42.1 hc_42.2 (by decide) rfl cnc_X2_45 dX2_liveAt_42 ?_
        obtain ⟨hc_45, h⟩ := h
        refine cg_get C (k := 0) (j := 0) (.int (ci S_8 0 r_8)) hc_45.1 hc_45.2 (by decide) rfl (by decide) rfl rfl cWs_wsX00 cl_X2_47 rfl dX2_liveAt_45 ?_
        refine cg_iload_n C (i := 1) rfl 1 rfl dX2_liveAt_48 ?_
        refine cg_icmp_ne C 54 (by decide) dX2_liveAt_49 (fun c_ => ?_) (fun c_ => ?_)
        · have h := h.1 c_
          exact cg_sub [0, 1, 2] rfl (tb_X2_liveAt_54 C  hR2 x0 x1 x2 S_8 h)
        · have h := h.2 c_
          refine cg_iload_n C (i := 2) rfl 2 rfl dX2_liveAt_52 ?_
          exact cg_iret C h dX2_liveAt_53 (by decide) (by decide)
set_option maxRecDepth 20000 in
theorem tl_X2_liveAt_2 (C : cC p s m args meth c cX2_liveAt 3 (some .int) A D Y tp dp RX2) {post : Int32 → cS → Prop}   (x0 : Nat) (x1 : Int32) (x2 : Int32) (S : cS) (h : k_X2_liveAt_2L post dp  x0 x1 x2 S) : cG p l e (cRm 3 0 0 64) s m args below meth c A D Y 3 (MQ below (cQi post D Y A) args s 0 0 A) 0 0 2 [(0, .ref x0), (1, .int x1), (2, .int x2)] [] S :=
  h (fun y => cG p l e (cRm 3 0 0 64) s m args below meth c A D Y 3 (MQ below (cQi post D Y A) args s 0 0 A) 0 0 2 [(0, .ref (y.1)), (1, .int (y.2.1)), (2, .int (y.2.2.1))] [] (y.2.2.2)) (fun y hy => tb_X2_liveAt_2 C   (fun b0 b1 b2 S z => z) (y.1) (y.2.1) (y.2.2.1) (y.2.2.2) hy)
end S_X2_liveAt
set_option maxHeartbeats 1000000 in
set_option maxRecDepth 20000 in
theorem t_X2_liveAt (l : Launch) (x0 : Nat) (x1 : Int32) (S : cS) (dp : Nat) {P : Int32 → cS → Prop} (h : k_X2_liveAt P dp x0 x1 S) : cMet (cQi P) l yX2_liveAt cX2_liveAt 3 (some .int) 3 0 0 64 [.ref x0, .int x1] S dp := by
  intro D Y tp sz
  refine cg_body (by decide +kernel) (Nat.le_of_ble_eq_true rfl) ?_
  intro p e s m args below meth c C
  generalize va_A (cWd Y S) sz = A at C ⊢
  have C : cC p s m args meth c cX2_liveAt 3 (some .int) A D Y tp dp RX2 := C
  refine cg_lv (lv' := [(0, .ref x0), (1, .int x1)]) rfl ?_
  unfold k_X2_liveAt at h
  refine cg_iconst C (x := nI 0) rfl dX2_liveAt_0 ?_
  refine cg_istore_n C (i := 2) (lv' := [(2, .int ((nI 0))), (0, .ref x0), (1, .int x1)]) rfl (Nat.le_of_ble_eq_true rfl) rfl dX2_liveAt_1 ?_
  exact cg_sub [1, 2, 0] rfl (tl_X2_liveAt_2 C   x0 x1 (((nI 0))) S h)
def k_X2_kill (Q : Int32 → cS → Prop) (dp : Nat) (x0 : Nat) (x1 : Int32) (S : cS) : Prop :=
cA S x0 2 ∧ (k_X2_liveAt (fun r_1 S_1 => 
((r_1 = (((-1))) →
  Q ((bI false)) S_1) ∧
 (¬ r_1 = (((-1))) →
  cA S_1 x0 2 ∧ ((∃ b2 : Nat, cr S_1 65 x0 = some b2 ∧ (cA S_1 b2 16 ∧ (((r_1 < ((nI (cn S_1 b2))) →
    cA S_1 x0 2 ∧ ((∃ b3 : Nat, cr S_1 65 x0 = some b3 ∧ (cX S_1 b3 16 r_1 ∧ (∀ S4 : cS, S4 = cSI S_1 b3 (r_1).toNatClampNeg ((bI true)) → Q ((bI true)) S4))))) ∧
   (¬ r_1 < ((nI (cn S_1 b2))) →
    Q ((bI false)) S_1))))))))) dp x0 x1 S)
set_option maxHeartbeats 1000000 in
set_option maxRecDepth 20000 in
theorem t_X2_kill (l : Launch) (x0 : Nat) (x1 : Int32) (S : cS) (dp : Nat) {P : Int32 → cS → Prop} (h : k_X2_kill P dp x0 x1 S) : cMet (cQi P) l yX2_kill cX2_kill 3 (some .boolean) 4 0 0 86 [.ref x0, .int x1] S dp := by
  intro D Y tp sz
  refine cg_body (by decide +kernel) (Nat.le_of_ble_eq_true rfl) ?_
  intro p e s m args below meth c C
  generalize va_A (cWd Y S) sz = A at C ⊢
  have C : cC p s m args meth c cX2_kill 3 (some .boolean) A D Y tp dp RX2 := C
  refine cg_lv (lv' := [(0, .ref x0), (1, .int x1)]) rfl ?_
  unfold k_X2_kill at h
  refine cg_aload_n C (i := 0) rfl 0 rfl dX2_kill_0 ?_
  refine cg_iload_n C (i := 1) rfl 1 rfl dX2_kill_1 ?_
  obtain ⟨hc_2, h⟩ := h
  refine cg_calli C (t_X2_liveAt l x0 x1 S dp h) cc_X2_51 hc_2.1 hc_2.2 (by decide) rfl rfl ⟨by decide, by decide⟩ ⟨by decide, by decide⟩ rfl (Nat.le_of_ble_eq_true rfl) dX2_kill_2 (fun r_1 S_1 h => ?_)
  refine cg_istore_n C (i := 2) (lv' := [(2, .int r_1), (0, .ref x0), (1, .int x1)]) rfl (Nat.le_of_ble_eq_true rfl) rfl dX2_kill_5 ?_
  refine cg_iload_n C (i := 2) rfl 0 rfl dX2_kill_6 ?_
  refine cg_iconst C (x := (-1)) rfl dX2_kill_7 ?_
  refine cg_icmp_eq C 20 (by decide) dX2_kill_8 (fun c_ => ?_) (fun c_ => ?_)
  · have h := h.1 c_
    refine cg_iconst C (x := nI 0) rfl dX2_kill_20 ?_
    refine cg_cast (.int (bI false)) rfl ?_
    exact cg_zret C (bI_nar _) h dX2_kill_21 (by decide) (by decide)
  · have h := h.2 c_
    refine cg_iload_n C (i := 2) rfl 0 rfl dX2_kill_11 ?_
    refine cg_aload_n C (i := 0) rfl 1 rfl dX2_kill_12 ?_
    obtain ⟨hc_13, h⟩ := h
    obtain ⟨b2, hb_b2, h⟩ := h
    refine cg_get C (k := 2) (j := 1) (.ref b2) hc_13.1 hc_13.2 (by decide) rfl (by decide) rfl (show cV _ 2 1 x0 = _ from congrArg va_rf hb_b2) cWs_wsX20 cl_X2_21 rfl dX2_kill_13 ?_
    obtain ⟨hc_16, h⟩ := h
    refine cg_alen C hc_16.1 hc_16.2 (by decide) (by decide) dX2_kill_16 ?_
    refine cg_icmp_lt C 22 (by decide) dX2_kill_17 (fun c_ => ?_) (fun c_ => ?_)
    · have h := h.1 c_
      refine cg_aload_n C (i := 0) rfl 1 rfl dX2_kill_22 ?_
      obtain ⟨hc_23, h⟩ := h
      obtain ⟨b3, hb_b3, h⟩ := h
      refine cg_get C (k := 2) (j := 1) (.ref b3) hc_23.1 hc_23.2 (by decide) rfl (by decide) rfl (show cV _ 2 1 x0 = _ from congrArg va_rf hb_b3) cWs_wsX20 cl_X2_21 rfl dX2_kill_23 ?_
      refine cg_iload_n C (i := 2) rfl 0 rfl dX2_kill_26 ?_
      refine cg_iconst C (x := nI 1) rfl dX2_kill_27 ?_
      obtain ⟨hc_28, h⟩ := h
      refine cg_cast (.int (bI true)) rfl ?_
      refine cg_zastoreR C hc_28 (bI_vp _) dX2_kill_28 ?_
      refine cg_nm (fun S4 e_S4 => ?_)
      have h := h S4 e_S4
      refine cg_iconst C (x := nI 1) rfl dX2_kill_29 ?_
      refine cg_cast (.int (bI true)) rfl ?_
      exact cg_zret C (bI_nar _) h dX2_kill_30 (by decide) (by decide)
    · have h := h.2 c_
      refine cg_iconst C (x := nI 0) rfl dX2_kill_20 ?_
      refine cg_cast (.int (bI false)) rfl ?_
      exact cg_zret C (bI_nar _) h dX2_kill_21 (by decide) (by decide)
def k_J8_hugeLength_7cf53 (Q : Int32 → cS → Prop) (dp : Nat) (mc ms : Nat) (x0 : Int32) (x1 : Int32) (S : cS) : Prop :=
∀ x2_1 : Int32, x2_1 = (x0 + x1) → ((0 ≤ x2_1 →
  (((((2147483639))) < x2_1 →
    (0 ≤ mc ∧ 0 ≤ ms) ∧ (Q x2_1 S)) ∧
   (¬ (((2147483639))) < x2_1 →
    (0 ≤ mc ∧ 0 ≤ ms) ∧ (Q (((2147483639))) S)))) ∧
 (¬ 0 ≤ x2_1 →
  False))
set_option maxHeartbeats 1000000 in
set_option maxRecDepth 20000 in
theorem t_J8_hugeLength_7cf53 (l : Launch) (mc ms : Nat) (x0 : Int32) (x1 : Int32) (S : cS) (dp : Nat) {P : Int32 → cS → Prop} (h : k_J8_hugeLength_7cf53 P dp mc ms x0 x1 S) : cMet (cQi P) l yJ8_hugeLength_7cf53 cJ8_hugeLength_7cf53 3 (some .int) 0 mc ms 0 [.int x0, .int x1] S dp := by
  intro D Y tp sz
  refine cg_body (by decide +kernel) (Nat.le_of_ble_eq_true rfl) ?_
  intro p e s m args below meth c C
  generalize va_A (cWd Y S) sz = A at C ⊢
  have C : cC p s m args meth c cJ8_hugeLength_7cf53 3 (some .int) A D Y tp dp RJ8 := C
  refine cg_lv (lv' := [(0, .int x0), (1, .int x1)]) rfl ?_
  unfold k_J8_hugeLength_7cf53 at h
  refine cg_iload_n C (i := 0) rfl 0 rfl dJ8_hugeLength_7cf53_0 ?_
  refine cg_iload_n C (i := 1) rfl 1 rfl dJ8_hugeLength_7cf53_1 ?_
  refine cg_iadd C dJ8_hugeLength_7cf53_2 ?_
  refine cg_nmI (fun x2_1 e_x2_1 => ?_)
  have h := h x2_1 e_x2_1
  refine cg_istore_n C (i := 2) (lv' := [(2, .int x2_1), (0, .int x0), (1, .int x1)]) rfl (Nat.le_of_ble_eq_true rfl) rfl dJ8_hugeLength_7cf53_3 ?_
  refine cg_iload_n C (i := 2) rfl 0 rfl dJ8_hugeLength_7cf53_4 ?_
  refine cg_if_ge C 49 (by decide) dJ8_hugeLength_7cf53_5 (fun c_ => ?_) (fun c_ => ?_)
  · have h := h.1 c_
    refine cg_iload_n C (i := 2) rfl 0 rfl dJ8_hugeLength_7cf53_49 ?_
    refine cg_ldc C (x := (2147483639)) ckw_J8_200 dJ8_hugeLength_7cf53_50 ?_
    refine cg_icmp_gt C 58 (by decide) dJ8_hugeLength_7cf53_52 (fun c_ => ?_) (fun c_ => ?_)
    · have h := h.1 c_
      refine cg_iload_n C (i := 2) rfl 0 rfl dJ8_hugeLength_7cf53_58 ?_
      obtain ⟨hb_59, h⟩ := h
      exact cg_iret C h dJ8_hugeLength_7cf53_59 hb_59.1 hb_59.2
    · have h := h.2 c_
      refine cg_ldc C (x := (2147483639)) ckw_J8_200 dJ8_hugeLength_7cf53_55 ?_
      obtain ⟨hb_57, h⟩ := h
      exact cg_iret C h dJ8_hugeLength_7cf53_57 hb_57.1 hb_57.2
  · have h := h.2 c_
    exact h.elim
def k_J8_newLength_cabcc_21 (Q : Int32 → cS → Prop) (dp : Nat) (mc ms : Nat)  (x0 : Int32) (x1 : Int32) (cd dd : Nat) (S : cS) : Prop :=
(∃ mc2 ms3 : Nat, cd + mc2 ≤ mc ∧ dd + ms3 ≤ ms ∧ (k_J8_hugeLength_7cf53 (fun r_4 S_4 => 
(cd + mc2 ≤ mc ∧ dd + ms3 ≤ ms) ∧ (Q r_4 S_4)) dp mc2 ms3 x0 x1 S))
def k_J8_newLength_cabcc (Q : Int32 → cS → Prop) (dp : Nat) (mc ms : Nat) (x0 : Int32) (x1 : Int32) (x2 : Int32) (S : cS) : Prop :=
(0 ≤ mc ∧ 0 ≤ ms) ∧ (∀ x3_1 : Int32, x3_1 = (x0 + ((if x1 < x2 then x2 else x1))) → ((x3_1 ≤ ((nI 0)) →
  k_J8_newLength_cabcc_21 Q dp mc ms  x0 x1 0 0 S) ∧
 (¬ x3_1 ≤ ((nI 0)) →
  (((((2147483639))) < x3_1 →
    k_J8_newLength_cabcc_21 Q dp mc ms  x0 x1 0 0 S) ∧
   (¬ (((2147483639))) < x3_1 →
    (0 ≤ mc ∧ 0 ≤ ms) ∧ (Q x3_1 S))))))
section S_J8_newLength_cabcc
variable {p : Program} {l : Launch} {e : Env} {s : State} {m : MethodId} {args : Array Value} {below : List Frame} {meth : Method} {c : Code} {A : Nat → Prop} {D : va_G} {Y : cY} {tp dp : Nat}
set_option maxRecDepth 20000 in
theorem tb_J8_newLength_cabcc_21 {mc ms : Nat} (C : cC p s m args meth c cJ8_newLength_cabcc 4 (some .int) A D Y tp dp RJ8) {post : Int32 → cS → Prop}   (x0 : Int32) (x1 : Int32) (cd dd : Nat) (S : cS) (h : k_J8_newLength_cabcc_21 post dp mc ms  x0 x1 cd dd S) : cG p l e (cRm 1 mc ms 22) s m args below meth c A D Y 4 (MQ below (cQi post D Y A) args s mc ms A) cd dd 21 [(0, .int x0), (1, .int x1)] [] S := by
  unfold k_J8_newLength_cabcc_21 at h
  refine cg_iload_n C (i := 0) rfl 0 rfl dJ8_newLength_cabcc_21 ?_
  refine cg_iload_n C (i := 1) rfl 1 rfl dJ8_newLength_cabcc_22 ?_
  obtain ⟨mc2, ms3, hm_1, hm_2, h⟩ := h
  refine cg_callsi C (t_J8_hugeLength_7cf53 l mc2 ms3 x0 x1 S dp h) cc_J8_201 rfl ⟨by decide, by decide⟩ ⟨hm_1, hm_2⟩ rfl (Nat.le_of_ble_eq_true rfl) dJ8_newLength_cabcc_23 (fun r_4 S_4 h => ?_)
  obtain ⟨hb_26, h⟩ := h
  exact cg_iret C h dJ8_newLength_cabcc_26 hb_26.1 hb_26.2
end S_J8_newLength_cabcc
set_option maxHeartbeats 1000000 in
set_option maxRecDepth 20000 in
theorem t_J8_newLength_cabcc (l : Launch) (mc ms : Nat) (x0 : Int32) (x1 : Int32) (x2 : Int32) (S : cS) (dp : Nat) {P : Int32 → cS → Prop} (h : k_J8_newLength_cabcc P dp mc ms x0 x1 x2 S) : cMet (cQi P) l yJ8_newLength_cabcc cJ8_newLength_cabcc 4 (some .int) 1 mc ms 22 [.int x0, .int x1, .int x2] S dp := by
  intro D Y tp sz
  refine cg_body (by decide +kernel) (Nat.le_of_ble_eq_true rfl) ?_
  intro p e s m args below meth c C
  generalize va_A (cWd Y S) sz = A at C ⊢
  have C : cC p s m args meth c cJ8_newLength_cabcc 4 (some .int) A D Y tp dp RJ8 := C
  refine cg_lv (lv' := [(0, .int x0), (1, .int x1), (2, .int x2)]) rfl ?_
  unfold k_J8_newLength_cabcc at h
  refine cg_iload_n C (i := 0) rfl 0 rfl dJ8_newLength_cabcc_0 ?_
  refine cg_iload_n C (i := 1) rfl 1 rfl dJ8_newLength_cabcc_1 ?_
  refine cg_iload_n C (i := 2) rfl 2 rfl dJ8_newLength_cabcc_2 ?_
  obtain ⟨hc_3, h⟩ := h
  refine cg_mmax C cmmax_J8_194 cmmax_s cmm_i cmmax_c (Nat.le_of_ble_eq_true rfl) (Nat.le_of_ble_eq_true rfl) hc_3.1 hc_3.2 dJ8_newLength_cabcc_3 ?_
  refine cg_iadd C dJ8_newLength_cabcc_6 ?_
  refine cg_nmI (fun x3_1 e_x3_1 => ?_)
  have h := h x3_1 e_x3_1
  refine cg_istore_n C (i := 3) (lv' := [(3, .int x3_1), (0, .int x0), (1, .int x1), (2, .int x2)]) rfl (Nat.le_of_ble_eq_true rfl) rfl dJ8_newLength_cabcc_7 ?_
  refine cg_iconst C (x := nI 0) rfl dJ8_newLength_cabcc_8 ?_
  refine cg_iload_n C (i := 3) rfl 0 rfl dJ8_newLength_cabcc_9 ?_
  refine cg_icmp_ge C 21 (by decide) dJ8_newLength_cabcc_10 (fun c_ => ?_) (fun c_ => ?_)
  · have h := h.1 c_
    exact cg_sub [1, 2] rfl (tb_J8_newLength_cabcc_21 C   x0 x1 0 0 S h)
  · have h := h.2 c_
    refine cg_iload_n C (i := 3) rfl 0 rfl dJ8_newLength_cabcc_13 ?_
    refine cg_ldc C (x := (2147483639)) ckw_J8_200 dJ8_newLength_cabcc_14 ?_
    refine cg_icmp_gt C 21 (by decide) dJ8_newLength_cabcc_16 (fun c_ => ?_) (fun c_ => ?_)
    · have h := h.1 c_
      exact cg_sub [1, 2] rfl (tb_J8_newLength_cabcc_21 C   x0 x1 0 0 S h)
    · have h := h.2 c_
      refine cg_iload_n C (i := 3) rfl 0 rfl dJ8_newLength_cabcc_19 ?_
      obtain ⟨hb_20, h⟩ := h
      exact cg_iret C h dJ8_newLength_cabcc_20 hb_20.1 hb_20.2
def k_Jx4a65c_grow_92f84_20 (Q : Nat → cS → Prop) (dp : Nat) (mc ms : Nat)  (x0 : Nat) (x1 : Int32) (x2 : Int32) (cd dd : Nat) (S : cS) : Prop :=
(∃ mc2 ms3 : Nat, cd + mc2 ≤ mc ∧ dd + ms3 ≤ ms ∧ (k_J8_newLength_cabcc (fun r_4 S_4 => 
cA S_4 x0 12 ∧ ((∃ b5 : Nat, cr S_4 385 x0 = some b5 ∧ (((b5 = dp →
  (∃ mc6 ms7 : Nat, cd + mc2 + mc6 ≤ mc ∧ dd + ms3 + ms7 ≤ ms ∧ (k_J7_copyOf_1904c (fun r_8 S_8 => 
  cA S_8 x0 12 ∧ (∀ S9 : cS, S9 = cSr S_8 385 x0 ((some r_8)) → (cd + mc2 + mc6 ≤ mc ∧ dd + ms3 + ms7 ≤ ms) ∧ (Q r_8 S9))) dp mc6 ms7 dp r_4 S_4))) ∧
 (¬ b5 = dp →
  (∃ mc10 ms11 : Nat, cd + mc2 + mc10 ≤ mc ∧ dd + ms3 + ms11 ≤ ms ∧ (k_J7_copyOf_1904c (fun r_12 S_12 => 
  cA S_12 x0 12 ∧ (∀ S13 : cS, S13 = cSr S_12 385 x0 ((some r_12)) → (cd + mc2 + mc10 ≤ mc ∧ dd + ms3 + ms11 ≤ ms) ∧ (Q r_12 S13))) dp mc10 ms11 b5 r_4 S_4)))))))) dp mc2 ms3 x2 ((x1 - x2)) ((x2 >>> (((nI 1)) &&& 31))) S))
def k_Jx4a65c_grow_92f84 (Q : Nat → cS → Prop) (dp : Nat) (mc ms : Nat) (x0 : Nat) (x1 : Int32) (S : cS) : Prop :=
cA S x0 12 ∧ ((∃ b1 : Nat, cr S 385 x0 = some b1 ∧ (((b1 = dp →
  ((0 < (((nI 0))) →
    k_Jx4a65c_grow_92f84_20 Q dp mc ms  x0 x1 (((nI 0))) 0 0 S) ∧
   (¬ 0 < (((nI 0))) →
    cA S x0 12 ∧ ((∃ b14 : Nat, cr S 385 x0 = some b14 ∧ (((b14 = dp →
      ((dp = dp →
        (0 ≤ mc ∧ 0 ≤ ms) ∧ ((∃ n15 : Nat, (if ((nI 10)) < x1 then x1 else ((nI 10))) = nI n15 ∧ n15 < 2 ^ 20 ∧ 0 + 1 ≤ mc ∧ 0 + n15 ≤ ms ∧ (∀ q16 : Nat, q16 ∉ cL S → q16 ≠ dp → ∀ S17 : cS, S17 = cNewA S q16 17 n15 → cA S17 x0 12 ∧ (∀ S18 : cS, S18 = cSr S17 385 x0 ((some q16)) → (0 + 1 ≤ mc ∧ 0 + n15 ≤ ms) ∧ (Q q16 S18)))))) ∧
       (¬ dp = dp →
        k_Jx4a65c_grow_92f84_20 Q dp mc ms  x0 x1 (((nI 0))) 0 0 S))) ∧
     (¬ b14 = dp →
      ((b14 = dp →
        (0 ≤ mc ∧ 0 ≤ ms) ∧ ((∃ n19 : Nat, (if ((nI 10)) < x1 then x1 else ((nI 10))) = nI n19 ∧ n19 < 2 ^ 20 ∧ 0 + 1 ≤ mc ∧ 0 + n19 ≤ ms ∧ (∀ q20 : Nat, q20 ∉ cL S → q20 ≠ dp → ∀ S21 : cS, S21 = cNewA S q20 17 n19 → cA S21 x0 12 ∧ (∀ S22 : cS, S22 = cSr S21 385 x0 ((some q20)) → (0 + 1 ≤ mc ∧ 0 + n19 ≤ ms) ∧ (Q q20 S22)))))) ∧
       (¬ b14 = dp →
        k_Jx4a65c_grow_92f84_20 Q dp mc ms  x0 x1 (((nI 0))) 0 0 S)))))))))) ∧
 (¬ b1 = dp →
  cA S b1 17 ∧ (∀ x2_23 : Int32, x2_23 = (nI (cn S b1)) → ((0 < x2_23 →
    k_Jx4a65c_grow_92f84_20 Q dp mc ms  x0 x1 x2_23 0 0 S) ∧
   (¬ 0 < x2_23 →
    cA S x0 12 ∧ ((∃ b24 : Nat, cr S 385 x0 = some b24 ∧ (((b24 = dp →
      ((dp = dp →
        (0 ≤ mc ∧ 0 ≤ ms) ∧ ((∃ n25 : Nat, (if ((nI 10)) < x1 then x1 else ((nI 10))) = nI n25 ∧ n25 < 2 ^ 20 ∧ 0 + 1 ≤ mc ∧ 0 + n25 ≤ ms ∧ (∀ q26 : Nat, q26 ∉ cL S → q26 ≠ dp → ∀ S27 : cS, S27 = cNewA S q26 17 n25 → cA S27 x0 12 ∧ (∀ S28 : cS, S28 = cSr S27 385 x0 ((some q26)) → (0 + 1 ≤ mc ∧ 0 + n25 ≤ ms) ∧ (Q q26 S28)))))) ∧
       (¬ dp = dp →
        k_Jx4a65c_grow_92f84_20 Q dp mc ms  x0 x1 x2_23 0 0 S))) ∧
     (¬ b24 = dp →
      ((b24 = dp →
        (0 ≤ mc ∧ 0 ≤ ms) ∧ ((∃ n29 : Nat, (if ((nI 10)) < x1 then x1 else ((nI 10))) = nI n29 ∧ n29 < 2 ^ 20 ∧ 0 + 1 ≤ mc ∧ 0 + n29 ≤ ms ∧ (∀ q30 : Nat, q30 ∉ cL S → q30 ≠ dp → ∀ S31 : cS, S31 = cNewA S q30 17 n29 → cA S31 x0 12 ∧ (∀ S32 : cS, S32 = cSr S31 385 x0 ((some q30)) → (0 + 1 ≤ mc ∧ 0 + n29 ≤ ms) ∧ (Q q30 S32)))))) ∧
       (¬ b24 = dp →
        k_Jx4a65c_grow_92f84_20 Q dp mc ms  x0 x1 x2_23 0 0 S)))))))))))))))
section S_Jx4a65c_grow_92f84
variable {p : Program} {l : Launch} {e : Env} {s : State} {m : MethodId} {args : Array Value} {below : List Frame} {meth : Method} {c : Code} {A : Nat → Prop} {D : va_G} {Y : cY} {tp dp : Nat}
set_option maxRecDepth 20000 in
theorem tb_Jx4a65c_grow_92f84_20 {mc ms : Nat} (C : cC p s m args meth c cJx4a65c_grow_92f84 4 (some (.array (.object "java/lang/Object"))) A D Y tp dp RJx4a65c) {post : Nat → cS → Prop}   (x0 : Nat) (x1 : Int32) (x2 : Int32) (cd dd : Nat) (S : cS) (h : k_Jx4a65c_grow_92f84_20 post dp mc ms  x0 x1 x2 cd dd S) : cG p l e (cRm 4 mc ms 101) s m args below meth c A D Y 4 (MQ below (cQr post D Y A) args s mc ms A) cd dd 20 [(0, .ref x0), (1, .int x1), (2, .int x2)] [] S := by
  unfold k_Jx4a65c_grow_92f84_20 at h
  refine cg_iload_n C (i := 2) rfl 2 rfl dJx4a65c_grow_92f84_20 ?_
  refine cg_iload_n C (i := 1) rfl 1 rfl dJx4a65c_grow_92f84_21 ?_
  refine cg_iload_n C (i := 2) rfl 2 rfl dJx4a65c_grow_92f84_22 ?_
  refine cg_isub C dJx4a65c_grow_92f84_23 ?_
  refine cg_iload_n C (i := 2) rfl 2 rfl dJx4a65c_grow_92f84_24 ?_
  refine cg_iconst C (x := nI 1) rfl dJx4a65c_grow_92f84_25 ?_
  refine cg_ishr C dJx4a65c_grow_92f84_26 ?_
  obtain ⟨mc2, ms3, hm_1, hm_2, h⟩ := h
  refine cg_callsi C (t_J8_newLength_cabcc l mc2 ms3 x2 ((x1 - x2)) ((x2 >>> (((nI 1)) &&& 31))) S dp h) cc_Jx4a65c_73 rfl ⟨by decide, by decide⟩ ⟨hm_1, hm_2⟩ rfl (Nat.le_of_ble_eq_true rfl) dJx4a65c_grow_92f84_27 (fun r_4 S_4 h => ?_)
  refine cg_istore_n C (i := 3) (lv' := [(3, .int r_4), (0, .ref x0), (1, .int x1), (2, .int x2)]) rfl (Nat.le_of_ble_eq_true rfl) rfl dJx4a65c_grow_92f84_30 ?_
  refine cg_aload_n C (i := 0) rfl 1 rfl dJx4a65c_grow_92f84_31 ?_
  refine cg_aload_n C (i := 0) rfl 1 rfl dJx4a65c_grow_92f84_32 ?_
  obtain ⟨hc_33, h⟩ := h
  obtain ⟨b5, hb_b5, h⟩ := h
  by_cases hd : b5 = dp
  · have h := h.1 hd
    refine cg_get C (k := 12) (j := 1) (.ref dp) hc_33.1 hc_33.2 (by decide) rfl (by decide) rfl (show cV _ 12 1 x0 = _ from congrArg va_rf (hb_b5.trans (congrArg some hd))) cWs_wsJx4a65c0 cl_Jx4a65c_9 rfl dJx4a65c_grow_92f84_33 ?_
    refine cg_iload_n C (i := 3) rfl 0 rfl dJx4a65c_grow_92f84_36 ?_
    obtain ⟨mc6, ms7, hm_1, hm_2, h⟩ := h
    refine cg_callsr C (t_J7_copyOf_1904c l mc6 ms7 dp r_4 S_4 dp h) cc_Jx4a65c_66 rfl ⟨by decide, by decide⟩ ⟨hm_1, hm_2⟩ rfl (Nat.le_of_ble_eq_true rfl) dJx4a65c_grow_92f84_37 (fun r_8 S_8 h => ?_)
    refine cg_dup_x1 C rfl rfl dJx4a65c_grow_92f84_40 ?_
    obtain ⟨hc_41, h⟩ := h
    refine cg_putr C (k := 12) (j := 1) (x := (some r_8)) (ty := tyJx4a65c) (fty := tyJx4a65c 1) hc_41.1 hc_41.2 (by decide) rfl (by decide) rfl (by decide) rfl cWs_wsJx4a65c0 tyJx4a65c_ok nmJx4a65c cl_Jx4a65c_9 rfl rfl rfl rfl rfl dJx4a65c_grow_92f84_41 ?_
    refine cg_nm (fun S9 e_S9 => ?_)
    have h := h S9 e_S9
    obtain ⟨hb_44, h⟩ := h
    exact cg_aret C rfl (by first | exact Or.inl ⟨_, rfl⟩ | exact Or.inr ⟨_, rfl⟩) h dJx4a65c_grow_92f84_44 hb_44.1 hb_44.2
  · have h := h.2 hd
    refine cg_get C (k := 12) (j := 1) (.ref b5) hc_33.1 hc_33.2 (by decide) rfl (by decide) rfl (show cV _ 12 1 x0 = _ from congrArg va_rf (hb_b5)) cWs_wsJx4a65c0 cl_Jx4a65c_9 rfl dJx4a65c_grow_92f84_33 ?_
    refine cg_iload_n C (i := 3) rfl 0 rfl dJx4a65c_grow_92f84_36 ?_
    obtain ⟨mc10, ms11, hm_1, hm_2, h⟩ := h
    refine cg_callsr C (t_J7_copyOf_1904c l mc10 ms11 b5 r_4 S_4 dp h) cc_Jx4a65c_66 rfl ⟨by decide, by decide⟩ ⟨hm_1, hm_2⟩ rfl (Nat.le_of_ble_eq_true rfl) dJx4a65c_grow_92f84_37 (fun r_12 S_12 h => ?_)
    refine cg_dup_x1 C rfl rfl dJx4a65c_grow_92f84_40 ?_
    obtain ⟨hc_41, h⟩ := h
    refine cg_putr C (k := 12) (j := 1) (x := (some r_12)) (ty := tyJx4a65c) (fty := tyJx4a65c 1) hc_41.1 hc_41.2 (by decide) rfl (by decide) rfl (by decide) rfl cWs_wsJx4a65c0 tyJx4a65c_ok nmJx4a65c cl_Jx4a65c_9 rfl rfl rfl rfl rfl dJx4a65c_grow_92f84_41 ?_
    refine cg_nm (fun S13 e_S13 => ?_)
    have h := h S13 e_S13
    obtain ⟨hb_44, h⟩ := h
    exact cg_aret C rfl (by first | exact Or.inl ⟨_, rfl⟩ | exact Or.inr ⟨_, rfl⟩) h dJx4a65c_grow_92f84_44 hb_44.1 hb_44.2
end S_Jx4a65c_grow_92f84
set_option maxHeartbeats 1000000 in
set_option maxRecDepth 20000 in
theorem t_Jx4a65c_grow_92f84 (l : Launch) (mc ms : Nat) (x0 : Nat) (x1 : Int32) (S : cS) (dp : Nat) {P : Nat → cS → Prop} (h : k_Jx4a65c_grow_92f84 P dp mc ms x0 x1 S) : cMet (cQr P) l yJx4a65c_grow_92f84 cJx4a65c_grow_92f84 4 (some (.array (.object "java/lang/Object"))) 4 mc ms 101 [.ref x0, .int x1] S dp := by
  intro D Y tp sz
  refine cg_body (by decide +kernel) (Nat.le_of_ble_eq_true rfl) ?_
  intro p e s m args below meth c C
  generalize va_A (cWd Y S) sz = A at C ⊢
  have C : cC p s m args meth c cJx4a65c_grow_92f84 4 (some (.array (.object "java/lang/Object"))) A D Y tp dp RJx4a65c := C
  refine cg_lv (lv' := [(0, .ref x0), (1, .int x1)]) rfl ?_
  unfold k_Jx4a65c_grow_92f84 at h
  refine cg_aload_n C (i := 0) rfl 0 rfl dJx4a65c_grow_92f84_0 ?_
  obtain ⟨hc_1, h⟩ := h
  obtain ⟨b1, hb_b1, h⟩ := h
  by_cases hd : b1 = dp
  · have h := h.1 hd
    refine cg_get C (k := 12) (j := 1) (.ref dp) hc_1.1 hc_1.2 (by decide) rfl (by decide) rfl (show cV _ 12 1 x0 = _ from congrArg va_rf (hb_b1.trans (congrArg some hd))) cWs_wsJx4a65c0 cl_Jx4a65c_9 rfl dJx4a65c_grow_92f84_1 ?_
    refine cg_dlen C dJx4a65c_grow_92f84_4 ?_
    refine cg_istore_n C (i := 2) (lv' := [(2, .int ((nI 0))), (0, .ref x0), (1, .int x1)]) rfl (Nat.le_of_ble_eq_true rfl) rfl dJx4a65c_grow_92f84_5 ?_
    refine cg_iload_n C (i := 2) rfl 0 rfl dJx4a65c_grow_92f84_6 ?_
    refine cg_if_gt C 20 (by decide) dJx4a65c_grow_92f84_7 (fun c_ => ?_) (fun c_ => ?_)
    · have h := h.1 c_
      exact cg_sub [1, 2, 0] rfl (tb_Jx4a65c_grow_92f84_20 C   x0 x1 (((nI 0))) 0 0 S h)
    · have h := h.2 c_
      refine cg_aload_n C (i := 0) rfl 1 rfl dJx4a65c_grow_92f84_10 ?_
      obtain ⟨hc_11, h⟩ := h
      obtain ⟨b14, hb_b14, h⟩ := h
      by_cases hd : b14 = dp
      · have h := h.1 hd
        refine cg_get C (k := 12) (j := 1) (.ref dp) hc_11.1 hc_11.2 (by decide) rfl (by decide) rfl (show cV _ 12 1 x0 = _ from congrArg va_rf (hb_b14.trans (congrArg some hd))) cWs_wsJx4a65c0 cl_Jx4a65c_9 rfl dJx4a65c_grow_92f84_11 ?_
        refine cg_dflt C cl_dflt_39 dJx4a65c_grow_92f84_14 ?_
        refine cg_acmp_eq C 45 (by decide) dJx4a65c_grow_92f84_17 (fun c_ => ?_) (fun c_ => ?_)
        · have h := h.1 c_
          refine cg_aload_n C (i := 0) rfl 1 rfl dJx4a65c_grow_92f84_45 ?_
          refine cg_bipush C (x := nI 10) rfl dJx4a65c_grow_92f84_46 ?_
          refine cg_iload_n C (i := 1) rfl 2 rfl dJx4a65c_grow_92f84_48 ?_
          obtain ⟨hc_49, h⟩ := h
          refine cg_mmax C cmmax_Jx4a65c_79 cmmax_s cmm_i cmmax_c (Nat.le_of_ble_eq_true rfl) (Nat.le_of_ble_eq_true rfl) hc_49.1 hc_49.2 dJx4a65c_grow_92f84_49 ?_
          obtain ⟨n15, hn_1, hn_2, hn_3, hn_4, h⟩ := h
          refine cg_cast (.int (nI n15)) (congrArg Value.int hn_1) ?_
          refine cg_newO C n15 hn_2 cx_Jx4a65c_7 hn_3 hn_4 dJx4a65c_grow_92f84_52 (fun q16 hf_q16 hd_q16 => ?_)
          have h := h q16 hf_q16 hd_q16
          refine cg_nm (fun S17 e_S17 => ?_)
          have h := h S17 e_S17
          refine cg_dup_x1 C rfl rfl dJx4a65c_grow_92f84_55 ?_
          obtain ⟨hc_56, h⟩ := h
          refine cg_putr C (k := 12) (j := 1) (x := (some q16)) (ty := tyJx4a65c) (fty := tyJx4a65c 1) hc_56.1 hc_56.2 (by decide) rfl (by decide) rfl (by decide) rfl cWs_wsJx4a65c0 tyJx4a65c_ok nmJx4a65c cl_Jx4a65c_9 rfl rfl rfl rfl rfl dJx4a65c_grow_92f84_56 ?_
          refine cg_nm (fun S18 e_S18 => ?_)
          have h := h S18 e_S18
          obtain ⟨hb_59, h⟩ := h
          exact cg_aret C rfl (by first | exact Or.inl ⟨_, rfl⟩ | exact Or.inr ⟨_, rfl⟩) h dJx4a65c_grow_92f84_59 hb_59.1 hb_59.2
        · have h := h.2 c_
          exact cg_sub [1, 2, 0] rfl (tb_Jx4a65c_grow_92f84_20 C   x0 x1 (((nI 0))) 0 0 S h)
      · have h := h.2 hd
        refine cg_get C (k := 12) (j := 1) (.ref b14) hc_11.1 hc_11.2 (by decide) rfl (by decide) rfl (show cV _ 12 1 x0 = _ from congrArg va_rf (hb_b14)) cWs_wsJx4a65c0 cl_Jx4a65c_9 rfl dJx4a65c_grow_92f84_11 ?_
        refine cg_dflt C cl_dflt_39 dJx4a65c_grow_92f84_14 ?_
        refine cg_acmp_eq C 45 (by decide) dJx4a65c_grow_92f84_17 (fun c_ => ?_) (fun c_ => ?_)
        · have h := h.1 c_
          refine cg_aload_n C (i := 0) rfl 1 rfl dJx4a65c_grow_92f84_45 ?_
          refine cg_bipush C (x := nI 10) rfl dJx4a65c_grow_92f84_46 ?_
          refine cg_iload_n C (i := 1) rfl 2 rfl dJx4a65c_grow_92f84_48 ?_
          obtain ⟨hc_49, h⟩ := h
          refine cg_mmax C cmmax_Jx4a65c_79 cmmax_s cmm_i cmmax_c (Nat.le_of_ble_eq_true rfl) (Nat.le_of_ble_eq_true rfl) hc_49.1 hc_49.2 dJx4a65c_grow_92f84_49 ?_
          obtain ⟨n19, hn_1, hn_2, hn_3, hn_4, h⟩ := h
          refine cg_cast (.int (nI n19)) (congrArg Value.int hn_1) ?_
          refine cg_newO C n19 hn_2 cx_Jx4a65c_7 hn_3 hn_4 dJx4a65c_grow_92f84_52 (fun q20 hf_q20 hd_q20 => ?_)
          have h := h q20 hf_q20 hd_q20
          refine cg_nm (fun S21 e_S21 => ?_)
          have h := h S21 e_S21
          refine cg_dup_x1 C rfl rfl dJx4a65c_grow_92f84_55 ?_
          obtain ⟨hc_56, h⟩ := h
          refine cg_putr C (k := 12) (j := 1) (x := (some q20)) (ty := tyJx4a65c) (fty := tyJx4a65c 1) hc_56.1 hc_56.2 (by decide) rfl (by decide) rfl (by decide) rfl cWs_wsJx4a65c0 tyJx4a65c_ok nmJx4a65c cl_Jx4a65c_9 rfl rfl rfl rfl rfl dJx4a65c_grow_92f84_56 ?_
          refine cg_nm (fun S22 e_S22 => ?_)
          have h := h S22 e_S22
          obtain ⟨hb_59, h⟩ := h
          exact cg_aret C rfl (by first | exact Or.inl ⟨_, rfl⟩ | exact Or.inr ⟨_, rfl⟩) h dJx4a65c_grow_92f84_59 hb_59.1 hb_59.2
        · have h := h.2 c_
          exact cg_sub [1, 2, 0] rfl (tb_Jx4a65c_grow_92f84_20 C   x0 x1 (((nI 0))) 0 0 S h)
  · have h := h.2 hd
    refine cg_get C (k := 12) (j := 1) (.ref b1) hc_1.1 hc_1.2 (by decide) rfl (by decide) rfl (show cV _ 12 1 x0 = _ from congrArg va_rf (hb_b1)) cWs_wsJx4a65c0 cl_Jx4a65c_9 rfl dJx4a65c_grow_92f84_1 ?_
    obtain ⟨hc_4, h⟩ := h
    refine cg_alen C hc_4.1 hc_4.2 (by decide) (by decide) dJx4a65c_grow_92f84_4 ?_
    refine cg_nmI (fun x2_23 e_x2_23 => ?_)
    have h := h x2_23 e_x2_23
    refine cg_istore_n C (i := 2) (lv' := [(2, .int x2_23), (0, .ref x0), (1, .int x1)]) rfl (Nat.le_of_ble_eq_true rfl) rfl dJx4a65c_grow_92f84_5 ?_
    refine cg_iload_n C (i := 2) rfl 0 rfl dJx4a65c_grow_92f84_6 ?_
    refine cg_if_gt C 20 (by decide) dJx4a65c_grow_92f84_7 (fun c_ => ?_) (fun c_ => ?_)
    · have h := h.1 c_
      exact cg_sub [1, 2, 0] rfl (tb_Jx4a65c_grow_92f84_20 C   x0 x1 x2_23 0 0 S h)
    · have h := h.2 c_
      refine cg_aload_n C (i := 0) rfl 1 rfl dJx4a65c_grow_92f84_10 ?_
      obtain ⟨hc_11, h⟩ := h
      obtain ⟨b24, hb_b24, h⟩ := h
      by_cases hd : b24 = dp
      · have h := h.1 hd
        refine cg_get C (k := 12) (j := 1) (.ref dp) hc_11.1 hc_11.2 (by decide) rfl (by decide) rfl (show cV _ 12 1 x0 = _ from congrArg va_rf (hb_b24.trans (congrArg some hd))) cWs_wsJx4a65c0 cl_Jx4a65c_9 rfl dJx4a65c_grow_92f84_11 ?_
        refine cg_dflt C cl_dflt_39 dJx4a65c_grow_92f84_14 ?_
        refine cg_acmp_eq C 45 (by decide) dJx4a65c_grow_92f84_17 (fun c_ => ?_) (fun c_ => ?_)
        · have h := h.1 c_
          refine cg_aload_n C (i := 0) rfl 1 rfl dJx4a65c_grow_92f84_45 ?_
          refine cg_bipush C (x := nI 10) rfl dJx4a65c_grow_92f84_46 ?_
          refine cg_iload_n C (i := 1) rfl 2 rfl dJx4a65c_grow_92f84_48 ?_
          obtain ⟨hc_49, h⟩ := h
          refine cg_mmax C cmmax_Jx4a65c_79 cmmax_s cmm_i cmmax_c (Nat.le_of_ble_eq_true rfl) (Nat.le_of_ble_eq_true rfl) hc_49.1 hc_49.2 dJx4a65c_grow_92f84_49 ?_
          obtain ⟨n25, hn_1, hn_2, hn_3, hn_4, h⟩ := h
          refine cg_cast (.int (nI n25)) (congrArg Value.int hn_1) ?_
          refine cg_newO C n25 hn_2 cx_Jx4a65c_7 hn_3 hn_4 dJx4a65c_grow_92f84_52 (fun q26 hf_q26 hd_q26 => ?_)
          have h := h q26 hf_q26 hd_q26
          refine cg_nm (fun S27 e_S27 => ?_)
          have h := h S27 e_S27
          refine cg_dup_x1 C rfl rfl dJx4a65c_grow_92f84_55 ?_
          obtain ⟨hc_56, h⟩ := h
          refine cg_putr C (k := 12) (j := 1) (x := (some q26)) (ty := tyJx4a65c) (fty := tyJx4a65c 1) hc_56.1 hc_56.2 (by decide) rfl (by decide) rfl (by decide) rfl cWs_wsJx4a65c0 tyJx4a65c_ok nmJx4a65c cl_Jx4a65c_9 rfl rfl rfl rfl rfl dJx4a65c_grow_92f84_56 ?_
          refine cg_nm (fun S28 e_S28 => ?_)
          have h := h S28 e_S28
          obtain ⟨hb_59, h⟩ := h
          exact cg_aret C rfl (by first | exact Or.inl ⟨_, rfl⟩ | exact Or.inr ⟨_, rfl⟩) h dJx4a65c_grow_92f84_59 hb_59.1 hb_59.2
        · have h := h.2 c_
          exact cg_sub [1, 2, 0] rfl (tb_Jx4a65c_grow_92f84_20 C   x0 x1 x2_23 0 0 S h)
      · have h := h.2 hd
        refine cg_get C (k := 12) (j := 1) (.ref b24) hc_11.1 hc_11.2 (by decide) rfl (by decide) rfl (show cV _ 12 1 x0 = _ from congrArg va_rf (hb_b24)) cWs_wsJx4a65c0 cl_Jx4a65c_9 rfl dJx4a65c_grow_92f84_11 ?_
        refine cg_dflt C cl_dflt_39 dJx4a65c_grow_92f84_14 ?_
        refine cg_acmp_eq C 45 (by decide) dJx4a65c_grow_92f84_17 (fun c_ => ?_) (fun c_ => ?_)
        · have h := h.1 c_
          refine cg_aload_n C (i := 0) rfl 1 rfl dJx4a65c_grow_92f84_45 ?_
          refine cg_bipush C (x := nI 10) rfl dJx4a65c_grow_92f84_46 ?_
          refine cg_iload_n C (i := 1) rfl 2 rfl dJx4a65c_grow_92f84_48 ?_
          obtain ⟨hc_49, h⟩ := h
          refine cg_mmax C cmmax_Jx4a65c_79 cmmax_s cmm_i cmmax_c (Nat.le_of_ble_eq_true rfl) (Nat.le_of_ble_eq_true rfl) hc_49.1 hc_49.2 dJx4a65c_grow_92f84_49 ?_
          obtain ⟨n29, hn_1, hn_2, hn_3, hn_4, h⟩ := h
          refine cg_cast (.int (nI n29)) (congrArg Value.int hn_1) ?_
          refine cg_newO C n29 hn_2 cx_Jx4a65c_7 hn_3 hn_4 dJx4a65c_grow_92f84_52 (fun q30 hf_q30 hd_q30 => ?_)
          have h := h q30 hf_q30 hd_q30
          refine cg_nm (fun S31 e_S31 => ?_)
          have h := h S31 e_S31
          refine cg_dup_x1 C rfl rfl dJx4a65c_grow_92f84_55 ?_
          obtain ⟨hc_56, h⟩ := h
          refine cg_putr C (k := 12) (j := 1) (x := (some q30)) (ty := tyJx4a65c) (fty := tyJx4a65c 1) hc_56.1 hc_56.2 (by decide) rfl (by decide) rfl (by decide) rfl cWs_wsJx4a65c0 tyJx4a65c_ok nmJx4a65c cl_Jx4a65c_9 rfl rfl rfl rfl rfl dJx4a65c_grow_92f84_56 ?_
          refine cg_nm (fun S32 e_S32 => ?_)
          have h := h S32 e_S32
          obtain ⟨hb_59, h⟩ := h
          exact cg_aret C rfl (by first | exact Or.inl ⟨_, rfl⟩ | exact Or.inr ⟨_, rfl⟩) h dJx4a65c_grow_92f84_59 hb_59.1 hb_59.2
        · have h := h.2 c_
          exact cg_sub [1, 2, 0] rfl (tb_Jx4a65c_grow_92f84_20 C   x0 x1 x2_23 0 0 S h)
def k_Jx4a65c_grow_d5877 (Q : Nat → cS → Prop) (dp : Nat) (mc ms : Nat) (x0 : Nat) (S : cS) : Prop :=
cA S x0 12 ∧ (cA S x0 12 ∧ ((∃ mc1 ms2 : Nat, 0 + mc1 ≤ mc ∧ 0 + ms2 ≤ ms ∧ (k_Jx4a65c_grow_92f84 (fun r_3 S_3 => 
(0 + mc1 ≤ mc ∧ 0 + ms2 ≤ ms) ∧ (Q r_3 S_3)) dp mc1 ms2 x0 ((((ci S 386 x0)) + ((nI 1)))) S))))
set_option maxHeartbeats 1000000 in
set_option maxRecDepth 20000 in
theorem t_Jx4a65c_grow_d5877 (l : Launch) (mc ms : Nat) (x0 : Nat) (S : cS) (dp : Nat) {P : Nat → cS → Prop} (h : k_Jx4a65c_grow_d5877 P dp mc ms x0 S) : cMet (cQr P) l yJx4a65c_grow_d5877 cJx4a65c_grow_d5877 1 (some (.array (.object "java/lang/Object"))) 5 mc ms 124 [.ref x0] S dp := by
  intro D Y tp sz
  refine cg_body (by decide +kernel) (Nat.le_of_ble_eq_true rfl) ?_
  intro p e s m args below meth c C
  generalize va_A (cWd Y S) sz = A at C ⊢
  have C : cC p s m args meth c cJx4a65c_grow_d5877 1 (some (.array (.object "java/lang/Object"))) A D Y tp dp RJx4a65c := C
  refine cg_lv (lv' := [(0, .ref x0)]) rfl ?_
  unfold k_Jx4a65c_grow_d5877 at h
  refine cg_aload_n C (i := 0) rfl 0 rfl dJx4a65c_grow_d5877_0 ?_
  refine cg_aload_n C (i := 0) rfl 0 rfl dJx4a65c_grow_d5877_1 ?_
  obtain ⟨hc_2, h⟩ := h
  refine cg_get C (k := 12) (j := 2) (.int (ci S 386 x0)) hc_2.1 hc_2.2 (by decide) rfl (by decide) rfl rfl cWs_wsJx4a65c0 cl_Jx4a65c_48 rfl dJx4a65c_grow_d5877_2 ?_
  refine cg_iconst C (x := nI 1) rfl dJx4a65c_grow_d5877_5 ?_
  refine cg_iadd C dJx4a65c_grow_d5877_6 ?_
  obtain ⟨hc_7, h⟩ := h
  obtain ⟨mc1, ms2, hm_1, hm_2, h⟩ := h
  refine cg_callr C (t_Jx4a65c_grow_92f84 l mc1 ms2 x0 ((((ci S 386 x0)) + ((nI 1)))) S dp h) cc_Jx4a65c_69 hc_7.1 hc_7.2 (by decide) rfl rfl ⟨by decide, by decide⟩ ⟨hm_1, hm_2⟩ rfl (Nat.le_of_ble_eq_true rfl) dJx4a65c_grow_d5877_7 (fun r_3 S_3 h => ?_)
  obtain ⟨hb_10, h⟩ := h
  exact cg_aret C rfl (by first | exact Or.inl ⟨_, rfl⟩ | exact Or.inr ⟨_, rfl⟩) h dJx4a65c_grow_d5877_10 hb_10.1 hb_10.2
def k_Jx4a65c_add_72be8_11 (Q : cS → Prop) (dp : Nat) (mc ms : Nat)  (x0 : Nat) (x1 : Nat) (x2 : Nat) (x3 : Int32) (cd dd : Nat) (S : cS) : Prop :=
((x2 = dp →
  False) ∧
 (¬ x2 = dp →
  cX S x2 17 x3 ∧ (cOb S x1 ∧ (∀ S1 : cS, S1 = cSO S x2 (x3).toNatClampNeg (some x1) → cA S1 x0 12 ∧ (∀ S2 : cS, S2 = cSi S1 386 x0 ((x3 + ((nI 1)))) → (cd ≤ mc ∧ dd ≤ ms) ∧ (Q S2))))))
def k_Jx4a65c_add_72be8 (Q : cS → Prop) (dp : Nat) (mc ms : Nat) (x0 : Nat) (x1 : Nat) (x2 : Nat) (x3 : Int32) (S : cS) : Prop :=
((x2 = dp →
  ((¬ x3 = ((nI 0)) →
    k_Jx4a65c_add_72be8_11 Q dp mc ms  x0 x1 dp x3 0 0 S) ∧
   (x3 = ((nI 0)) →
    cA S x0 12 ∧ ((∃ mc3 ms4 : Nat, 0 + mc3 ≤ mc ∧ 0 + ms4 ≤ ms ∧ (k_Jx4a65c_grow_d5877 (fun r_5 S_5 => 
    k_Jx4a65c_add_72be8_11 Q dp mc ms  x0 x1 r_5 x3 (0 + mc3) (0 + ms4) S_5) dp mc3 ms4 x0 S)))))) ∧
 (¬ x2 = dp →
  cA S x2 17 ∧ (((¬ x3 = ((nI (cn S x2))) →
    k_Jx4a65c_add_72be8_11 Q dp mc ms  x0 x1 x2 x3 0 0 S) ∧
   (x3 = ((nI (cn S x2))) →
    cA S x0 12 ∧ ((∃ mc6 ms7 : Nat, 0 + mc6 ≤ mc ∧ 0 + ms7 ≤ ms ∧ (k_Jx4a65c_grow_d5877 (fun r_8 S_8 => 
    k_Jx4a65c_add_72be8_11 Q dp mc ms  x0 x1 r_8 x3 (0 + mc6) (0 + ms7) S_8) dp mc6 ms7 x0 S))))))))
section S_Jx4a65c_add_72be8
variable {p : Program} {l : Launch} {e : Env} {s : State} {m : MethodId} {args : Array Value} {below : List Frame} {meth : Method} {c : Code} {A : Nat → Prop} {D : va_G} {Y : cY} {tp dp : Nat}
set_option maxRecDepth 20000 in
theorem tb_Jx4a65c_add_72be8_11 {mc ms : Nat} (C : cC p s m args meth c cJx4a65c_add_72be8 4 none A D Y tp dp RJx4a65c) {post : cS → Prop}   (x0 : Nat) (x1 : Nat) (x2 : Nat) (x3 : Int32) (cd dd : Nat) (S : cS) (h : k_Jx4a65c_add_72be8_11 post dp mc ms  x0 x1 x2 x3 cd dd S) : cG p l e (cRm 6 mc ms 144) s m args below meth c A D Y 4 (MQ below (cQv post D Y A) args s mc ms A) cd dd 11 [(0, .ref x0), (1, .ref x1), (2, .ref x2), (3, .int x3)] [] S := by
  unfold k_Jx4a65c_add_72be8_11 at h
  by_cases hd : x2 = dp
  · have h := h.1 hd
    refine cg_lv (lv' := [(0, .ref x0), (1, .ref x1), (2, .ref dp), (3, .int x3)]) (by rw [hd]) ?_
    refine cg_st (st' := []) (by first | rfl | rw [hd]) ?_
    refine cg_aload_n C (i := 2) rfl 2 rfl dJx4a65c_add_72be8_11 ?_
    refine cg_iload_n C (i := 3) rfl 3 rfl dJx4a65c_add_72be8_12 ?_
    refine cg_aload_n C (i := 1) rfl 1 rfl dJx4a65c_add_72be8_13 ?_
    exact h.elim
  · have h := h.2 hd
    refine cg_aload_n C (i := 2) rfl 2 rfl dJx4a65c_add_72be8_11 ?_
    refine cg_iload_n C (i := 3) rfl 3 rfl dJx4a65c_add_72be8_12 ?_
    refine cg_aload_n C (i := 1) rfl 1 rfl dJx4a65c_add_72be8_13 ?_
    obtain ⟨hc_14, h⟩ := h
    obtain ⟨hv_14, h⟩ := h
    refine cg_aastoreR C hc_14 hv_14 dJx4a65c_add_72be8_14 ?_
    refine cg_nm (fun S1 e_S1 => ?_)
    have h := h S1 e_S1
    refine cg_aload_n C (i := 0) rfl 0 rfl dJx4a65c_add_72be8_15 ?_
    refine cg_iload_n C (i := 3) rfl 3 rfl dJx4a65c_add_72be8_16 ?_
    refine cg_iconst C (x := nI 1) rfl dJx4a65c_add_72be8_17 ?_
    refine cg_iadd C dJx4a65c_add_72be8_18 ?_
    obtain ⟨hc_19, h⟩ := h
    refine cg_puti C (k := 12) (j := 2) (ty := tyJx4a65c) (fty := .int) hc_19.1 hc_19.2 (by decide) rfl (by decide) rfl (by decide) rfl cWs_wsJx4a65c0 tyJx4a65c_ok nmJx4a65c cl_Jx4a65c_48 rfl rfl rfl rfl rfl dJx4a65c_add_72be8_19 ?_
    refine cg_nm (fun S2 e_S2 => ?_)
    have h := h S2 e_S2
    obtain ⟨hb_22, h⟩ := h
    exact cg_vret C h dJx4a65c_add_72be8_22 hb_22.1 hb_22.2
end S_Jx4a65c_add_72be8
set_option maxHeartbeats 1000000 in
set_option maxRecDepth 20000 in
theorem t_Jx4a65c_add_72be8 (l : Launch) (mc ms : Nat) (x0 : Nat) (x1 : Nat) (x2 : Nat) (x3 : Int32) (S : cS) (dp : Nat) {P : cS → Prop} (h : k_Jx4a65c_add_72be8 P dp mc ms x0 x1 x2 x3 S) : cMet (cQv P) l yJx4a65c_add_72be8 cJx4a65c_add_72be8 4 none 6 mc ms 144 [.ref x0, .ref x1, .ref x2, .int x3] S dp := by
  intro D Y tp sz
  refine cg_body (by decide +kernel) (Nat.le_of_ble_eq_true rfl) ?_
  intro p e s m args below meth c C
  generalize va_A (cWd Y S) sz = A at C ⊢
  have C : cC p s m args meth c cJx4a65c_add_72be8 4 none A D Y tp dp RJx4a65c := C
  refine cg_lv (lv' := [(0, .ref x0), (1, .ref x1), (2, .ref x2), (3, .int x3)]) rfl ?_
  unfold k_Jx4a65c_add_72be8 at h
  by_cases hd : x2 = dp
  · have h := h.1 hd
    refine cg_lv (lv' := [(0, .ref x0), (1, .ref x1), (2, .ref dp), (3, .int x3)]) (by rw [hd]) ?_
    refine cg_st (st' := []) (by first | rfl | rw [hd]) ?_
    refine cg_iload_n C (i := 3) rfl 3 rfl dJx4a65c_add_72be8_0 ?_
    refine cg_aload_n C (i := 2) rfl 2 rfl dJx4a65c_add_72be8_1 ?_
    refine cg_dlen C dJx4a65c_add_72be8_2 ?_
    refine cg_icmp_ne C 11 (by decide) dJx4a65c_add_72be8_3 (fun c_ => ?_) (fun c_ => ?_)
    · have h := h.1 c_
      exact cg_sub [0, 1, 2, 3] rfl (tb_Jx4a65c_add_72be8_11 C   x0 x1 dp x3 0 0 S h)
    · have h := h.2 c_
      refine cg_aload_n C (i := 0) rfl 0 rfl dJx4a65c_add_72be8_6 ?_
      obtain ⟨hc_7, h⟩ := h
      obtain ⟨mc3, ms4, hm_1, hm_2, h⟩ := h
      refine cg_callr C (t_Jx4a65c_grow_d5877 l mc3 ms4 x0 S dp h) cc_Jx4a65c_129 hc_7.1 hc_7.2 (by decide) rfl rfl ⟨by decide, by decide⟩ ⟨hm_1, hm_2⟩ rfl (Nat.le_of_ble_eq_true rfl) dJx4a65c_add_72be8_7 (fun r_5 S_5 h => ?_)
      refine cg_astore_n (lv' := [(2, .ref r_5), (0, .ref x0), (1, .ref x1), (3, .int x3)]) C (i := 2) rfl (Nat.le_of_ble_eq_true rfl) rfl dJx4a65c_add_72be8_10 ?_
      exact cg_sub [1, 2, 0, 3] rfl (tb_Jx4a65c_add_72be8_11 C   x0 x1 r_5 x3 (0 + mc3) (0 + ms4) S_5 h)
  · have h := h.2 hd
    refine cg_iload_n C (i := 3) rfl 3 rfl dJx4a65c_add_72be8_0 ?_
    refine cg_aload_n C (i := 2) rfl 2 rfl dJx4a65c_add_72be8_1 ?_
    obtain ⟨hc_2, h⟩ := h
    refine cg_alen C hc_2.1 hc_2.2 (by decide) (by decide) dJx4a65c_add_72be8_2 ?_
    refine cg_icmp_ne C 11 (by decide) dJx4a65c_add_72be8_3 (fun c_ => ?_) (fun c_ => ?_)
    · have h := h.1 c_
      exact cg_sub [0, 1, 2, 3] rfl (tb_Jx4a65c_add_72be8_11 C   x0 x1 x2 x3 0 0 S h)
    · have h := h.2 c_
      refine cg_aload_n C (i := 0) rfl 0 rfl dJx4a65c_add_72be8_6 ?_
      obtain ⟨hc_7, h⟩ := h
      obtain ⟨mc6, ms7, hm_1, hm_2, h⟩ := h
      refine cg_callr C (t_Jx4a65c_grow_d5877 l mc6 ms7 x0 S dp h) cc_Jx4a65c_129 hc_7.1 hc_7.2 (by decide) rfl rfl ⟨by decide, by decide⟩ ⟨hm_1, hm_2⟩ rfl (Nat.le_of_ble_eq_true rfl) dJx4a65c_add_72be8_7 (fun r_8 S_8 h => ?_)
      refine cg_astore_n (lv' := [(2, .ref r_8), (0, .ref x0), (1, .ref x1), (3, .int x3)]) C (i := 2) rfl (Nat.le_of_ble_eq_true rfl) rfl dJx4a65c_add_72be8_10 ?_
      exact cg_sub [1, 2, 0, 3] rfl (tb_Jx4a65c_add_72be8_11 C   x0 x1 r_8 x3 (0 + mc6) (0 + ms7) S_8 h)
def k_Jx4a65c_add_9ea2d (Q : Int32 → cS → Prop) (dp : Nat) (mc ms : Nat) (x0 : Nat) (x1 : Nat) (S : cS) : Prop :=
cA S x0 12 ∧ (cA S x0 12 ∧ (∀ S1 : cS, S1 = cSi S 384 x0 ((((ci S 384 x0)) + ((nI 1)))) → cA S1 x0 12 ∧ ((∃ b2 : Nat, cr S1 385 x0 = some b2 ∧ (((b2 = dp →
  cA S1 x0 12 ∧ (cA S1 x0 12 ∧ ((∃ mc3 ms4 : Nat, 0 + mc3 ≤ mc ∧ 0 + ms4 ≤ ms ∧ (k_Jx4a65c_add_72be8 (fun S_5 => 
  (0 + mc3 ≤ mc ∧ 0 + ms4 ≤ ms) ∧ (Q ((bI true)) S_5)) dp mc3 ms4 x0 x1 dp ((ci S1 386 x0)) S1))))) ∧
 (¬ b2 = dp →
  cA S1 x0 12 ∧ (cA S1 x0 12 ∧ ((∃ mc6 ms7 : Nat, 0 + mc6 ≤ mc ∧ 0 + ms7 ≤ ms ∧ (k_Jx4a65c_add_72be8 (fun S_8 => 
  (0 + mc6 ≤ mc ∧ 0 + ms7 ≤ ms) ∧ (Q ((bI true)) S_8)) dp mc6 ms7 x0 x1 b2 ((ci S1 386 x0)) S1)))))))))))
set_option maxHeartbeats 1000000 in
set_option maxRecDepth 20000 in
theorem t_Jx4a65c_add_9ea2d (l : Launch) (mc ms : Nat) (x0 : Nat) (x1 : Nat) (S : cS) (dp : Nat) {P : Int32 → cS → Prop} (h : k_Jx4a65c_add_9ea2d P dp mc ms x0 x1 S) : cMet (cQi P) l yJx4a65c_add_9ea2d cJx4a65c_add_9ea2d 2 (some .boolean) 7 mc ms 167 [.ref x0, .ref x1] S dp := by
  intro D Y tp sz
  refine cg_body (by decide +kernel) (Nat.le_of_ble_eq_true rfl) ?_
  intro p e s m args below meth c C
  generalize va_A (cWd Y S) sz = A at C ⊢
  have C : cC p s m args meth c cJx4a65c_add_9ea2d 2 (some .boolean) A D Y tp dp RJx4a65c := C
  refine cg_lv (lv' := [(0, .ref x0), (1, .ref x1)]) rfl ?_
  unfold k_Jx4a65c_add_9ea2d at h
  refine cg_aload_n C (i := 0) rfl 0 rfl dJx4a65c_add_9ea2d_0 ?_
  refine cg_dup C rfl dJx4a65c_add_9ea2d_1 ?_
  obtain ⟨hc_2, h⟩ := h
  refine cg_getS C (k := 12) (j := 0) (.int (ci S 384 x0)) hc_2.1 hc_2.2 (by decide) rfl (by decide) rfl rfl cWs_wsJx4a65c0 cl_mod12 (Or.inr csf_mod) dJx4a65c_add_9ea2d_2 ?_
  refine cg_iconst C (x := nI 1) rfl dJx4a65c_add_9ea2d_5 ?_
  refine cg_iadd C dJx4a65c_add_9ea2d_6 ?_
  obtain ⟨hc_7, h⟩ := h
  refine cg_putiS C (k := 12) (j := 0) (ty := tyJx4a65c) (fty := .int) hc_7.1 hc_7.2 (by decide) rfl (by decide) rfl (by decide) rfl cWs_wsJx4a65c0 tyJx4a65c_ok nmJx4a65c cl_mod12 (Or.inr csf_mod) rfl rfl rfl rfl dJx4a65c_add_9ea2d_7 ?_
  refine cg_nm (fun S1 e_S1 => ?_)
  have h := h S1 e_S1
  refine cg_aload_n C (i := 0) rfl 0 rfl dJx4a65c_add_9ea2d_10 ?_
  refine cg_aload_n C (i := 1) rfl 1 rfl dJx4a65c_add_9ea2d_11 ?_
  refine cg_aload_n C (i := 0) rfl 0 rfl dJx4a65c_add_9ea2d_12 ?_
  obtain ⟨hc_13, h⟩ := h
  obtain ⟨b2, hb_b2, h⟩ := h
  by_cases hd : b2 = dp
  · have h := h.1 hd
    refine cg_get C (k := 12) (j := 1) (.ref dp) hc_13.1 hc_13.2 (by decide) rfl (by decide) rfl (show cV _ 12 1 x0 = _ from congrArg va_rf (hb_b2.trans (congrArg some hd))) cWs_wsJx4a65c0 cl_Jx4a65c_9 rfl dJx4a65c_add_9ea2d_13 ?_
    refine cg_aload_n C (i := 0) rfl 0 rfl dJx4a65c_add_9ea2d_16 ?_
    obtain ⟨hc_17, h⟩ := h
    refine cg_get C (k := 12) (j := 2) (.int (ci S1 386 x0)) hc_17.1 hc_17.2 (by decide) rfl (by decide) rfl rfl cWs_wsJx4a65c0 cl_Jx4a65c_48 rfl dJx4a65c_add_9ea2d_17 ?_
    obtain ⟨hc_20, h⟩ := h
    obtain ⟨mc3, ms4, hm_1, hm_2, h⟩ := h
    refine cg_callv C (t_Jx4a65c_add_72be8 l mc3 ms4 x0 x1 dp ((ci S1 386 x0)) S1 dp h) cc_Jx4a65c_131 hc_20.1 hc_20.2 (by decide) rfl rfl ⟨by decide, by decide⟩ ⟨hm_1, hm_2⟩ rfl (Nat.le_of_ble_eq_true rfl) dJx4a65c_add_9ea2d_20 (fun S_5 h => ?_)
    refine cg_iconst C (x := nI 1) rfl dJx4a65c_add_9ea2d_23 ?_
    obtain ⟨hb_24, h⟩ := h
    refine cg_cast (.int (bI true)) rfl ?_
    exact cg_zret C (bI_nar _) h dJx4a65c_add_9ea2d_24 hb_24.1 hb_24.2
  · have h := h.2 hd
    refine cg_get C (k := 12) (j := 1) (.ref b2) hc_13.1 hc_13.2 (by decide) rfl (by decide) rfl (show cV _ 12 1 x0 = _ from congrArg va_rf (hb_b2)) cWs_wsJx4a65c0 cl_Jx4a65c_9 rfl dJx4a65c_add_9ea2d_13 ?_
    refine cg_aload_n C (i := 0) rfl 0 rfl dJx4a65c_add_9ea2d_16 ?_
    obtain ⟨hc_17, h⟩ := h
    refine cg_get C (k := 12) (j := 2) (.int (ci S1 386 x0)) hc_17.1 hc_17.2 (by decide) rfl (by decide) rfl rfl cWs_wsJx4a65c0 cl_Jx4a65c_48 rfl dJx4a65c_add_9ea2d_17 ?_
    obtain ⟨hc_20, h⟩ := h
    obtain ⟨mc6, ms7, hm_1, hm_2, h⟩ := h
    refine cg_callv C (t_Jx4a65c_add_72be8 l mc6 ms7 x0 x1 b2 ((ci S1 386 x0)) S1 dp h) cc_Jx4a65c_131 hc_20.1 hc_20.2 (by decide) rfl rfl ⟨by decide, by decide⟩ ⟨hm_1, hm_2⟩ rfl (Nat.le_of_ble_eq_true rfl) dJx4a65c_add_9ea2d_20 (fun S_8 h => ?_)
    refine cg_iconst C (x := nI 1) rfl dJx4a65c_add_9ea2d_23 ?_
    obtain ⟨hb_24, h⟩ := h
    refine cg_cast (.int (bI true)) rfl ?_
    exact cg_zret C (bI_nar _) h dJx4a65c_add_9ea2d_24 hb_24.1 hb_24.2
def k_X2_gather_73 (Q : cS → Prop) (dp : Nat) (mc ms : Nat) (R3 : Nat → Nat → Nat → Nat → Int32 → Nat → Nat → cS → Prop) (x0 : Nat) (x1 : Nat) (x2 : Nat) (x3 : Nat) (x4 : Int32) (cd dd : Nat) (S : cS) : Prop :=
∀ x4_4 : Int32, x4_4 = x4 + nI 1 → R3 x0 x1 x2 x3 x4_4 cd dd S
def k_X2_gather_3 (Q : cS → Prop) (dp : Nat) (mc ms : Nat) (R3 : Nat → Nat → Nat → Nat → Int32 → Nat → Nat → cS → Prop) (x0 : Nat) (x1 : Nat) (x2 : Nat) (x3 : Nat) (x4 : Int32) (cd dd : Nat) (S : cS) : Prop :=
cA S x0 2 ∧ ((∃ b1 : Nat, cr S 64 x0 = some b1 ∧ (cA S b1 8 ∧ ((cd ≤ mc ∧ dd ≤ ms) ∧ (k_X8_size (fun r_2 S_2 => 
((r_2 ≤ x4 →
  (cd ≤ mc ∧ dd ≤ ms) ∧ (Q S_2)) ∧
 (¬ r_2 ≤ x4 →
  cA S_2 x0 2 ∧ ((cd ≤ mc ∧ dd ≤ ms) ∧ (k_X2_isLive (fun r_3 S_3 => 
  ((r_3 = 0 →
    k_X2_gather_73 Q dp mc ms R3 x0 x1 x2 x3 x4 cd dd S_3) ∧
   (¬ r_3 = 0 →
    cA S_3 x0 2 ∧ ((∃ b5 : Nat, cr S_3 64 x0 = some b5 ∧ (cA S_3 b5 8 ∧ ((∃ b6 : Nat, cr S_3 257 b5 = some b6 ∧ (cA S_3 b6 12 ∧ ((cd ≤ mc ∧ dd ≤ ms) ∧ (k_Jx4a65c_get_915e3 (fun r_7 S_7 => 
    cA S_7 r_7 0 ∧ (cA S_7 x2 12 ∧ ((∃ mc8 ms9 : Nat, cd + mc8 ≤ mc ∧ dd + ms9 ≤ ms ∧ (k_Jx4a65c_add_9ea2d (fun r_10 S_10 => 
    cA S_10 x1 2 ∧ ((cd + mc8 ≤ mc ∧ dd + ms9 ≤ ms) ∧ (k_X2_isLive (fun r_11 S_11 => 
    ((¬ r_11 = 0 →
      k_X2_gather_73 Q dp mc ms R3 x0 x1 x2 x3 x4 (cd + mc8) (dd + ms9) S_11) ∧
     (r_11 = 0 →
      cA S_11 x0 2 ∧ ((∃ b12 : Nat, cr S_11 64 x0 = some b12 ∧ (cA S_11 b12 8 ∧ ((∃ b13 : Nat, cr S_11 257 b12 = some b13 ∧ (cA S_11 b13 12 ∧ ((cd + mc8 ≤ mc ∧ dd + ms9 ≤ ms) ∧ (k_Jx4a65c_get_915e3 (fun r_14 S_14 => 
      cA S_14 r_14 0 ∧ (cA S_14 x3 12 ∧ ((∃ mc15 ms16 : Nat, cd + mc8 + mc15 ≤ mc ∧ dd + ms9 + ms16 ≤ ms ∧ (k_Jx4a65c_add_9ea2d (fun r_17 S_17 => 
      k_X2_gather_73 Q dp mc ms R3 x0 x1 x2 x3 x4 (cd + mc8 + mc15) (dd + ms9 + ms16) S_17) dp mc15 ms16 x3 r_14 S_14))))) dp b13 x4 S_11))))))))))) dp x1 x4 S_10))) dp mc8 ms9 x2 r_7 S_7))))) dp b6 x4 S_3))))))))))) dp x0 x4 S_2))))) dp b1 S)))))
def k_X2_gather_3L (Q : cS → Prop) (dp : Nat) (mc ms : Nat)  (x0 : Nat) (x1 : Nat) (x2 : Nat) (x3 : Nat) (x4 : Int32) (cd dd : Nat) (S : cS) : Prop :=
  lfp (X := Nat × Nat × Nat × Nat × Int32 × Nat × Nat × cS) (fun P y => k_X2_gather_3 Q dp mc ms  (fun b0 b1 b2 b3 b4 b5 b6 S => P (b0, b1, b2, b3, b4, b5, b6, S)) y.1 y.2.1 y.2.2.1 y.2.2.2.1 y.2.2.2.2.1 y.2.2.2.2.2.1 y.2.2.2.2.2.2.1 y.2.2.2.2.2.2.2) (x0, x1, x2, x3, x4, cd, dd, S)
def k_X2_gather (Q : cS → Prop) (dp : Nat) (mc ms : Nat) (x0 : Nat) (x1 : Nat) (x2 : Nat) (x3 : Nat) (S : cS) : Prop :=
k_X2_gather_3L Q dp mc ms  x0 x1 x2 x3 (((nI 0))) 0 0 S
section S_X2_gather
variable {p : Program} {l : Launch} {e : Env} {s : State} {m : MethodId} {args : Array Value} {below : List Frame} {meth : Method} {c : Code} {A : Nat → Prop} {D : va_G} {Y : cY} {tp dp : Nat}
set_option maxRecDepth 20000 in
theorem tb_X2_gather_73 {mc ms : Nat} (C : cC p s m args meth c cX2_gather 5 none A D Y tp dp RX2) {post : cS → Prop} {R3 : Nat → Nat → Nat → Nat → Int32 → Nat → Nat → cS → Prop} (hR3 : ∀ (x0 : Nat) (x1 : Nat) (x2 : Nat) (x3 : Nat) (x4 : Int32) (cd dd : Nat) (S : cS), R3 x0 x1 x2 x3 x4 cd dd S → cG p l e (cRm 8 mc ms 188) s m args below meth c A D Y 5 (MQ below (cQv post D Y A) args s mc ms A) cd dd 3 [(0, .ref x0), (1, .ref x1), (2, .ref x2), (3, .ref x3), (4, .int x4)] [] S) (x0 : Nat) (x1 : Nat) (x2 : Nat) (x3 : Nat) (x4 : Int32) (cd dd : Nat) (S : cS) (h : k_X2_gather_73 post dp mc ms R3 x0 x1 x2 x3 x4 cd dd S) : cG p l e (cRm 8 mc ms 188) s m args below meth c A D Y 5 (MQ below (cQv post D Y A) args s mc ms A) cd dd 73 [(0, .ref x0), (1, .ref x1), (2, .ref x2), (3, .ref x3), (4, .int x4)] [] S := by
  unfold k_X2_gather_73 at h
  obtain ⟨x4_4, e_x4_4⟩ : ∃ z : Int32, z = x4 + nI 1 := ⟨_, rfl⟩
  have h := h x4_4 e_x4_4
  refine cg_iinc C (lv' := [(4, .int x4_4), (0, .ref x0), (1, .ref x1), (2, .ref x2), (3, .ref x3)]) 4 rfl (by rw [e_x4_4]; rfl) (Nat.le_of_ble_eq_true rfl) rfl dX2_gather_73 ?_
  refine cg_goto C 3 (by decide) dX2_gather_76 ?_
  exact cg_sub [1, 2, 3, 4, 0] rfl (hR3 x0 x1 x2 x3 x4_4 cd dd S h)
set_option maxRecDepth 20000 in
theorem tb_X2_gather_3 {mc ms : Nat} (C : cC p s m args meth c cX2_gather 5 none A D Y tp dp RX2) {post : cS → Prop} {R3 : Nat → Nat → Nat → Nat → Int32 → Nat → Nat → cS → Prop} (hR3 : ∀ (x0 : Nat) (x1 : Nat) (x2 : Nat) (x3 : Nat) (x4 : Int32) (cd dd : Nat) (S : cS), R3 x0 x1 x2 x3 x4 cd dd S → cG p l e (cRm 8 mc ms 188) s m args below meth c A D Y 5 (MQ below (cQv post D Y A) args s mc ms A) cd dd 3 [(0, .ref x0), (1, .ref x1), (2, .ref x2), (3, .ref x3), (4, .int x4)] [] S) (x0 : Nat) (x1 : Nat) (x2 : Nat) (x3 : Nat) (x4 : Int32) (cd dd : Nat) (S : cS) (h : k_X2_gather_3 post dp mc ms R3 x0 x1 x2 x3 x4 cd dd S) : cG p l e (cRm 8 mc ms 188) s m args below meth c A D Y 5 (MQ below (cQv post D Y A) args s mc ms A) cd dd 3 [(0, .ref x0), (1, .ref x1), (2, .ref x2), (3, .ref x3), (4, .int x4)] [] S := by
  unfold k_X2_gather_3 at h
  refine cg_iload C 4 rfl dX2_gather_3 ?_
  refine cg_aload_n C (i := 0) rfl 0 rfl dX2_gather_5 ?_
  obtain ⟨hc_6, h⟩ := h
  obtain ⟨b1, hb_b1, h⟩ := h
  refine cg_get C (k := 2) (j := 0) (.ref b1) hc_6.1 hc_6.2 (by decide) rfl (by decide) rfl (show cV _ 2 0 x0 = _ from congrArg va_rf hb_b1) cWs_wsX20 cl_X2_9 rfl dX2_gather_6 ?_
  obtain ⟨hc_9, h⟩ := h
  obtain ⟨hb_9, h⟩ := h
  refine cg_calli C (t_X8_size l b1 S dp h) cc_X2_15 hc_9.1 hc_9.2 (by decide) rfl rfl ⟨by decide, by decide⟩ hb_9 rfl (Nat.le_of_ble_eq_true rfl) dX2_gather_9 (fun r_2 S_2 h => ?_)
  simp only [Nat.add_zero]
  refine cg_icmp_ge C 79 (by decide) dX2_gather_12 (fun c_ => ?_) (fun c_ => ?_)
  · have h := h.1 c_
    obtain ⟨hb_79, h⟩ := h
    exact cg_vret C h dX2_gather_79 hb_79.1 hb_79.2
  · have h := h.2 c_
    refine cg_aload_n C (i := 0) rfl 0 rfl dX2_gather_15 ?_
    refine cg_iload C 4 rfl dX2_gather_16 ?_
    obtain ⟨hc_18, h⟩ := h
    obtain ⟨hb_18, h⟩ := h
    refine cg_calli C (t_X2_isLive l x0 x4 S_2 dp h) cc_X2_28 hc_18.1 hc_18.2 (by decide) rfl rfl ⟨by decide, by decide⟩ hb_18 rfl (Nat.le_of_ble_eq_true rfl) dX2_gather_18 (fun r_3 S_3 h => ?_)
    simp only [Nat.add_zero]
    refine cg_if_eq C 73 (by decide) dX2_gather_21 (fun c_ => ?_) (fun c_ => ?_)
    · have h := h.1 c_
      exact cg_sub [0, 1, 2, 3, 4] rfl (tb_X2_gather_73 C  hR3 x0 x1 x2 x3 x4 cd dd S_3 h)
    · have h := h.2 c_
      refine cg_aload_n C (i := 2) rfl 2 rfl dX2_gather_24 ?_
      refine cg_aload_n C (i := 0) rfl 0 rfl dX2_gather_25 ?_
      obtain ⟨hc_26, h⟩ := h
      obtain ⟨b5, hb_b5, h⟩ := h
      refine cg_get C (k := 2) (j := 0) (.ref b5) hc_26.1 hc_26.2 (by decide) rfl (by decide) rfl (show cV _ 2 0 x0 = _ from congrArg va_rf hb_b5) cWs_wsX20 cl_X2_9 rfl dX2_gather_26 ?_
      obtain ⟨hc_29, h⟩ := h
      obtain ⟨b6, hb_b6, h⟩ := h
      refine cg_get C (k := 8) (j := 1) (.ref b6) hc_29.1 hc_29.2 (by decide) rfl (by decide) rfl (show cV _ 8 1 b5 = _ from congrArg va_rf hb_b6) cWs_wsX80 cl_X2_35 rfl dX2_gather_29 ?_
      refine cg_iload C 4 rfl dX2_gather_32 ?_
      obtain ⟨hc_34, h⟩ := h
      obtain ⟨hb_34, h⟩ := h
      refine cg_callr C (t_Jx4a65c_get_915e3 l b6 x4 S_3 dp h) cc_X2_39 hc_34.1 hc_34.2 (by decide) rfl rfl ⟨by decide, by decide⟩ hb_34 rfl (Nat.le_of_ble_eq_true rfl) dX2_gather_34 (fun r_7 S_7 h => ?_)
      simp only [Nat.add_zero]
      obtain ⟨hc_37, h⟩ := h
      refine cg_ccast C (k := 0) hc_37.1 hc_37.2 (by decide) rfl cnc_X2_45 dX2_gather_37 ?_
      obtain ⟨hc_40, h⟩ := h
      obtain ⟨mc8, ms9, hm_1, hm_2, h⟩ := h
      refine cg_calli C (t_Jx4a65c_add_9ea2d l mc8 ms9 x2 r_7 S_7 dp h) cc_X2_55 hc_40.1 hc_40.2 (by decide) rfl rfl ⟨by decide, by decide⟩ ⟨hm_1, hm_2⟩ rfl (Nat.le_of_ble_eq_true rfl) dX2_gather_40 (fun r_10 S_10 h => ?_)
      refine cg_pop C rfl dX2_gather_43 ?_
      refine cg_aload_n C (i := 1) rfl 1 rfl dX2_gather_44 ?_
      refine cg_iload C 4 rfl dX2_gather_45 ?_
      obtain ⟨hc_47, h⟩ := h
      obtain ⟨hb_47, h⟩ := h
      refine cg_calli C (t_X2_isLive l x1 x4 S_10 dp h) cc_X2_28 hc_47.1 hc_47.2 (by decide) rfl rfl ⟨by decide, by decide⟩ hb_47 rfl (Nat.le_of_ble_eq_true rfl) dX2_gather_47 (fun r_11 S_11 h => ?_)
      simp only [Nat.add_zero]
      refine cg_if_ne C 73 (by decide) dX2_gather_50 (fun c_ => ?_) (fun c_ => ?_)
      · have h := h.1 c_
        exact cg_sub [0, 1, 2, 3, 4] rfl (tb_X2_gather_73 C  hR3 x0 x1 x2 x3 x4 (cd + mc8) (dd + ms9) S_11 h)
      · have h := h.2 c_
        refine cg_aload_n C (i := 3) rfl 3 rfl dX2_gather_53 ?_
        refine cg_aload_n C (i := 0) rfl 0 rfl dX2_gather_54 ?_
        obtain ⟨hc_55, h⟩ := h
        obtain ⟨b12, hb_b12, h⟩ := h
        refine cg_get C (k := 2) (j := 0) (.ref b12) hc_55.1 hc_55.2 (by decide) rfl (by decide) rfl (show cV _ 2 0 x0 = _ from congrArg va_rf hb_b12) cWs_wsX20 cl_X2_9 rfl dX2_gather_55 ?_
        obtain ⟨hc_58, h⟩ := h
        obtain ⟨b13, hb_b13, h⟩ := h
        refine cg_get C (k := 8) (j := 1) (.ref b13) hc_58.1 hc_58.2 (by decide) rfl (by decide) rfl (show cV _ 8 1 b12 = _ from congrArg va_rf hb_b13) cWs_wsX80 cl_X2_35 rfl dX2_gather_58 ?_
        refine cg_iload C 4 rfl dX2_gather_61 ?_
        obtain ⟨hc_63, h⟩ := h
        obtain ⟨hb_63, h⟩ := h
        refine cg_callr C (t_Jx4a65c_get_915e3 l b13 x4 S_11 dp h) cc_X2_39 hc_63.1 hc_63.2 (by decide) rfl rfl ⟨by decide, by decide⟩ hb_63 rfl (Nat.le_of_ble_eq_true rfl) dX2_gather_63 (fun r_14 S_14 h => ?_)
        simp only [Nat.add_zero]
        obtain ⟨hc_66, h⟩ := h
        refine cg_ccast C (k := 0) hc_66.1 hc_66.2 (by decide) rfl cnc_X2_45 dX2_gather_66 ?_
        obtain ⟨hc_69, h⟩ := h
        obtain ⟨mc15, ms16, hm_1, hm_2, h⟩ := h
        refine cg_calli C (t_Jx4a65c_add_9ea2d l mc15 ms16 x3 r_14 S_14 dp h) cc_X2_55 hc_69.1 hc_69.2 (by decide) rfl rfl ⟨by decide, by decide⟩ ⟨hm_1, hm_2⟩ rfl (Nat.le_of_ble_eq_true rfl) dX2_gather_69 (fun r_17 S_17 h => ?_)
        refine cg_pop C rfl dX2_gather_72 ?_
        exact cg_sub [0, 1, 2, 3, 4] rfl (tb_X2_gather_73 C  hR3 x0 x1 x2 x3 x4 (cd + mc8 + mc15) (dd + ms9 + ms16) S_17 h)
set_option maxRecDepth 20000 in
theorem tl_X2_gather_3 {mc ms : Nat} (C : cC p s m args meth c cX2_gather 5 none A D Y tp dp RX2) {post : cS → Prop}   (x0 : Nat) (x1 : Nat) (x2 : Nat) (x3 : Nat) (x4 : Int32) (cd dd : Nat) (S : cS) (h : k_X2_gather_3L post dp mc ms  x0 x1 x2 x3 x4 cd dd S) : cG p l e (cRm 8 mc ms 188) s m args below meth c A D Y 5 (MQ below (cQv post D Y A) args s mc ms A) cd dd 3 [(0, .ref x0), (1, .ref x1), (2, .ref x2), (3, .ref x3), (4, .int x4)] [] S :=
  h (fun y => cG p l e (cRm 8 mc ms 188) s m args below meth c A D Y 5 (MQ below (cQv post D Y A) args s mc ms A) (y.2.2.2.2.2.1) (y.2.2.2.2.2.2.1) 3 [(0, .ref (y.1)), (1, .ref (y.2.1)), (2, .ref (y.2.2.1)), (3, .ref (y.2.2.2.1)), (4, .int (y.2.2.2.2.1))] [] (y.2.2.2.2.2.2.2)) (fun y hy => tb_X2_gather_3 C   (fun b0 b1 b2 b3 b4 b5 b6 S z => z) (y.1) (y.2.1) (y.2.2.1) (y.2.2.2.1) (y.2.2.2.2.1) (y.2.2.2.2.2.1) (y.2.2.2.2.2.2.1) (y.2.2.2.2.2.2.2) hy)
end S_X2_gather
set_option maxHeartbeats 1000000 in
set_option maxRecDepth 20000 in
theorem t_X2_gather (l : Launch) (mc ms : Nat) (x0 : Nat) (x1 : Nat) (x2 : Nat) (x3 : Nat) (S : cS) (dp : Nat) {P : cS → Prop} (h : k_X2_gather P dp mc ms x0 x1 x2 x3 S) : cMet (cQv P) l yX2_gather cX2_gather 5 none 8 mc ms 188 [.ref x0, .ref x1, .ref x2, .ref x3] S dp := by
  intro D Y tp sz
  refine cg_body (by decide +kernel) (Nat.le_of_ble_eq_true rfl) ?_
  intro p e s m args below meth c C
  generalize va_A (cWd Y S) sz = A at C ⊢
  have C : cC p s m args meth c cX2_gather 5 none A D Y tp dp RX2 := C
  refine cg_lv (lv' := [(0, .ref x0), (1, .ref x1), (2, .ref x2), (3, .ref x3)]) rfl ?_
  unfold k_X2_gather at h
  refine cg_iconst C (x := nI 0) rfl dX2_gather_0 ?_
  refine cg_istore C (lv' := [(4, .int ((nI 0))), (0, .ref x0), (1, .ref x1), (2, .ref x2), (3, .ref x3)]) (Nat.le_of_ble_eq_true rfl) rfl dX2_gather_1 ?_
  exact cg_sub [1, 2, 3, 4, 0] rfl (tl_X2_gather_3 C   x0 x1 x2 x3 (((nI 0))) 0 0 S h)
def k_X3_takePad (Q : Nat → cS → Prop) (dp : Nat) (mc ms : Nat) (x0 : Nat) (S : cS) : Prop :=
cA S x0 3 ∧ ((∃ b1 : Nat, cr S 96 x0 = some b1 ∧ ((0 + 1 ≤ mc ∧ 0 + 5 ≤ ms) ∧ (∀ q2 : Nat, q2 ∉ cL S → ∀ S3 : cS, S3 = cNew S q2 9 → (∃ mc4 ms5 : Nat, 0 + 1 + mc4 ≤ mc ∧ 0 + 5 + ms5 ≤ ms ∧ (k_X9_init (fun S_6 => 
cA S_6 x0 3 ∧ (∀ S7 : cS, S7 = cSr S_6 96 x0 ((some q2)) → (0 + 1 + mc4 ≤ mc ∧ 0 + 5 + ms5 ≤ ms) ∧ (Q b1 S7))) dp mc4 ms5 q2 S3))))))
set_option maxHeartbeats 1000000 in
set_option maxRecDepth 20000 in
theorem t_X3_takePad (l : Launch) (mc ms : Nat) (x0 : Nat) (S : cS) (dp : Nat) {P : Nat → cS → Prop} (h : k_X3_takePad P dp mc ms x0 S) : cMet (cQr P) l yX3_takePad cX3_takePad 2 (some (.object "SearchMill$Text")) 2 mc ms 52 [.ref x0] S dp := by
  intro D Y tp sz
  refine cg_body (by decide +kernel) (Nat.le_of_ble_eq_true rfl) ?_
  intro p e s m args below meth c C
  generalize va_A (cWd Y S) sz = A at C ⊢
  have C : cC p s m args meth c cX3_takePad 2 (some (.object "SearchMill$Text")) A D Y tp dp RX3 := C
  refine cg_lv (lv' := [(0, .ref x0)]) rfl ?_
  unfold k_X3_takePad at h
  refine cg_aload_n C (i := 0) rfl 0 rfl dX3_takePad_0 ?_
  obtain ⟨hc_1, h⟩ := h
  obtain ⟨b1, hb_b1, h⟩ := h
  refine cg_get C (k := 3) (j := 0) (.ref b1) hc_1.1 hc_1.2 (by decide) rfl (by decide) rfl (show cV _ 3 0 x0 = _ from congrArg va_rf hb_b1) cWs_wsX30 cl_X3_12 rfl dX3_takePad_1 ?_
  refine cg_astore_n (lv' := [(1, .ref b1), (0, .ref x0)]) C (i := 1) rfl (Nat.le_of_ble_eq_true rfl) rfl dX3_takePad_4 ?_
  refine cg_aload_n C (i := 0) rfl 1 rfl dX3_takePad_5 ?_
  obtain ⟨hc_6, h⟩ := h
  refine cg_new C (k := 9) (N := 5) (fs := [.null, .int 0, .null, .null, .int 0]) (by decide) rfl cWs_wsX90 tyX9_ok cn_X3_9 ci_X9 ct_X9 (fun j_ hj_ => by rcases (show j_ = 0 ∨ j_ = 1 ∨ j_ = 2 ∨ j_ = 3 ∨ j_ = 4 by omega) with rfl | rfl | rfl | rfl | rfl <;> rfl) rfl hc_6.1 hc_6.2 dX3_takePad_6 (fun q2 hf_q2 => ?_)
  have h := h q2 hf_q2
  refine cg_nm (fun S3 e_S3 => ?_)
  have h := h S3 e_S3
  refine cg_dup C rfl dX3_takePad_9 ?_
  obtain ⟨mc4, ms5, hm_1, hm_2, h⟩ := h
  refine cg_callIN C (t_X9_init l mc4 ms5 q2 S3 dp h) czn_X3_11 rfl ⟨by decide, by decide⟩ ⟨hm_1, hm_2⟩ rfl (Nat.le_of_ble_eq_true rfl) dX3_takePad_10 (fun S_6 h => ?_)
  obtain ⟨hc_13, h⟩ := h
  refine cg_putr C (k := 3) (j := 0) (x := (some q2)) (ty := tyX3) (fty := tyX3 0) hc_13.1 hc_13.2 (by decide) rfl (by decide) rfl (by decide) rfl cWs_wsX30 tyX3_ok nmX3 cl_X3_12 rfl rfl rfl rfl rfl dX3_takePad_13 ?_
  refine cg_nm (fun S7 e_S7 => ?_)
  have h := h S7 e_S7
  refine cg_aload_n C (i := 1) rfl 0 rfl dX3_takePad_16 ?_
  obtain ⟨hb_17, h⟩ := h
  exact cg_aret C rfl (by first | exact Or.inl ⟨_, rfl⟩ | exact Or.inr ⟨_, rfl⟩) h dX3_takePad_17 hb_17.1 hb_17.2
def k_X9_signOf_21 (Q : Int32 → cS → Prop) (dp : Nat)   (S : cS) : Prop :=
Q ((nI 32)) S
def k_X9_signOf (Q : Int32 → cS → Prop) (dp : Nat) (x0 : Nat) (x1 : Int32) (S : cS) : Prop :=
((x1 < 0 →
  k_X9_signOf_21 Q dp  S) ∧
 (¬ x1 < 0 →
  cA S x0 9 ∧ (((((ci S 289 x0)) ≤ x1 →
    k_X9_signOf_21 Q dp  S) ∧
   (¬ ((ci S 289 x0)) ≤ x1 →
    cA S x0 9 ∧ ((∃ b1 : Nat, cr S 288 x0 = some b1 ∧ (cA S b1 14 ∧ (((x1 < ((nI (cn S b1))) →
      cA S x0 9 ∧ ((∃ b2 : Nat, cr S 288 x0 = some b2 ∧ (cX S b2 14 x1 ∧ (Q ((cI S b2 (x1).toNatClampNeg)) S))))) ∧
     (¬ x1 < ((nI (cn S b1))) →
      k_X9_signOf_21 Q dp  S)))))))))))
section S_X9_signOf
variable {p : Program} {l : Launch} {e : Env} {s : State} {m : MethodId} {args : Array Value} {below : List Frame} {meth : Method} {c : Code} {A : Nat → Prop} {D : va_G} {Y : cY} {tp dp : Nat}
set_option maxRecDepth 20000 in
theorem tb_X9_signOf_21 (C : cC p s m args meth c cX9_signOf 2 (some .int) A D Y tp dp RX9) {post : Int32 → cS → Prop}    (S : cS) (h : k_X9_signOf_21 post dp   S) : cG p l e (cRm 0 0 0 0) s m args below meth c A D Y 2 (MQ below (cQi post D Y A) args s 0 0 A) 0 0 21 [] [] S := by
  unfold k_X9_signOf_21 at h
  refine cg_bipush C (x := nI 32) rfl dX9_signOf_21 ?_
  refine cg_goto C 32 (by decide) dX9_signOf_23 ?_
  exact cg_iret C h dX9_signOf_32 (by decide) (by decide)
end S_X9_signOf
set_option maxHeartbeats 1000000 in
set_option maxRecDepth 20000 in
theorem t_X9_signOf (l : Launch) (x0 : Nat) (x1 : Int32) (S : cS) (dp : Nat) {P : Int32 → cS → Prop} (h : k_X9_signOf P dp x0 x1 S) : cMet (cQi P) l yX9_signOf cX9_signOf 2 (some .int) 0 0 0 0 [.ref x0, .int x1] S dp := by
  intro D Y tp sz
  refine cg_body (by decide +kernel) (Nat.le_of_ble_eq_true rfl) ?_
  intro p e s m args below meth c C
  generalize va_A (cWd Y S) sz = A at C ⊢
  have C : cC p s m args meth c cX9_signOf 2 (some .int) A D Y tp dp RX9 := C
  refine cg_lv (lv' := [(0, .ref x0), (1, .int x1)]) rfl ?_
  unfold k_X9_signOf at h
  refine cg_iload_n C (i := 1) rfl 1 rfl dX9_signOf_0 ?_
  refine cg_if_lt C 21 (by decide) dX9_signOf_1 (fun c_ => ?_) (fun c_ => ?_)
  · have h := h.1 c_
    exact cg_sub [] rfl (tb_X9_signOf_21 C   S h)
  · have h := h.2 c_
    refine cg_iload_n C (i := 1) rfl 1 rfl dX9_signOf_4 ?_
    refine cg_aload_n C (i := 0) rfl 0 rfl dX9_signOf_5 ?_
    obtain ⟨hc_6, h⟩ := h
    refine cg_get C (k := 9) (j := 1) (.int (ci S 289 x0)) hc_6.1 hc_6.2 (by decide) rfl (by decide) rfl rfl cWs_wsX90 cl_X9_15 rfl dX9_signOf_6 ?_
    refine cg_icmp_ge C 21 (by decide) dX9_signOf_9 (fun c_ => ?_) (fun c_ => ?_)
    · have h := h.1 c_
      exact cg_sub [] rfl (tb_X9_signOf_21 C   S h)
    · have h := h.2 c_
      refine cg_iload_n C (i := 1) rfl 1 rfl dX9_signOf_12 ?_
      refine cg_aload_n C (i := 0) rfl 0 rfl dX9_signOf_13 ?_
      obtain ⟨hc_14, h⟩ := h
      obtain ⟨b1, hb_b1, h⟩ := h
      refine cg_get C (k := 9) (j := 0) (.ref b1) hc_14.1 hc_14.2 (by decide) rfl (by decide) rfl (show cV _ 9 0 x0 = _ from congrArg va_rf hb_b1) cWs_wsX90 cl_X9_9 rfl dX9_signOf_14 ?_
      obtain ⟨hc_17, h⟩ := h
      refine cg_alen C hc_17.1 hc_17.2 (by decide) (by decide) dX9_signOf_17 ?_
      refine cg_icmp_lt C 26 (by decide) dX9_signOf_18 (fun c_ => ?_) (fun c_ => ?_)
      · have h := h.1 c_
        refine cg_aload_n C (i := 0) rfl 0 rfl dX9_signOf_26 ?_
        obtain ⟨hc_27, h⟩ := h
        obtain ⟨b2, hb_b2, h⟩ := h
        refine cg_get C (k := 9) (j := 0) (.ref b2) hc_27.1 hc_27.2 (by decide) rfl (by decide) rfl (show cV _ 9 0 x0 = _ from congrArg va_rf hb_b2) cWs_wsX90 cl_X9_9 rfl dX9_signOf_27 ?_
        refine cg_iload_n C (i := 1) rfl 1 rfl dX9_signOf_30 ?_
        obtain ⟨hc_31, h⟩ := h
        refine cg_ialoadR C hc_31 dX9_signOf_31 ?_
        exact cg_iret C h dX9_signOf_32 (by decide) (by decide)
      · have h := h.2 c_
        exact cg_sub [] rfl (tb_X9_signOf_21 C   S h)
def k_X9_digitOf_39 (Q : Int32 → cS → Prop) (dp : Nat)  (x0 : Int32) (S : cS) : Prop :=
((x0 < ((nI 65)) →
  Q ((nI 0)) S) ∧
 (¬ x0 < ((nI 65)) →
  ((((nI 90)) < x0 →
    Q ((nI 0)) S) ∧
   (¬ ((nI 90)) < x0 →
    Q ((((x0 - ((nI 65)))) + ((nI 11)))) S))))
def k_X9_digitOf_19 (Q : Int32 → cS → Prop) (dp : Nat)  (x0 : Int32) (S : cS) : Prop :=
((x0 < ((nI 97)) →
  k_X9_digitOf_39 Q dp  x0 S) ∧
 (¬ x0 < ((nI 97)) →
  ((((nI 122)) < x0 →
    k_X9_digitOf_39 Q dp  x0 S) ∧
   (¬ ((nI 122)) < x0 →
    Q ((((x0 - ((nI 97)))) + ((nI 11)))) S))))
def k_X9_digitOf (Q : Int32 → cS → Prop) (dp : Nat) (x0 : Int32) (S : cS) : Prop :=
((x0 < ((nI 48)) →
  k_X9_digitOf_19 Q dp  x0 S) ∧
 (¬ x0 < ((nI 48)) →
  ((((nI 57)) < x0 →
    k_X9_digitOf_19 Q dp  x0 S) ∧
   (¬ ((nI 57)) < x0 →
    Q ((((x0 - ((nI 48)))) + ((nI 1)))) S))))
section S_X9_digitOf
variable {p : Program} {l : Launch} {e : Env} {s : State} {m : MethodId} {args : Array Value} {below : List Frame} {meth : Method} {c : Code} {A : Nat → Prop} {D : va_G} {Y : cY} {tp dp : Nat}
set_option maxRecDepth 20000 in
theorem tb_X9_digitOf_39 (C : cC p s m args meth c cX9_digitOf 1 (some .int) A D Y tp dp RX9) {post : Int32 → cS → Prop}   (x0 : Int32) (S : cS) (h : k_X9_digitOf_39 post dp  x0 S) : cG p l e (cRm 0 0 0 0) s m args below meth c A D Y 1 (MQ below (cQi post D Y A) args s 0 0 A) 0 0 39 [(0, .int x0)] [] S := by
  unfold k_X9_digitOf_39 at h
  refine cg_iload_n C (i := 0) rfl 0 rfl dX9_digitOf_39 ?_
  refine cg_bipush C (x := nI 65) rfl dX9_digitOf_40 ?_
  refine cg_icmp_lt C 59 (by decide) dX9_digitOf_42 (fun c_ => ?_) (fun c_ => ?_)
  · have h := h.1 c_
    refine cg_iconst C (x := nI 0) rfl dX9_digitOf_59 ?_
    exact cg_iret C h dX9_digitOf_60 (by decide) (by decide)
  · have h := h.2 c_
    refine cg_iload_n C (i := 0) rfl 0 rfl dX9_digitOf_45 ?_
    refine cg_bipush C (x := nI 90) rfl dX9_digitOf_46 ?_
    refine cg_icmp_gt C 59 (by decide) dX9_digitOf_48 (fun c_ => ?_) (fun c_ => ?_)
    · have h := h.1 c_
      refine cg_iconst C (x := nI 0) rfl dX9_digitOf_59 ?_
      exact cg_iret C h dX9_digitOf_60 (by decide) (by decide)
    · have h := h.2 c_
      refine cg_iload_n C (i := 0) rfl 0 rfl dX9_digitOf_51 ?_
      refine cg_bipush C (x := nI 65) rfl dX9_digitOf_52 ?_
      refine cg_isub C dX9_digitOf_54 ?_
      refine cg_bipush C (x := nI 11) rfl dX9_digitOf_55 ?_
      refine cg_iadd C dX9_digitOf_57 ?_
      exact cg_iret C h dX9_digitOf_58 (by decide) (by decide)
set_option maxRecDepth 20000 in
theorem tb_X9_digitOf_19 (C : cC p s m args meth c cX9_digitOf 1 (some .int) A D Y tp dp RX9) {post : Int32 → cS → Prop}   (x0 : Int32) (S : cS) (h : k_X9_digitOf_19 post dp  x0 S) : cG p l e (cRm 0 0 0 0) s m args below meth c A D Y 1 (MQ below (cQi post D Y A) args s 0 0 A) 0 0 19 [(0, .int x0)] [] S := by
  unfold k_X9_digitOf_19 at h
  refine cg_iload_n C (i := 0) rfl 0 rfl dX9_digitOf_19 ?_
  refine cg_bipush C (x := nI 97) rfl dX9_digitOf_20 ?_
  refine cg_icmp_lt C 39 (by decide) dX9_digitOf_22 (fun c_ => ?_) (fun c_ => ?_)
  · have h := h.1 c_
    exact cg_sub [0] rfl (tb_X9_digitOf_39 C   x0 S h)
  · have h := h.2 c_
    refine cg_iload_n C (i := 0) rfl 0 rfl dX9_digitOf_25 ?_
    refine cg_bipush C (x := nI 122) rfl dX9_digitOf_26 ?_
    refine cg_icmp_gt C 39 (by decide) dX9_digitOf_28 (fun c_ => ?_) (fun c_ => ?_)
    · have h := h.1 c_
      exact cg_sub [0] rfl (tb_X9_digitOf_39 C   x0 S h)
    · have h := h.2 c_
      refine cg_iload_n C (i := 0) rfl 0 rfl dX9_digitOf_31 ?_
      refine cg_bipush C (x := nI 97) rfl dX9_digitOf_32 ?_
      refine cg_isub C dX9_digitOf_34 ?_
      refine cg_bipush C (x := nI 11) rfl dX9_digitOf_35 ?_
      refine cg_iadd C dX9_digitOf_37 ?_
      exact cg_iret C h dX9_digitOf_38 (by decide) (by decide)
end S_X9_digitOf
set_option maxHeartbeats 1000000 in
set_option maxRecDepth 20000 in
theorem t_X9_digitOf (l : Launch) (x0 : Int32) (S : cS) (dp : Nat) {P : Int32 → cS → Prop} (h : k_X9_digitOf P dp x0 S) : cMet (cQi P) l yX9_digitOf cX9_digitOf 1 (some .int) 0 0 0 0 [.int x0] S dp := by
  intro D Y tp sz
  refine cg_body (by decide +kernel) (Nat.le_of_ble_eq_true rfl) ?_
  intro p e s m args below meth c C
  generalize va_A (cWd Y S) sz = A at C ⊢
  have C : cC p s m args meth c cX9_digitOf 1 (some .int) A D Y tp dp RX9 := C
  refine cg_lv (lv' := [(0, .int x0)]) rfl ?_
  unfold k_X9_digitOf at h
  refine cg_iload_n C (i := 0) rfl 0 rfl dX9_digitOf_0 ?_
  refine cg_bipush C (x := nI 48) rfl dX9_digitOf_1 ?_
  refine cg_icmp_lt C 19 (by decide) dX9_digitOf_3 (fun c_ => ?_) (fun c_ => ?_)
  · have h := h.1 c_
    exact cg_sub [0] rfl (tb_X9_digitOf_19 C   x0 S h)
  · have h := h.2 c_
    refine cg_iload_n C (i := 0) rfl 0 rfl dX9_digitOf_6 ?_
    refine cg_bipush C (x := nI 57) rfl dX9_digitOf_7 ?_
    refine cg_icmp_gt C 19 (by decide) dX9_digitOf_9 (fun c_ => ?_) (fun c_ => ?_)
    · have h := h.1 c_
      exact cg_sub [0] rfl (tb_X9_digitOf_19 C   x0 S h)
    · have h := h.2 c_
      refine cg_iload_n C (i := 0) rfl 0 rfl dX9_digitOf_12 ?_
      refine cg_bipush C (x := nI 48) rfl dX9_digitOf_13 ?_
      refine cg_isub C dX9_digitOf_15 ?_
      refine cg_iconst C (x := nI 1) rfl dX9_digitOf_16 ?_
      refine cg_iadd C dX9_digitOf_17 ?_
      exact cg_iret C h dX9_digitOf_18 (by decide) (by decide)
def k_X9_withDigit_10 (Q : Int64 → cS → Prop) (dp : Nat)  (x0 : Int64) (S : cS) : Prop :=
Q x0 S
def k_X9_withDigit (Q : Int64 → cS → Prop) (dp : Nat) (x0 : Int64) (x2 : Int32) (x3 : Int32) (S : cS) : Prop :=
((x2 < 0 →
  k_X9_withDigit_10 Q dp  x0 S) ∧
 (¬ x2 < 0 →
  ((x2 < ((nI 12)) →
    vp_in ((((nI 11)) - x2)) 12 ∧ (Q (x0 + (((x3).toInt64) * (lN (37 ^ ((((nI 11)) - x2)).toNatClampNeg)))) S)) ∧
   (¬ x2 < ((nI 12)) →
    k_X9_withDigit_10 Q dp  x0 S))))
section S_X9_withDigit
variable {p : Program} {l : Launch} {e : Env} {s : State} {m : MethodId} {args : Array Value} {below : List Frame} {meth : Method} {c : Code} {A : Nat → Prop} {D : va_G} {Y : cY} {tp dp : Nat}
set_option maxRecDepth 20000 in
theorem tb_X9_withDigit_10 (C : cC p s m args meth c cX9_withDigit 4 (some .long) A D Y tp dp RX9) {post : Int64 → cS → Prop}   (x0 : Int64) (S : cS) (h : k_X9_withDigit_10 post dp  x0 S) : cG p l e (cRm 0 0 0 0) s m args below meth c A D Y 4 (MQ below (cQl post D Y A) args s 0 0 A) 0 0 10 [(0, .long x0)] [] S := by
  unfold k_X9_withDigit_10 at h
  refine cg_lload_n C (i := 0) rfl 0 rfl dX9_withDigit_10 ?_
  refine cg_goto C 27 (by decide) dX9_withDigit_11 ?_
  exact cg_lret C h dX9_withDigit_27 (by decide) (by decide)
end S_X9_withDigit
set_option maxHeartbeats 1000000 in
set_option maxRecDepth 20000 in
theorem t_X9_withDigit (l : Launch) (x0 : Int64) (x2 : Int32) (x3 : Int32) (S : cS) (dp : Nat) {P : Int64 → cS → Prop} (h : k_X9_withDigit P dp x0 x2 x3 S) : cMet (cQl P) l yX9_withDigit cX9_withDigit 4 (some .long) 0 0 0 0 [.long x0, .int x2, .int x3] S dp := by
  intro D Y tp sz
  refine cg_body (by decide +kernel) (Nat.le_of_ble_eq_true rfl) ?_
  intro p e s m args below meth c C
  generalize va_A (cWd Y S) sz = A at C ⊢
  have C : cC p s m args meth c cX9_withDigit 4 (some .long) A D Y tp dp RX9 := C
  refine cg_lv (lv' := [(0, .long x0), (2, .int x2), (3, .int x3)]) rfl ?_
  unfold k_X9_withDigit at h
  refine cg_iload_n C (i := 2) rfl 1 rfl dX9_withDigit_0 ?_
  refine cg_if_lt C 10 (by decide) dX9_withDigit_1 (fun c_ => ?_) (fun c_ => ?_)
  · have h := h.1 c_
    exact cg_sub [0] rfl (tb_X9_withDigit_10 C   x0 S h)
  · have h := h.2 c_
    refine cg_iload_n C (i := 2) rfl 1 rfl dX9_withDigit_4 ?_
    refine cg_bipush C (x := nI 12) rfl dX9_withDigit_5 ?_
    refine cg_icmp_lt C 14 (by decide) dX9_withDigit_7 (fun c_ => ?_) (fun c_ => ?_)
    · have h := h.1 c_
      refine cg_lload_n C (i := 0) rfl 0 rfl dX9_withDigit_14 ?_
      refine cg_iload_n C (i := 3) rfl 2 rfl dX9_withDigit_15 ?_
      refine cg_i2l C dX9_withDigit_16 ?_
      refine cg_powers C cl_pow dX9_withDigit_17 ?_
      refine cg_bipush C (x := nI 11) rfl dX9_withDigit_20 ?_
      refine cg_iload_n C (i := 2) rfl 1 rfl dX9_withDigit_22 ?_
      refine cg_isub C dX9_withDigit_23 ?_
      obtain ⟨hc_24, h⟩ := h
      refine cg_powerR C hc_24 dX9_withDigit_24 ?_
      refine cg_lmul C dX9_withDigit_25 ?_
      refine cg_ladd C dX9_withDigit_26 ?_
      exact cg_lret C h dX9_withDigit_27 (by decide) (by decide)
    · have h := h.2 c_
      exact cg_sub [0] rfl (tb_X9_withDigit_10 C   x0 S h)
def k_X3_readWordsOf_111 (Q : cS → Prop) (dp : Nat) (R9 : Nat → Nat → Int32 → Int32 → cS → Prop) (x0 : Nat) (x1 : Nat) (x2 : Int32) (x3 : Int32) (S : cS) : Prop :=
∀ x3_5 : Int32, x3_5 = x3 + nI 1 → R9 x0 x1 x2 x3_5 S
def k_X3_readWordsOf_108 (Q : cS → Prop) (dp : Nat) (R9 : Nat → Nat → Int32 → Int32 → cS → Prop) (x0 : Nat) (x1 : Nat) (x2 : Int32) (x3 : Int32) (S : cS) : Prop :=
∀ x2_4 : Int32, x2_4 = x2 + nI 1 → k_X3_readWordsOf_111 Q dp R9 x0 x1 x2_4 x3 S
def k_X3_readWordsOf_73 (Q : cS → Prop) (dp : Nat) (R9 : Nat → Nat → Int32 → Int32 → cS → Prop) (x0 : Nat) (x1 : Nat) (x2 : Int32) (x3 : Int32) (x4 : Int32) (S : cS) : Prop :=
cA S x0 3 ∧ (((((ci S 98 x0)) ≤ 0 →
  k_X3_readWordsOf_108 Q dp R9 x0 x1 x2 x3 S) ∧
 (¬ ((ci S 98 x0)) ≤ 0 →
  cA S x0 3 ∧ ((∃ b6 : Nat, cr S 97 x0 = some b6 ∧ (cA S x0 3 ∧ (cA S x0 3 ∧ ((∃ b7 : Nat, cr S 97 x0 = some b7 ∧ (cA S x0 3 ∧ (cX S b7 15 ((((ci S 98 x0)) - ((nI 1)))) ∧ (k_X9_withDigit (fun r_8 S_8 => 
  cX S_8 b6 15 ((((ci S 98 x0)) - ((nI 1)))) ∧ (∀ S9 : cS, S9 = cSJ S_8 b6 ((((ci S 98 x0)) - ((nI 1)))).toNatClampNeg r_8 → k_X3_readWordsOf_108 Q dp R9 x0 x1 x2 x3 S9)) dp (cJ S b7 ((((ci S 98 x0)) - ((nI 1)))).toNatClampNeg) x2 x4 S))))))))))))
def k_X3_readWordsOf_9 (Q : cS → Prop) (dp : Nat) (R9 : Nat → Nat → Int32 → Int32 → cS → Prop) (x0 : Nat) (x1 : Nat) (x2 : Int32) (x3 : Int32) (S : cS) : Prop :=
cA S x1 9 ∧ (((((ci S 289 x1)) ≤ x3 →
  Q S) ∧
 (¬ ((ci S 289 x1)) ≤ x3 →
  cA S x1 9 ∧ (k_X9_signOf (fun r_2 S_2 => 
  k_X9_digitOf (fun r_3 S_3 => 
  ((¬ r_3 = 0 →
    ((¬ x2 = 0 →
      k_X3_readWordsOf_73 Q dp R9 x0 x1 x2 x3 r_3 S_3) ∧
     (x2 = 0 →
      cA S_3 x0 3 ∧ (cA S_3 x0 3 ∧ ((∃ b10 : Nat, cr S_3 97 x0 = some b10 ∧ (cA S_3 b10 15 ∧ (((((nI (cn S_3 b10))) ≤ ((ci S_3 98 x0)) →
        k_X3_readWordsOf_73 Q dp R9 x0 x1 x2 x3 r_3 S_3) ∧
       (¬ ((nI (cn S_3 b10))) ≤ ((ci S_3 98 x0)) →
        cA S_3 x0 3 ∧ ((∃ b11 : Nat, cr S_3 97 x0 = some b11 ∧ (cA S_3 x0 3 ∧ (cX S_3 b11 15 ((ci S_3 98 x0)) ∧ (∀ S12 : cS, S12 = cSJ S_3 b11 ((ci S_3 98 x0)).toNatClampNeg 0 → cA S12 x0 3 ∧ (cA S12 x0 3 ∧ (∀ S13 : cS, S13 = cSi S12 98 x0 ((((ci S12 98 x0)) + ((nI 1)))) → k_X3_readWordsOf_73 Q dp R9 x0 x1 x2 x3 r_3 S13))))))))))))))))) ∧
   (r_3 = 0 →
    k_X3_readWordsOf_111 Q dp R9 x0 x1 (((nI 0))) x3 S_3))) dp r_2 S_2) dp x1 x3 S))))
def k_X3_readWordsOf_9L (Q : cS → Prop) (dp : Nat)  (x0 : Nat) (x1 : Nat) (x2 : Int32) (x3 : Int32) (S : cS) : Prop :=
  lfp (X := Nat × Nat × Int32 × Int32 × cS) (fun P y => k_X3_readWordsOf_9 Q dp  (fun b0 b1 b2 b3 S => P (b0, b1, b2, b3, S)) y.1 y.2.1 y.2.2.1 y.2.2.2.1 y.2.2.2.2) (x0, x1, x2, x3, S)
def k_X3_readWordsOf (Q : cS → Prop) (dp : Nat) (x0 : Nat) (x1 : Nat) (S : cS) : Prop :=
cA S x0 3 ∧ (∀ S1 : cS, S1 = cSi S 98 x0 ((nI 0)) → k_X3_readWordsOf_9L Q dp  x0 x1 (((nI 0))) (((nI 0))) S1)
section S_X3_readWordsOf
variable {p : Program} {l : Launch} {e : Env} {s : State} {m : MethodId} {args : Array Value} {below : List Frame} {meth : Method} {c : Code} {A : Nat → Prop} {D : va_G} {Y : cY} {tp dp : Nat}
set_option maxRecDepth 20000 in
theorem tb_X3_readWordsOf_111 (C : cC p s m args meth c cX3_readWordsOf 5 none A D Y tp dp RX3) {post : cS → Prop} {R9 : Nat → Nat → Int32 → Int32 → cS → Prop} (hR9 : ∀ (x0 : Nat) (x1 : Nat) (x2 : Int32) (x3 : Int32) (S : cS), R9 x0 x1 x2 x3 S → cG p l e (cRm 1 0 0 23) s m args below meth c A D Y 5 (MQ below (cQv post D Y A) args s 0 0 A) 0 0 9 [(0, .ref x0), (1, .ref x1), (2, .int x2), (3, .int x3)] [] S) (x0 : Nat) (x1 : Nat) (x2 : Int32) (x3 : Int32) (S : cS) (h : k_X3_readWordsOf_111 post dp R9 x0 x1 x2 x3 S) : cG p l e (cRm 1 0 0 23) s m args below meth c A D Y 5 (MQ below (cQv post D Y A) args s 0 0 A) 0 0 111 [(0, .ref x0), (1, .ref x1), (2, .int x2), (3, .int x3)] [] S := by
  unfold k_X3_readWordsOf_111 at h
  obtain ⟨x3_5, e_x3_5⟩ : ∃ z : Int32, z = x3 + nI 1 := ⟨_, rfl⟩
  have h := h x3_5 e_x3_5
  refine cg_iinc C (lv' := [(3, .int x3_5), (0, .ref x0), (1, .ref x1), (2, .int x2)]) 3 rfl (by rw [e_x3_5]; rfl) (Nat.le_of_ble_eq_true rfl) rfl dX3_readWordsOf_111 ?_
  refine cg_goto C 9 (by decide) dX3_readWordsOf_114 ?_
  exact cg_sub [1, 2, 3, 0] rfl (hR9 x0 x1 x2 x3_5 S h)
set_option maxRecDepth 20000 in
theorem tb_X3_readWordsOf_108 (C : cC p s m args meth c cX3_readWordsOf 5 none A D Y tp dp RX3) {post : cS → Prop} {R9 : Nat → Nat → Int32 → Int32 → cS → Prop} (hR9 : ∀ (x0 : Nat) (x1 : Nat) (x2 : Int32) (x3 : Int32) (S : cS), R9 x0 x1 x2 x3 S → cG p l e (cRm 1 0 0 23) s m args below meth c A D Y 5 (MQ below (cQv post D Y A) args s 0 0 A) 0 0 9 [(0, .ref x0), (1, .ref x1), (2, .int x2), (3, .int x3)] [] S) (x0 : Nat) (x1 : Nat) (x2 : Int32) (x3 : Int32) (S : cS) (h : k_X3_readWordsOf_108 post dp R9 x0 x1 x2 x3 S) : cG p l e (cRm 1 0 0 23) s m args below meth c A D Y 5 (MQ below (cQv post D Y A) args s 0 0 A) 0 0 108 [(0, .ref x0), (1, .ref x1), (2, .int x2), (3, .int x3)] [] S := by
  unfold k_X3_readWordsOf_108 at h
  obtain ⟨x2_4, e_x2_4⟩ : ∃ z : Int32, z = x2 + nI 1 := ⟨_, rfl⟩
  have h := h x2_4 e_x2_4
  refine cg_iinc C (lv' := [(2, .int x2_4), (0, .ref x0), (1, .ref x1), (3, .int x3)]) 2 rfl (by rw [e_x2_4]; rfl) (Nat.le_of_ble_eq_true rfl) rfl dX3_readWordsOf_108 ?_
  exact cg_sub [1, 2, 0, 3] rfl (tb_X3_readWordsOf_111 C  hR9 x0 x1 x2_4 x3 S h)
set_option maxRecDepth 20000 in
theorem tb_X3_readWordsOf_73 (C : cC p s m args meth c cX3_readWordsOf 5 none A D Y tp dp RX3) {post : cS → Prop} {R9 : Nat → Nat → Int32 → Int32 → cS → Prop} (hR9 : ∀ (x0 : Nat) (x1 : Nat) (x2 : Int32) (x3 : Int32) (S : cS), R9 x0 x1 x2 x3 S → cG p l e (cRm 1 0 0 23) s m args below meth c A D Y 5 (MQ below (cQv post D Y A) args s 0 0 A) 0 0 9 [(0, .ref x0), (1, .ref x1), (2, .int x2), (3, .int x3)] [] S) (x0 : Nat) (x1 : Nat) (x2 : Int32) (x3 : Int32) (x4 : Int32) (S : cS) (h : k_X3_readWordsOf_73 post dp R9 x0 x1 x2 x3 x4 S) : cG p l e (cRm 1 0 0 23) s m args below meth c A D Y 5 (MQ below (cQv post D Y A) args s 0 0 A) 0 0 73 [(0, .ref x0), (1, .ref x1), (2, .int x2), (3, .int x3), (4, .int x4)] [] S := by
  unfold k_X3_readWordsOf_73 at h
  refine cg_aload_n C (i := 0) rfl 0 rfl dX3_readWordsOf_73 ?_
  obtain ⟨hc_74, h⟩ := h
  refine cg_get C (k := 3) (j := 2) (.int (ci S 98 x0)) hc_74.1 hc_74.2 (by decide) rfl (by decide) rfl rfl cWs_wsX30 cl_X3_22 rfl dX3_readWordsOf_74 ?_
  refine cg_if_le C 108 (by decide) dX3_readWordsOf_77 (fun c_ => ?_) (fun c_ => ?_)
  · have h := h.1 c_
    exact cg_sub [0, 1, 2, 3] rfl (tb_X3_readWordsOf_108 C  hR9 x0 x1 x2 x3 S h)
  · have h := h.2 c_
    refine cg_aload_n C (i := 0) rfl 0 rfl dX3_readWordsOf_80 ?_
    obtain ⟨hc_81, h⟩ := h
    obtain ⟨b6, hb_b6, h⟩ := h
    refine cg_get C (k := 3) (j := 1) (.ref b6) hc_81.1 hc_81.2 (by decide) rfl (by decide) rfl (show cV _ 3 1 x0 = _ from congrArg va_rf hb_b6) cWs_wsX30 cl_X3_18 rfl dX3_readWordsOf_81 ?_
    refine cg_aload_n C (i := 0) rfl 0 rfl dX3_readWordsOf_84 ?_
    obtain ⟨hc_85, h⟩ := h
    refine cg_get C (k := 3) (j := 2) (.int (ci S 98 x0)) hc_85.1 hc_85.2 (by decide) rfl (by decide) rfl rfl cWs_wsX30 cl_X3_22 rfl dX3_readWordsOf_85 ?_
    refine cg_iconst C (x := nI 1) rfl dX3_readWordsOf_88 ?_
    refine cg_isub C dX3_readWordsOf_89 ?_
    refine cg_aload_n C (i := 0) rfl 0 rfl dX3_readWordsOf_90 ?_
    obtain ⟨hc_91, h⟩ := h
    obtain ⟨b7, hb_b7, h⟩ := h
    refine cg_get C (k := 3) (j := 1) (.ref b7) hc_91.1 hc_91.2 (by decide) rfl (by decide) rfl (show cV _ 3 1 x0 = _ from congrArg va_rf hb_b7) cWs_wsX30 cl_X3_18 rfl dX3_readWordsOf_91 ?_
    refine cg_aload_n C (i := 0) rfl 0 rfl dX3_readWordsOf_94 ?_
    obtain ⟨hc_95, h⟩ := h
    refine cg_get C (k := 3) (j := 2) (.int (ci S 98 x0)) hc_95.1 hc_95.2 (by decide) rfl (by decide) rfl rfl cWs_wsX30 cl_X3_22 rfl dX3_readWordsOf_95 ?_
    refine cg_iconst C (x := nI 1) rfl dX3_readWordsOf_98 ?_
    refine cg_isub C dX3_readWordsOf_99 ?_
    obtain ⟨hc_100, h⟩ := h
    refine cg_laloadR C hc_100 dX3_readWordsOf_100 ?_
    refine cg_iload_n C (i := 2) rfl 2 rfl dX3_readWordsOf_101 ?_
    refine cg_iload C 4 rfl dX3_readWordsOf_102 ?_
    refine cg_callsl C (t_X9_withDigit l (cJ S b7 ((((ci S 98 x0)) - ((nI 1)))).toNatClampNeg) x2 x4 S dp h) cc_X3_90 rfl ⟨by decide, by decide⟩ ⟨by decide, by decide⟩ rfl (Nat.le_of_ble_eq_true rfl) dX3_readWordsOf_104 (fun r_8 S_8 h => ?_)
    obtain ⟨hc_107, h⟩ := h
    refine cg_lastoreR C hc_107 dX3_readWordsOf_107 ?_
    refine cg_nm (fun S9 e_S9 => ?_)
    have h := h S9 e_S9
    exact cg_sub [0, 1, 2, 3] rfl (tb_X3_readWordsOf_108 C  hR9 x0 x1 x2 x3 S9 h)
set_option maxRecDepth 20000 in
theorem tb_X3_readWordsOf_9 (C : cC p s m args meth c cX3_readWordsOf 5 none A D Y tp dp RX3) {post : cS → Prop} {R9 : Nat → Nat → Int32 → Int32 → cS → Prop} (hR9 : ∀ (x0 : Nat) (x1 : Nat) (x2 : Int32) (x3 : Int32) (S : cS), R9 x0 x1 x2 x3 S → cG p l e (cRm 1 0 0 23) s m args below meth c A D Y 5 (MQ below (cQv post D Y A) args s 0 0 A) 0 0 9 [(0, .ref x0), (1, .ref x1), (2, .int x2), (3, .int x3)] [] S) (x0 : Nat) (x1 : Nat) (x2 : Int32) (x3 : Int32) (S : cS) (h : k_X3_readWordsOf_9 post dp R9 x0 x1 x2 x3 S) : cG p l e (cRm 1 0 0 23) s m args below meth c A D Y 5 (MQ below (cQv post D Y A) args s 0 0 A) 0 0 9 [(0, .ref x0), (1, .ref x1), (2, .int x2), (3, .int x3)] [] S := by
  unfold k_X3_readWordsOf_9 at h
  refine cg_iload_n C (i := 3) rfl 3 rfl dX3_readWordsOf_9 ?_
  refine cg_aload_n C (i := 1) rfl 1 rfl dX3_readWordsOf_10 ?_
  obtain ⟨hc_11, h⟩ := h
  refine cg_get C (k := 9) (j := 1) (.int (ci S 289 x1)) hc_11.1 hc_11.2 (by decide) rfl (by decide) rfl rfl cWs_wsX90 cl_X3_80 rfl dX3_readWordsOf_11 ?_
  refine cg_icmp_ge C 117 (by decide) dX3_readWordsOf_14 (fun c_ => ?_) (fun c_ => ?_)
  · have h := h.1 c_
    exact cg_vret C h dX3_readWordsOf_117 (by decide) (by decide)
  · have h := h.2 c_
    refine cg_aload_n C (i := 1) rfl 1 rfl dX3_readWordsOf_17 ?_
    refine cg_iload_n C (i := 3) rfl 3 rfl dX3_readWordsOf_18 ?_
    obtain ⟨hc_19, h⟩ := h
    refine cg_calli C (t_X9_signOf l x1 x3 S dp h) cc_X3_83 hc_19.1 hc_19.2 (by decide) rfl rfl ⟨by decide, by decide⟩ ⟨by decide, by decide⟩ rfl (Nat.le_of_ble_eq_true rfl) dX3_readWordsOf_19 (fun r_2 S_2 h => ?_)
    refine cg_callsi C (t_X9_digitOf l r_2 S_2 dp h) cc_X3_87 rfl ⟨by decide, by decide⟩ ⟨by decide, by decide⟩ rfl (Nat.le_of_ble_eq_true rfl) dX3_readWordsOf_22 (fun r_3 S_3 h => ?_)
    refine cg_istore C (lv' := [(4, .int r_3), (0, .ref x0), (1, .ref x1), (2, .int x2), (3, .int x3)]) (Nat.le_of_ble_eq_true rfl) rfl dX3_readWordsOf_25 ?_
    refine cg_iload C 0 rfl dX3_readWordsOf_27 ?_
    refine cg_if_ne C 37 (by decide) dX3_readWordsOf_29 (fun c_ => ?_) (fun c_ => ?_)
    · have h := h.1 c_
      refine cg_iload_n C (i := 2) rfl 3 rfl dX3_readWordsOf_37 ?_
      refine cg_if_ne C 73 (by decide) dX3_readWordsOf_38 (fun c_ => ?_) (fun c_ => ?_)
      · have h := h.1 c_
        exact cg_sub [1, 2, 3, 4, 0] rfl (tb_X3_readWordsOf_73 C  hR9 x0 x1 x2 x3 r_3 S_3 h)
      · have h := h.2 c_
        refine cg_aload_n C (i := 0) rfl 1 rfl dX3_readWordsOf_41 ?_
        obtain ⟨hc_42, h⟩ := h
        refine cg_get C (k := 3) (j := 2) (.int (ci S_3 98 x0)) hc_42.1 hc_42.2 (by decide) rfl (by decide) rfl rfl cWs_wsX30 cl_X3_22 rfl dX3_readWordsOf_42 ?_
        refine cg_aload_n C (i := 0) rfl 1 rfl dX3_readWordsOf_45 ?_
        obtain ⟨hc_46, h⟩ := h
        obtain ⟨b10, hb_b10, h⟩ := h
        refine cg_get C (k := 3) (j := 1) (.ref b10) hc_46.1 hc_46.2 (by decide) rfl (by decide) rfl (show cV _ 3 1 x0 = _ from congrArg va_rf hb_b10) cWs_wsX30 cl_X3_18 rfl dX3_readWordsOf_46 ?_
        obtain ⟨hc_49, h⟩ := h
        refine cg_alen C hc_49.1 hc_49.2 (by decide) (by decide) dX3_readWordsOf_49 ?_
        refine cg_icmp_ge C 73 (by decide) dX3_readWordsOf_50 (fun c_ => ?_) (fun c_ => ?_)
        · have h := h.1 c_
          exact cg_sub [1, 2, 3, 4, 0] rfl (tb_X3_readWordsOf_73 C  hR9 x0 x1 x2 x3 r_3 S_3 h)
        · have h := h.2 c_
          refine cg_aload_n C (i := 0) rfl 1 rfl dX3_readWordsOf_53 ?_
          obtain ⟨hc_54, h⟩ := h
          obtain ⟨b11, hb_b11, h⟩ := h
          refine cg_get C (k := 3) (j := 1) (.ref b11) hc_54.1 hc_54.2 (by decide) rfl (by decide) rfl (show cV _ 3 1 x0 = _ from congrArg va_rf hb_b11) cWs_wsX30 cl_X3_18 rfl dX3_readWordsOf_54 ?_
          refine cg_aload_n C (i := 0) rfl 1 rfl dX3_readWordsOf_57 ?_
          obtain ⟨hc_58, h⟩ := h
          refine cg_get C (k := 3) (j := 2) (.int (ci S_3 98 x0)) hc_58.1 hc_58.2 (by decide) rfl (by decide) rfl rfl cWs_wsX30 cl_X3_22 rfl dX3_readWordsOf_58 ?_
          refine cg_lconst C (x := 0) rfl dX3_readWordsOf_61 ?_
          obtain ⟨hc_62, h⟩ := h
          refine cg_lastoreR C hc_62 dX3_readWordsOf_62 ?_
          refine cg_nm (fun S12 e_S12 => ?_)
          have h := h S12 e_S12
          refine cg_aload_n C (i := 0) rfl 1 rfl dX3_readWordsOf_63 ?_
          refine cg_dup C rfl dX3_readWordsOf_64 ?_
          obtain ⟨hc_65, h⟩ := h
          refine cg_get C (k := 3) (j := 2) (.int (ci S12 98 x0)) hc_65.1 hc_65.2 (by decide) rfl (by decide) rfl rfl cWs_wsX30 cl_X3_22 rfl dX3_readWordsOf_65 ?_
          refine cg_iconst C (x := nI 1) rfl dX3_readWordsOf_68 ?_
          refine cg_iadd C dX3_readWordsOf_69 ?_
          obtain ⟨hc_70, h⟩ := h
          refine cg_puti C (k := 3) (j := 2) (ty := tyX3) (fty := .int) hc_70.1 hc_70.2 (by decide) rfl (by decide) rfl (by decide) rfl cWs_wsX30 tyX3_ok nmX3 cl_X3_22 rfl rfl rfl rfl rfl dX3_readWordsOf_70 ?_
          refine cg_nm (fun S13 e_S13 => ?_)
          have h := h S13 e_S13
          exact cg_sub [1, 2, 3, 4, 0] rfl (tb_X3_readWordsOf_73 C  hR9 x0 x1 x2 x3 r_3 S13 h)
    · have h := h.2 c_
      refine cg_iconst C (x := nI 0) rfl dX3_readWordsOf_32 ?_
      refine cg_istore_n C (i := 2) (lv' := [(2, .int ((nI 0))), (4, .int r_3), (0, .ref x0), (1, .ref x1), (3, .int x3)]) rfl (Nat.le_of_ble_eq_true rfl) rfl dX3_readWordsOf_33 ?_
      refine cg_goto C 111 (by decide) dX3_readWordsOf_34 ?_
      exact cg_sub [2, 3, 0, 4] rfl (tb_X3_readWordsOf_111 C  hR9 x0 x1 (((nI 0))) x3 S_3 h)
set_option maxRecDepth 20000 in
theorem tl_X3_readWordsOf_9 (C : cC p s m args meth c cX3_readWordsOf 5 none A D Y tp dp RX3) {post : cS → Prop}   (x0 : Nat) (x1 : Nat) (x2 : Int32) (x3 : Int32) (S : cS) (h : k_X3_readWordsOf_9L post dp  x0 x1 x2 x3 S) : cG p l e (cRm 1 0 0 23) s m args below meth c A D Y 5 (MQ below (cQv post D Y A) args s 0 0 A) 0 0 9 [(0, .ref x0), (1, .ref x1), (2, .int x2), (3, .int x3)] [] S :=
  h (fun y => cG p l e (cRm 1 0 0 23) s m args below meth c A D Y 5 (MQ below (cQv post D Y A) args s 0 0 A) 0 0 9 [(0, .ref (y.1)), (1, .ref (y.2.1)), (2, .int (y.2.2.1)), (3, .int (y.2.2.2.1))] [] (y.2.2.2.2)) (fun y hy => tb_X3_readWordsOf_9 C   (fun b0 b1 b2 b3 S z => z) (y.1) (y.2.1) (y.2.2.1) (y.2.2.2.1) (y.2.2.2.2) hy)
end S_X3_readWordsOf
set_option maxHeartbeats 1000000 in
set_option maxRecDepth 20000 in
theorem t_X3_readWordsOf (l : Launch) (x0 : Nat) (x1 : Nat) (S : cS) (dp : Nat) {P : cS → Prop} (h : k_X3_readWordsOf P dp x0 x1 S) : cMet (cQv P) l yX3_readWordsOf cX3_readWordsOf 5 none 1 0 0 23 [.ref x0, .ref x1] S dp := by
  intro D Y tp sz
  refine cg_body (by decide +kernel) (Nat.le_of_ble_eq_true rfl) ?_
  intro p e s m args below meth c C
  generalize va_A (cWd Y S) sz = A at C ⊢
  have C : cC p s m args meth c cX3_readWordsOf 5 none A D Y tp dp RX3 := C
  refine cg_lv (lv' := [(0, .ref x0), (1, .ref x1)]) rfl ?_
  unfold k_X3_readWordsOf at h
  refine cg_aload_n C (i := 0) rfl 0 rfl dX3_readWordsOf_0 ?_
  refine cg_iconst C (x := nI 0) rfl dX3_readWordsOf_1 ?_
  obtain ⟨hc_2, h⟩ := h
  refine cg_puti C (k := 3) (j := 2) (ty := tyX3) (fty := .int) hc_2.1 hc_2.2 (by decide) rfl (by decide) rfl (by decide) rfl cWs_wsX30 tyX3_ok nmX3 cl_X3_22 rfl rfl rfl rfl rfl dX3_readWordsOf_2 ?_
  refine cg_nm (fun S1 e_S1 => ?_)
  have h := h S1 e_S1
  refine cg_iconst C (x := nI 0) rfl dX3_readWordsOf_5 ?_
  refine cg_istore_n C (i := 2) (lv' := [(2, .int ((nI 0))), (0, .ref x0), (1, .ref x1)]) rfl (Nat.le_of_ble_eq_true rfl) rfl dX3_readWordsOf_6 ?_
  refine cg_iconst C (x := nI 0) rfl dX3_readWordsOf_7 ?_
  refine cg_istore_n C (i := 3) (lv' := [(3, .int ((nI 0))), (2, .int ((nI 0))), (0, .ref x0), (1, .ref x1)]) rfl (Nat.le_of_ble_eq_true rfl) rfl dX3_readWordsOf_8 ?_
  exact cg_sub [2, 3, 1, 0] rfl (tl_X3_readWordsOf_9 C   x0 x1 (((nI 0))) (((nI 0))) S1 h)
def k_X3_readPad (Q : Int32 → cS → Prop) (dp : Nat) (x0 : Nat) (S : cS) : Prop :=
cA S x0 3 ∧ ((∃ b1 : Nat, cr S 96 x0 = some b1 ∧ (cA S x0 3 ∧ (k_X3_readWordsOf (fun S_2 => 
cA S_2 x0 3 ∧ (Q ((ci S_2 98 x0)) S_2)) dp x0 b1 S))))
set_option maxHeartbeats 1000000 in
set_option maxRecDepth 20000 in
theorem t_X3_readPad (l : Launch) (x0 : Nat) (S : cS) (dp : Nat) {P : Int32 → cS → Prop} (h : k_X3_readPad P dp x0 S) : cMet (cQi P) l yX3_readPad cX3_readPad 1 (some .int) 2 0 0 47 [.ref x0] S dp := by
  intro D Y tp sz
  refine cg_body (by decide +kernel) (Nat.le_of_ble_eq_true rfl) ?_
  intro p e s m args below meth c C
  generalize va_A (cWd Y S) sz = A at C ⊢
  have C : cC p s m args meth c cX3_readPad 1 (some .int) A D Y tp dp RX3 := C
  refine cg_lv (lv' := [(0, .ref x0)]) rfl ?_
  unfold k_X3_readPad at h
  refine cg_aload_n C (i := 0) rfl 0 rfl dX3_readPad_0 ?_
  refine cg_aload_n C (i := 0) rfl 0 rfl dX3_readPad_1 ?_
  obtain ⟨hc_2, h⟩ := h
  obtain ⟨b1, hb_b1, h⟩ := h
  refine cg_get C (k := 3) (j := 0) (.ref b1) hc_2.1 hc_2.2 (by decide) rfl (by decide) rfl (show cV _ 3 0 x0 = _ from congrArg va_rf hb_b1) cWs_wsX30 cl_X3_12 rfl dX3_readPad_2 ?_
  obtain ⟨hc_5, h⟩ := h
  refine cg_callv C (t_X3_readWordsOf l x0 b1 S dp h) cc_X3_45 hc_5.1 hc_5.2 (by decide) rfl rfl ⟨by decide, by decide⟩ ⟨by decide, by decide⟩ rfl (Nat.le_of_ble_eq_true rfl) dX3_readPad_5 (fun S_2 h => ?_)
  refine cg_aload_n C (i := 0) rfl 0 rfl dX3_readPad_8 ?_
  obtain ⟨hc_9, h⟩ := h
  refine cg_get C (k := 3) (j := 2) (.int (ci S_2 98 x0)) hc_9.1 hc_9.2 (by decide) rfl (by decide) rfl rfl cWs_wsX30 cl_X3_22 rfl dX3_readPad_9 ?_
  exact cg_iret C h dX3_readPad_12 (by decide) (by decide)
def k_X3_wordAt_21 (Q : Int64 → cS → Prop) (dp : Nat)   (S : cS) : Prop :=
Q 0 S
def k_X3_wordAt (Q : Int64 → cS → Prop) (dp : Nat) (x0 : Nat) (x1 : Int32) (S : cS) : Prop :=
((x1 < 0 →
  k_X3_wordAt_21 Q dp  S) ∧
 (¬ x1 < 0 →
  cA S x0 3 ∧ (((((ci S 98 x0)) ≤ x1 →
    k_X3_wordAt_21 Q dp  S) ∧
   (¬ ((ci S 98 x0)) ≤ x1 →
    cA S x0 3 ∧ ((∃ b1 : Nat, cr S 97 x0 = some b1 ∧ (cA S b1 15 ∧ (((x1 < ((nI (cn S b1))) →
      cA S x0 3 ∧ ((∃ b2 : Nat, cr S 97 x0 = some b2 ∧ (cX S b2 15 x1 ∧ (Q (cJ S b2 (x1).toNatClampNeg) S))))) ∧
     (¬ x1 < ((nI (cn S b1))) →
      k_X3_wordAt_21 Q dp  S)))))))))))
section S_X3_wordAt
variable {p : Program} {l : Launch} {e : Env} {s : State} {m : MethodId} {args : Array Value} {below : List Frame} {meth : Method} {c : Code} {A : Nat → Prop} {D : va_G} {Y : cY} {tp dp : Nat}
set_option maxRecDepth 20000 in
theorem tb_X3_wordAt_21 (C : cC p s m args meth c cX3_wordAt 2 (some .long) A D Y tp dp RX3) {post : Int64 → cS → Prop}    (S : cS) (h : k_X3_wordAt_21 post dp   S) : cG p l e (cRm 0 0 0 0) s m args below meth c A D Y 2 (MQ below (cQl post D Y A) args s 0 0 A) 0 0 21 [] [] S := by
  unfold k_X3_wordAt_21 at h
  refine cg_lconst C (x := 0) rfl dX3_wordAt_21 ?_
  refine cg_goto C 31 (by decide) dX3_wordAt_22 ?_
  exact cg_lret C h dX3_wordAt_31 (by decide) (by decide)
end S_X3_wordAt
set_option maxHeartbeats 1000000 in
set_option maxRecDepth 20000 in
theorem t_X3_wordAt (l : Launch) (x0 : Nat) (x1 : Int32) (S : cS) (dp : Nat) {P : Int64 → cS → Prop} (h : k_X3_wordAt P dp x0 x1 S) : cMet (cQl P) l yX3_wordAt cX3_wordAt 2 (some .long) 0 0 0 0 [.ref x0, .int x1] S dp := by
  intro D Y tp sz
  refine cg_body (by decide +kernel) (Nat.le_of_ble_eq_true rfl) ?_
  intro p e s m args below meth c C
  generalize va_A (cWd Y S) sz = A at C ⊢
  have C : cC p s m args meth c cX3_wordAt 2 (some .long) A D Y tp dp RX3 := C
  refine cg_lv (lv' := [(0, .ref x0), (1, .int x1)]) rfl ?_
  unfold k_X3_wordAt at h
  refine cg_iload_n C (i := 1) rfl 1 rfl dX3_wordAt_0 ?_
  refine cg_if_lt C 21 (by decide) dX3_wordAt_1 (fun c_ => ?_) (fun c_ => ?_)
  · have h := h.1 c_
    exact cg_sub [] rfl (tb_X3_wordAt_21 C   S h)
  · have h := h.2 c_
    refine cg_iload_n C (i := 1) rfl 1 rfl dX3_wordAt_4 ?_
    refine cg_aload_n C (i := 0) rfl 0 rfl dX3_wordAt_5 ?_
    obtain ⟨hc_6, h⟩ := h
    refine cg_get C (k := 3) (j := 2) (.int (ci S 98 x0)) hc_6.1 hc_6.2 (by decide) rfl (by decide) rfl rfl cWs_wsX30 cl_X3_22 rfl dX3_wordAt_6 ?_
    refine cg_icmp_ge C 21 (by decide) dX3_wordAt_9 (fun c_ => ?_) (fun c_ => ?_)
    · have h := h.1 c_
      exact cg_sub [] rfl (tb_X3_wordAt_21 C   S h)
    · have h := h.2 c_
      refine cg_iload_n C (i := 1) rfl 1 rfl dX3_wordAt_12 ?_
      refine cg_aload_n C (i := 0) rfl 0 rfl dX3_wordAt_13 ?_
      obtain ⟨hc_14, h⟩ := h
      obtain ⟨b1, hb_b1, h⟩ := h
      refine cg_get C (k := 3) (j := 1) (.ref b1) hc_14.1 hc_14.2 (by decide) rfl (by decide) rfl (show cV _ 3 1 x0 = _ from congrArg va_rf hb_b1) cWs_wsX30 cl_X3_18 rfl dX3_wordAt_14 ?_
      obtain ⟨hc_17, h⟩ := h
      refine cg_alen C hc_17.1 hc_17.2 (by decide) (by decide) dX3_wordAt_17 ?_
      refine cg_icmp_lt C 25 (by decide) dX3_wordAt_18 (fun c_ => ?_) (fun c_ => ?_)
      · have h := h.1 c_
        refine cg_aload_n C (i := 0) rfl 0 rfl dX3_wordAt_25 ?_
        obtain ⟨hc_26, h⟩ := h
        obtain ⟨b2, hb_b2, h⟩ := h
        refine cg_get C (k := 3) (j := 1) (.ref b2) hc_26.1 hc_26.2 (by decide) rfl (by decide) rfl (show cV _ 3 1 x0 = _ from congrArg va_rf hb_b2) cWs_wsX30 cl_X3_18 rfl dX3_wordAt_26 ?_
        refine cg_iload_n C (i := 1) rfl 1 rfl dX3_wordAt_29 ?_
        obtain ⟨hc_30, h⟩ := h
        refine cg_laloadR C hc_30 dX3_wordAt_30 ?_
        exact cg_lret C h dX3_wordAt_31 (by decide) (by decide)
      · have h := h.2 c_
        exact cg_sub [] rfl (tb_X3_wordAt_21 C   S h)
def k_X9_isEnding_42 (Q : Int32 → cS → Prop) (dp : Nat)  (x0 : Int64) (x2 : Int32) (x5 : Int32) (S : cS) : Prop :=
k_X9_digitAt (fun r_1 S_1 => 
k_X9_digitOf (fun r_2 S_2 => 
((¬ r_1 = r_2 →
  Q ((bI false)) S_2) ∧
 (r_1 = r_2 →
  Q ((bI true)) S_2))) dp x5 S_1) dp x0 ((x2 - ((nI 1)))) S
def k_X9_isEnding_20 (Q : Int32 → cS → Prop) (dp : Nat)  (x0 : Int64) (x2 : Int32) (x4 : Int32) (x5 : Int32) (S : cS) : Prop :=
((x4 = ((nI 32)) →
  k_X9_isEnding_42 Q dp  x0 x2 x5 S) ∧
 (¬ x4 = ((nI 32)) →
  k_X9_digitAt (fun r_3 S_3 => 
  k_X9_digitOf (fun r_4 S_4 => 
  ((¬ r_3 = r_4 →
    Q ((bI false)) S_4) ∧
   (r_3 = r_4 →
    k_X9_isEnding_42 Q dp  x0 x2 x5 S_4))) dp x4 S_3) dp x0 ((x2 - ((nI 2)))) S))
def k_X9_isEnding (Q : Int32 → cS → Prop) (dp : Nat) (x0 : Int64) (x2 : Int32) (x3 : Int32) (x4 : Int32) (x5 : Int32) (S : cS) : Prop :=
((x3 = ((nI 32)) →
  k_X9_isEnding_20 Q dp  x0 x2 x4 x5 S) ∧
 (¬ x3 = ((nI 32)) →
  k_X9_digitAt (fun r_5 S_5 => 
  k_X9_digitOf (fun r_6 S_6 => 
  ((¬ r_5 = r_6 →
    Q ((bI false)) S_6) ∧
   (r_5 = r_6 →
    k_X9_isEnding_20 Q dp  x0 x2 x4 x5 S_6))) dp x3 S_5) dp x0 ((x2 - ((nI 3)))) S))
section S_X9_isEnding
variable {p : Program} {l : Launch} {e : Env} {s : State} {m : MethodId} {args : Array Value} {below : List Frame} {meth : Method} {c : Code} {A : Nat → Prop} {D : va_G} {Y : cY} {tp dp : Nat}
set_option maxRecDepth 20000 in
theorem tb_X9_isEnding_42 (C : cC p s m args meth c cX9_isEnding 6 (some .boolean) A D Y tp dp RX9) {post : Int32 → cS → Prop}   (x0 : Int64) (x2 : Int32) (x5 : Int32) (S : cS) (h : k_X9_isEnding_42 post dp  x0 x2 x5 S) : cG p l e (cRm 1 0 0 22) s m args below meth c A D Y 6 (MQ below (cQi post D Y A) args s 0 0 A) 0 0 42 [(0, .long x0), (2, .int x2), (5, .int x5)] [] S := by
  unfold k_X9_isEnding_42 at h
  refine cg_lload_n C (i := 0) rfl 0 rfl dX9_isEnding_42 ?_
  refine cg_iload_n C (i := 2) rfl 1 rfl dX9_isEnding_43 ?_
  refine cg_iconst C (x := nI 1) rfl dX9_isEnding_44 ?_
  refine cg_isub C dX9_isEnding_45 ?_
  refine cg_callsi C (t_X9_digitAt l x0 ((x2 - ((nI 1)))) S dp h) cc_X9_55 rfl ⟨by decide, by decide⟩ ⟨by decide, by decide⟩ rfl (Nat.le_of_ble_eq_true rfl) dX9_isEnding_46 (fun r_1 S_1 h => ?_)
  refine cg_iload C 2 rfl dX9_isEnding_49 ?_
  refine cg_callsi C (t_X9_digitOf l x5 S_1 dp h) cc_X9_70 rfl ⟨by decide, by decide⟩ ⟨by decide, by decide⟩ rfl (Nat.le_of_ble_eq_true rfl) dX9_isEnding_51 (fun r_2 S_2 h => ?_)
  refine cg_icmp_ne C 61 (by decide) dX9_isEnding_54 (fun c_ => ?_) (fun c_ => ?_)
  · have h := h.1 c_
    refine cg_iconst C (x := nI 0) rfl dX9_isEnding_61 ?_
    refine cg_cast (.int (bI false)) rfl ?_
    exact cg_zret C (bI_nar _) h dX9_isEnding_62 (by decide) (by decide)
  · have h := h.2 c_
    refine cg_iconst C (x := nI 1) rfl dX9_isEnding_57 ?_
    refine cg_goto C 62 (by decide) dX9_isEnding_58 ?_
    refine cg_cast (.int (bI true)) rfl ?_
    exact cg_zret C (bI_nar _) h dX9_isEnding_62 (by decide) (by decide)
set_option maxRecDepth 20000 in
theorem tb_X9_isEnding_20 (C : cC p s m args meth c cX9_isEnding 6 (some .boolean) A D Y tp dp RX9) {post : Int32 → cS → Prop}   (x0 : Int64) (x2 : Int32) (x4 : Int32) (x5 : Int32) (S : cS) (h : k_X9_isEnding_20 post dp  x0 x2 x4 x5 S) : cG p l e (cRm 1 0 0 22) s m args below meth c A D Y 6 (MQ below (cQi post D Y A) args s 0 0 A) 0 0 20 [(0, .long x0), (2, .int x2), (4, .int x4), (5, .int x5)] [] S := by
  unfold k_X9_isEnding_20 at h
  refine cg_iload C 2 rfl dX9_isEnding_20 ?_
  refine cg_bipush C (x := nI 32) rfl dX9_isEnding_22 ?_
  refine cg_icmp_eq C 42 (by decide) dX9_isEnding_24 (fun c_ => ?_) (fun c_ => ?_)
  · have h := h.1 c_
    exact cg_sub [0, 1, 3] rfl (tb_X9_isEnding_42 C   x0 x2 x5 S h)
  · have h := h.2 c_
    refine cg_lload_n C (i := 0) rfl 0 rfl dX9_isEnding_27 ?_
    refine cg_iload_n C (i := 2) rfl 1 rfl dX9_isEnding_28 ?_
    refine cg_iconst C (x := nI 2) rfl dX9_isEnding_29 ?_
    refine cg_isub C dX9_isEnding_30 ?_
    refine cg_callsi C (t_X9_digitAt l x0 ((x2 - ((nI 2)))) S dp h) cc_X9_55 rfl ⟨by decide, by decide⟩ ⟨by decide, by decide⟩ rfl (Nat.le_of_ble_eq_true rfl) dX9_isEnding_31 (fun r_3 S_3 h => ?_)
    refine cg_iload C 2 rfl dX9_isEnding_34 ?_
    refine cg_callsi C (t_X9_digitOf l x4 S_3 dp h) cc_X9_70 rfl ⟨by decide, by decide⟩ ⟨by decide, by decide⟩ rfl (Nat.le_of_ble_eq_true rfl) dX9_isEnding_36 (fun r_4 S_4 h => ?_)
    refine cg_icmp_ne C 61 (by decide) dX9_isEnding_39 (fun c_ => ?_) (fun c_ => ?_)
    · have h := h.1 c_
      refine cg_iconst C (x := nI 0) rfl dX9_isEnding_61 ?_
      refine cg_cast (.int (bI false)) rfl ?_
      exact cg_zret C (bI_nar _) h dX9_isEnding_62 (by decide) (by decide)
    · have h := h.2 c_
      exact cg_sub [0, 1, 3] rfl (tb_X9_isEnding_42 C   x0 x2 x5 S_4 h)
end S_X9_isEnding
set_option maxHeartbeats 1000000 in
set_option maxRecDepth 20000 in
theorem t_X9_isEnding (l : Launch) (x0 : Int64) (x2 : Int32) (x3 : Int32) (x4 : Int32) (x5 : Int32) (S : cS) (dp : Nat) {P : Int32 → cS → Prop} (h : k_X9_isEnding P dp x0 x2 x3 x4 x5 S) : cMet (cQi P) l yX9_isEnding cX9_isEnding 6 (some .boolean) 1 0 0 22 [.long x0, .int x2, .int x3, .int x4, .int x5] S dp := by
  intro D Y tp sz
  refine cg_body (by decide +kernel) (Nat.le_of_ble_eq_true rfl) ?_
  intro p e s m args below meth c C
  generalize va_A (cWd Y S) sz = A at C ⊢
  have C : cC p s m args meth c cX9_isEnding 6 (some .boolean) A D Y tp dp RX9 := C
  refine cg_lv (lv' := [(0, .long x0), (2, .int x2), (3, .int x3), (4, .int x4), (5, .int x5)]) rfl ?_
  unfold k_X9_isEnding at h
  refine cg_iload_n C (i := 3) rfl 2 rfl dX9_isEnding_0 ?_
  refine cg_bipush C (x := nI 32) rfl dX9_isEnding_1 ?_
  refine cg_icmp_eq C 20 (by decide) dX9_isEnding_3 (fun c_ => ?_) (fun c_ => ?_)
  · have h := h.1 c_
    exact cg_sub [0, 1, 3, 4] rfl (tb_X9_isEnding_20 C   x0 x2 x4 x5 S h)
  · have h := h.2 c_
    refine cg_lload_n C (i := 0) rfl 0 rfl dX9_isEnding_6 ?_
    refine cg_iload_n C (i := 2) rfl 1 rfl dX9_isEnding_7 ?_
    refine cg_iconst C (x := nI 3) rfl dX9_isEnding_8 ?_
    refine cg_isub C dX9_isEnding_9 ?_
    refine cg_callsi C (t_X9_digitAt l x0 ((x2 - ((nI 3)))) S dp h) cc_X9_55 rfl ⟨by decide, by decide⟩ ⟨by decide, by decide⟩ rfl (Nat.le_of_ble_eq_true rfl) dX9_isEnding_10 (fun r_5 S_5 h => ?_)
    refine cg_iload_n C (i := 3) rfl 2 rfl dX9_isEnding_13 ?_
    refine cg_callsi C (t_X9_digitOf l x3 S_5 dp h) cc_X9_70 rfl ⟨by decide, by decide⟩ ⟨by decide, by decide⟩ rfl (Nat.le_of_ble_eq_true rfl) dX9_isEnding_14 (fun r_6 S_6 h => ?_)
    refine cg_icmp_ne C 61 (by decide) dX9_isEnding_17 (fun c_ => ?_) (fun c_ => ?_)
    · have h := h.1 c_
      refine cg_iconst C (x := nI 0) rfl dX9_isEnding_61 ?_
      refine cg_cast (.int (bI false)) rfl ?_
      exact cg_zret C (bI_nar _) h dX9_isEnding_62 (by decide) (by decide)
    · have h := h.2 c_
      exact cg_sub [0, 1, 3, 4] rfl (tb_X9_isEnding_20 C   x0 x2 x4 x5 S_6 h)
def k_X9_cutTo_11 (Q : Int64 → cS → Prop) (dp : Nat)  (x0 : Int64) (S : cS) : Prop :=
Q x0 S
def k_X9_cutTo (Q : Int64 → cS → Prop) (dp : Nat) (x0 : Int64) (x2 : Int32) (S : cS) : Prop :=
((x2 < ((nI 1)) →
  k_X9_cutTo_11 Q dp  x0 S) ∧
 (¬ x2 < ((nI 1)) →
  ((x2 ≤ ((nI 12)) →
    vp_in ((((nI 12)) - x2)) 12 ∧ (¬ (lN (37 ^ ((((nI 12)) - x2)).toNatClampNeg)) = 0 ∧ (Q (x0 - (x0 - x0 / (lN (37 ^ ((((nI 12)) - x2)).toNatClampNeg)) * (lN (37 ^ ((((nI 12)) - x2)).toNatClampNeg)))) S))) ∧
   (¬ x2 ≤ ((nI 12)) →
    k_X9_cutTo_11 Q dp  x0 S))))
section S_X9_cutTo
variable {p : Program} {l : Launch} {e : Env} {s : State} {m : MethodId} {args : Array Value} {below : List Frame} {meth : Method} {c : Code} {A : Nat → Prop} {D : va_G} {Y : cY} {tp dp : Nat}
set_option maxRecDepth 20000 in
theorem tb_X9_cutTo_11 (C : cC p s m args meth c cX9_cutTo 3 (some .long) A D Y tp dp RX9) {post : Int64 → cS → Prop}   (x0 : Int64) (S : cS) (h : k_X9_cutTo_11 post dp  x0 S) : cG p l e (cRm 0 0 0 0) s m args below meth c A D Y 3 (MQ below (cQl post D Y A) args s 0 0 A) 0 0 11 [(0, .long x0)] [] S := by
  unfold k_X9_cutTo_11 at h
  refine cg_lload_n C (i := 0) rfl 0 rfl dX9_cutTo_11 ?_
  exact cg_lret C h dX9_cutTo_12 (by decide) (by decide)
end S_X9_cutTo
set_option maxHeartbeats 1000000 in
set_option maxRecDepth 20000 in
theorem t_X9_cutTo (l : Launch) (x0 : Int64) (x2 : Int32) (S : cS) (dp : Nat) {P : Int64 → cS → Prop} (h : k_X9_cutTo P dp x0 x2 S) : cMet (cQl P) l yX9_cutTo cX9_cutTo 3 (some .long) 0 0 0 0 [.long x0, .int x2] S dp := by
  intro D Y tp sz
  refine cg_body (by decide +kernel) (Nat.le_of_ble_eq_true rfl) ?_
  intro p e s m args below meth c C
  generalize va_A (cWd Y S) sz = A at C ⊢
  have C : cC p s m args meth c cX9_cutTo 3 (some .long) A D Y tp dp RX9 := C
  refine cg_lv (lv' := [(0, .long x0), (2, .int x2)]) rfl ?_
  unfold k_X9_cutTo at h
  refine cg_iload_n C (i := 2) rfl 1 rfl dX9_cutTo_0 ?_
  refine cg_iconst C (x := nI 1) rfl dX9_cutTo_1 ?_
  refine cg_icmp_lt C 11 (by decide) dX9_cutTo_2 (fun c_ => ?_) (fun c_ => ?_)
  · have h := h.1 c_
    exact cg_sub [0] rfl (tb_X9_cutTo_11 C   x0 S h)
  · have h := h.2 c_
    refine cg_iload_n C (i := 2) rfl 1 rfl dX9_cutTo_5 ?_
    refine cg_bipush C (x := nI 12) rfl dX9_cutTo_6 ?_
    refine cg_icmp_le C 13 (by decide) dX9_cutTo_8 (fun c_ => ?_) (fun c_ => ?_)
    · have h := h.1 c_
      refine cg_lload_n C (i := 0) rfl 0 rfl dX9_cutTo_13 ?_
      refine cg_lload_n C (i := 0) rfl 0 rfl dX9_cutTo_14 ?_
      refine cg_powers C cl_pow dX9_cutTo_15 ?_
      refine cg_bipush C (x := nI 12) rfl dX9_cutTo_18 ?_
      refine cg_iload_n C (i := 2) rfl 1 rfl dX9_cutTo_20 ?_
      refine cg_isub C dX9_cutTo_21 ?_
      obtain ⟨hc_22, h⟩ := h
      refine cg_powerR C hc_22 dX9_cutTo_22 ?_
      obtain ⟨hc_23, h⟩ := h
      refine cg_lrem C hc_23 dX9_cutTo_23 ?_
      refine cg_lsub C dX9_cutTo_24 ?_
      exact cg_lret C h dX9_cutTo_25 (by decide) (by decide)
    · have h := h.2 c_
      exact cg_sub [0] rfl (tb_X9_cutTo_11 C   x0 S h)
def k_X9_stemOf_101 (Q : Int64 → cS → Prop) (dp : Nat)  (x0 : Int64) (S : cS) : Prop :=
Q x0 S
def k_X9_stemOf_60 (Q : Int64 → cS → Prop) (dp : Nat)  (x0 : Int64) (x2 : Int32) (S : cS) : Prop :=
((x2 < ((nI 4)) →
  k_X9_stemOf_101 Q dp  x0 S) ∧
 (¬ x2 < ((nI 4)) →
  k_X9_isEnding (fun r_2 S_2 => 
  ((r_2 = 0 →
    k_X9_stemOf_101 Q dp  x0 S_2) ∧
   (¬ r_2 = 0 →
    k_X9_isEnding (fun r_3 S_3 => 
    ((¬ r_3 = 0 →
      k_X9_stemOf_101 Q dp  x0 S_3) ∧
     (r_3 = 0 →
      k_X9_cutTo (fun r_4 S_4 => 
      Q r_4 S_4) dp x0 ((x2 - ((nI 1)))) S_3))) dp x0 x2 ((nI 32)) ((nI 115)) ((nI 115)) S_2))) dp x0 x2 ((nI 32)) ((nI 32)) ((nI 115)) S))
def k_X9_stemOf_33 (Q : Int64 → cS → Prop) (dp : Nat)  (x0 : Int64) (x2 : Int32) (S : cS) : Prop :=
((x2 < ((nI 5)) →
  k_X9_stemOf_60 Q dp  x0 x2 S) ∧
 (¬ x2 < ((nI 5)) →
  k_X9_isEnding (fun r_5 S_5 => 
  ((r_5 = 0 →
    k_X9_stemOf_60 Q dp  x0 x2 S_5) ∧
   (¬ r_5 = 0 →
    k_X9_cutTo (fun r_6 S_6 => 
    Q r_6 S_6) dp x0 ((x2 - ((nI 2)))) S_5))) dp x0 x2 ((nI 32)) ((nI 101)) ((nI 100)) S))
def k_X9_stemOf (Q : Int64 → cS → Prop) (dp : Nat) (x0 : Int64) (S : cS) : Prop :=
k_X9_lengthOf (fun r_1 S_1 => 
((r_1 < ((nI 6)) →
  k_X9_stemOf_33 Q dp  x0 r_1 S_1) ∧
 (¬ r_1 < ((nI 6)) →
  k_X9_isEnding (fun r_7 S_7 => 
  ((r_7 = 0 →
    k_X9_stemOf_33 Q dp  x0 r_1 S_7) ∧
   (¬ r_7 = 0 →
    k_X9_cutTo (fun r_8 S_8 => 
    Q r_8 S_8) dp x0 ((r_1 - ((nI 3)))) S_7))) dp x0 r_1 ((nI 105)) ((nI 110)) ((nI 103)) S_1))) dp x0 S
section S_X9_stemOf
variable {p : Program} {l : Launch} {e : Env} {s : State} {m : MethodId} {args : Array Value} {below : List Frame} {meth : Method} {c : Code} {A : Nat → Prop} {D : va_G} {Y : cY} {tp dp : Nat}
set_option maxRecDepth 20000 in
theorem tb_X9_stemOf_101 (C : cC p s m args meth c cX9_stemOf 3 (some .long) A D Y tp dp RX9) {post : Int64 → cS → Prop}   (x0 : Int64) (S : cS) (h : k_X9_stemOf_101 post dp  x0 S) : cG p l e (cRm 2 0 0 47) s m args below meth c A D Y 3 (MQ below (cQl post D Y A) args s 0 0 A) 0 0 101 [(0, .long x0)] [] S := by
  unfold k_X9_stemOf_101 at h
  refine cg_lload_n C (i := 0) rfl 0 rfl dX9_stemOf_101 ?_
  exact cg_lret C h dX9_stemOf_102 (by decide) (by decide)
set_option maxRecDepth 20000 in
theorem tb_X9_stemOf_60 (C : cC p s m args meth c cX9_stemOf 3 (some .long) A D Y tp dp RX9) {post : Int64 → cS → Prop}   (x0 : Int64) (x2 : Int32) (S : cS) (h : k_X9_stemOf_60 post dp  x0 x2 S) : cG p l e (cRm 2 0 0 47) s m args below meth c A D Y 3 (MQ below (cQl post D Y A) args s 0 0 A) 0 0 60 [(0, .long x0), (2, .int x2)] [] S := by
  unfold k_X9_stemOf_60 at h
  refine cg_iload_n C (i := 2) rfl 1 rfl dX9_stemOf_60 ?_
  refine cg_iconst C (x := nI 4) rfl dX9_stemOf_61 ?_
  refine cg_icmp_lt C 101 (by decide) dX9_stemOf_62 (fun c_ => ?_) (fun c_ => ?_)
  · have h := h.1 c_
    exact cg_sub [0] rfl (tb_X9_stemOf_101 C   x0 S h)
  · have h := h.2 c_
    refine cg_lload_n C (i := 0) rfl 0 rfl dX9_stemOf_65 ?_
    refine cg_iload_n C (i := 2) rfl 1 rfl dX9_stemOf_66 ?_
    refine cg_bipush C (x := nI 32) rfl dX9_stemOf_67 ?_
    refine cg_bipush C (x := nI 32) rfl dX9_stemOf_69 ?_
    refine cg_bipush C (x := nI 115) rfl dX9_stemOf_71 ?_
    refine cg_callsi C (t_X9_isEnding l x0 x2 ((nI 32)) ((nI 32)) ((nI 115)) S dp h) cc_X9_62 rfl ⟨by decide, by decide⟩ ⟨by decide, by decide⟩ rfl (Nat.le_of_ble_eq_true rfl) dX9_stemOf_73 (fun r_2 S_2 h => ?_)
    refine cg_if_eq C 101 (by decide) dX9_stemOf_76 (fun c_ => ?_) (fun c_ => ?_)
    · have h := h.1 c_
      exact cg_sub [0] rfl (tb_X9_stemOf_101 C   x0 S_2 h)
    · have h := h.2 c_
      refine cg_lload_n C (i := 0) rfl 0 rfl dX9_stemOf_79 ?_
      refine cg_iload_n C (i := 2) rfl 1 rfl dX9_stemOf_80 ?_
      refine cg_bipush C (x := nI 32) rfl dX9_stemOf_81 ?_
      refine cg_bipush C (x := nI 115) rfl dX9_stemOf_83 ?_
      refine cg_bipush C (x := nI 115) rfl dX9_stemOf_85 ?_
      refine cg_callsi C (t_X9_isEnding l x0 x2 ((nI 32)) ((nI 115)) ((nI 115)) S_2 dp h) cc_X9_62 rfl ⟨by decide, by decide⟩ ⟨by decide, by decide⟩ rfl (Nat.le_of_ble_eq_true rfl) dX9_stemOf_87 (fun r_3 S_3 h => ?_)
      refine cg_if_ne C 101 (by decide) dX9_stemOf_90 (fun c_ => ?_) (fun c_ => ?_)
      · have h := h.1 c_
        exact cg_sub [0] rfl (tb_X9_stemOf_101 C   x0 S_3 h)
      · have h := h.2 c_
        refine cg_lload_n C (i := 0) rfl 0 rfl dX9_stemOf_93 ?_
        refine cg_iload_n C (i := 2) rfl 1 rfl dX9_stemOf_94 ?_
        refine cg_iconst C (x := nI 1) rfl dX9_stemOf_95 ?_
        refine cg_isub C dX9_stemOf_96 ?_
        refine cg_callsl C (t_X9_cutTo l x0 ((x2 - ((nI 1)))) S_3 dp h) cc_X9_66 rfl ⟨by decide, by decide⟩ ⟨by decide, by decide⟩ rfl (Nat.le_of_ble_eq_true rfl) dX9_stemOf_97 (fun r_4 S_4 h => ?_)
        exact cg_lret C h dX9_stemOf_100 (by decide) (by decide)
set_option maxRecDepth 20000 in
theorem tb_X9_stemOf_33 (C : cC p s m args meth c cX9_stemOf 3 (some .long) A D Y tp dp RX9) {post : Int64 → cS → Prop}   (x0 : Int64) (x2 : Int32) (S : cS) (h : k_X9_stemOf_33 post dp  x0 x2 S) : cG p l e (cRm 2 0 0 47) s m args below meth c A D Y 3 (MQ below (cQl post D Y A) args s 0 0 A) 0 0 33 [(0, .long x0), (2, .int x2)] [] S := by
  unfold k_X9_stemOf_33 at h
  refine cg_iload_n C (i := 2) rfl 1 rfl dX9_stemOf_33 ?_
  refine cg_iconst C (x := nI 5) rfl dX9_stemOf_34 ?_
  refine cg_icmp_lt C 60 (by decide) dX9_stemOf_35 (fun c_ => ?_) (fun c_ => ?_)
  · have h := h.1 c_
    exact cg_sub [0, 1] rfl (tb_X9_stemOf_60 C   x0 x2 S h)
  · have h := h.2 c_
    refine cg_lload_n C (i := 0) rfl 0 rfl dX9_stemOf_38 ?_
    refine cg_iload_n C (i := 2) rfl 1 rfl dX9_stemOf_39 ?_
    refine cg_bipush C (x := nI 32) rfl dX9_stemOf_40 ?_
    refine cg_bipush C (x := nI 101) rfl dX9_stemOf_42 ?_
    refine cg_bipush C (x := nI 100) rfl dX9_stemOf_44 ?_
    refine cg_callsi C (t_X9_isEnding l x0 x2 ((nI 32)) ((nI 101)) ((nI 100)) S dp h) cc_X9_62 rfl ⟨by decide, by decide⟩ ⟨by decide, by decide⟩ rfl (Nat.le_of_ble_eq_true rfl) dX9_stemOf_46 (fun r_5 S_5 h => ?_)
    refine cg_if_eq C 60 (by decide) dX9_stemOf_49 (fun c_ => ?_) (fun c_ => ?_)
    · have h := h.1 c_
      exact cg_sub [0, 1] rfl (tb_X9_stemOf_60 C   x0 x2 S_5 h)
    · have h := h.2 c_
      refine cg_lload_n C (i := 0) rfl 0 rfl dX9_stemOf_52 ?_
      refine cg_iload_n C (i := 2) rfl 1 rfl dX9_stemOf_53 ?_
      refine cg_iconst C (x := nI 2) rfl dX9_stemOf_54 ?_
      refine cg_isub C dX9_stemOf_55 ?_
      refine cg_callsl C (t_X9_cutTo l x0 ((x2 - ((nI 2)))) S_5 dp h) cc_X9_66 rfl ⟨by decide, by decide⟩ ⟨by decide, by decide⟩ rfl (Nat.le_of_ble_eq_true rfl) dX9_stemOf_56 (fun r_6 S_6 h => ?_)
      exact cg_lret C h dX9_stemOf_59 (by decide) (by decide)
end S_X9_stemOf
set_option maxHeartbeats 1000000 in
set_option maxRecDepth 20000 in
theorem t_X9_stemOf (l : Launch) (x0 : Int64) (S : cS) (dp : Nat) {P : Int64 → cS → Prop} (h : k_X9_stemOf P dp x0 S) : cMet (cQl P) l yX9_stemOf cX9_stemOf 3 (some .long) 2 0 0 47 [.long x0] S dp := by
  intro D Y tp sz
  refine cg_body (by decide +kernel) (Nat.le_of_ble_eq_true rfl) ?_
  intro p e s m args below meth c C
  generalize va_A (cWd Y S) sz = A at C ⊢
  have C : cC p s m args meth c cX9_stemOf 3 (some .long) A D Y tp dp RX9 := C
  refine cg_lv (lv' := [(0, .long x0)]) rfl ?_
  unfold k_X9_stemOf at h
  refine cg_lload_n C (i := 0) rfl 0 rfl dX9_stemOf_0 ?_
  refine cg_callsi C (t_X9_lengthOf l x0 S dp h) cc_X9_59 rfl ⟨by decide, by decide⟩ ⟨by decide, by decide⟩ rfl (Nat.le_of_ble_eq_true rfl) dX9_stemOf_1 (fun r_1 S_1 h => ?_)
  refine cg_istore_n C (i := 2) (lv' := [(2, .int r_1), (0, .long x0)]) rfl (Nat.le_of_ble_eq_true rfl) rfl dX9_stemOf_4 ?_
  refine cg_iload_n C (i := 2) rfl 0 rfl dX9_stemOf_5 ?_
  refine cg_bipush C (x := nI 6) rfl dX9_stemOf_6 ?_
  refine cg_icmp_lt C 33 (by decide) dX9_stemOf_8 (fun c_ => ?_) (fun c_ => ?_)
  · have h := h.1 c_
    exact cg_sub [1, 0] rfl (tb_X9_stemOf_33 C   x0 r_1 S_1 h)
  · have h := h.2 c_
    refine cg_lload_n C (i := 0) rfl 1 rfl dX9_stemOf_11 ?_
    refine cg_iload_n C (i := 2) rfl 0 rfl dX9_stemOf_12 ?_
    refine cg_bipush C (x := nI 105) rfl dX9_stemOf_13 ?_
    refine cg_bipush C (x := nI 110) rfl dX9_stemOf_15 ?_
    refine cg_bipush C (x := nI 103) rfl dX9_stemOf_17 ?_
    refine cg_callsi C (t_X9_isEnding l x0 r_1 ((nI 105)) ((nI 110)) ((nI 103)) S_1 dp h) cc_X9_62 rfl ⟨by decide, by decide⟩ ⟨by decide, by decide⟩ rfl (Nat.le_of_ble_eq_true rfl) dX9_stemOf_19 (fun r_7 S_7 h => ?_)
    refine cg_if_eq C 33 (by decide) dX9_stemOf_22 (fun c_ => ?_) (fun c_ => ?_)
    · have h := h.1 c_
      exact cg_sub [1, 0] rfl (tb_X9_stemOf_33 C   x0 r_1 S_7 h)
    · have h := h.2 c_
      refine cg_lload_n C (i := 0) rfl 1 rfl dX9_stemOf_25 ?_
      refine cg_iload_n C (i := 2) rfl 0 rfl dX9_stemOf_26 ?_
      refine cg_iconst C (x := nI 3) rfl dX9_stemOf_27 ?_
      refine cg_isub C dX9_stemOf_28 ?_
      refine cg_callsl C (t_X9_cutTo l x0 ((r_1 - ((nI 3)))) S_7 dp h) cc_X9_66 rfl ⟨by decide, by decide⟩ ⟨by decide, by decide⟩ rfl (Nat.le_of_ble_eq_true rfl) dX9_stemOf_29 (fun r_8 S_8 h => ?_)
      exact cg_lret C h dX9_stemOf_32 (by decide) (by decide)
def k_X3_isStop_2 (Q : Int32 → cS → Prop) (dp : Nat) (R2 : Nat → Int64 → Int32 → cS → Prop) (x0 : Nat) (x1 : Int64) (x3 : Int32) (S : cS) : Prop :=
cA S x0 3 ∧ (((((ci S 100 x0)) ≤ x3 →
  Q ((bI false)) S) ∧
 (¬ ((ci S 100 x0)) ≤ x3 →
  cA S x0 3 ∧ ((∃ b1 : Nat, cr S 99 x0 = some b1 ∧ (cA S b1 15 ∧ (((((nI (cn S b1))) ≤ x3 →
    Q ((bI false)) S) ∧
   (¬ ((nI (cn S b1))) ≤ x3 →
    cA S x0 3 ∧ ((∃ b2 : Nat, cr S 99 x0 = some b2 ∧ (cX S b2 15 x3 ∧ (((¬ (cJ S b2 (x3).toNatClampNeg) = x1 →
      ∀ x3_3 : Int32, x3_3 = x3 + nI 1 → R2 x0 x1 x3_3 S) ∧
     ((cJ S b2 (x3).toNatClampNeg) = x1 →
      Q ((bI true)) S)))))))))))))))
def k_X3_isStop_2L (Q : Int32 → cS → Prop) (dp : Nat)  (x0 : Nat) (x1 : Int64) (x3 : Int32) (S : cS) : Prop :=
  lfp (X := Nat × Int64 × Int32 × cS) (fun P y => k_X3_isStop_2 Q dp  (fun b0 b1 b2 S => P (b0, b1, b2, S)) y.1 y.2.1 y.2.2.1 y.2.2.2) (x0, x1, x3, S)
def k_X3_isStop (Q : Int32 → cS → Prop) (dp : Nat) (x0 : Nat) (x1 : Int64) (S : cS) : Prop :=
k_X3_isStop_2L Q dp  x0 x1 (((nI 0))) S
section S_X3_isStop
variable {p : Program} {l : Launch} {e : Env} {s : State} {m : MethodId} {args : Array Value} {below : List Frame} {meth : Method} {c : Code} {A : Nat → Prop} {D : va_G} {Y : cY} {tp dp : Nat}
set_option maxRecDepth 20000 in
theorem tb_X3_isStop_2 (C : cC p s m args meth c cX3_isStop 4 (some .boolean) A D Y tp dp RX3) {post : Int32 → cS → Prop} {R2 : Nat → Int64 → Int32 → cS → Prop} (hR2 : ∀ (x0 : Nat) (x1 : Int64) (x3 : Int32) (S : cS), R2 x0 x1 x3 S → cG p l e (cRm 0 0 0 0) s m args below meth c A D Y 4 (MQ below (cQi post D Y A) args s 0 0 A) 0 0 2 [(0, .ref x0), (1, .long x1), (3, .int x3)] [] S) (x0 : Nat) (x1 : Int64) (x3 : Int32) (S : cS) (h : k_X3_isStop_2 post dp R2 x0 x1 x3 S) : cG p l e (cRm 0 0 0 0) s m args below meth c A D Y 4 (MQ below (cQi post D Y A) args s 0 0 A) 0 0 2 [(0, .ref x0), (1, .long x1), (3, .int x3)] [] S := by
  unfold k_X3_isStop_2 at h
  refine cg_iload_n C (i := 3) rfl 2 rfl dX3_isStop_2 ?_
  refine cg_aload_n C (i := 0) rfl 0 rfl dX3_isStop_3 ?_
  obtain ⟨hc_4, h⟩ := h
  refine cg_get C (k := 3) (j := 4) (.int (ci S 100 x0)) hc_4.1 hc_4.2 (by decide) rfl (by decide) rfl rfl cWs_wsX30 cl_X3_29 rfl dX3_isStop_4 ?_
  refine cg_icmp_ge C 38 (by decide) dX3_isStop_7 (fun c_ => ?_) (fun c_ => ?_)
  · have h := h.1 c_
    refine cg_iconst C (x := nI 0) rfl dX3_isStop_38 ?_
    refine cg_cast (.int (bI false)) rfl ?_
    exact cg_zret C (bI_nar _) h dX3_isStop_39 (by decide) (by decide)
  · have h := h.2 c_
    refine cg_iload_n C (i := 3) rfl 2 rfl dX3_isStop_10 ?_
    refine cg_aload_n C (i := 0) rfl 0 rfl dX3_isStop_11 ?_
    obtain ⟨hc_12, h⟩ := h
    obtain ⟨b1, hb_b1, h⟩ := h
    refine cg_get C (k := 3) (j := 3) (.ref b1) hc_12.1 hc_12.2 (by decide) rfl (by decide) rfl (show cV _ 3 3 x0 = _ from congrArg va_rf hb_b1) cWs_wsX30 cl_X3_26 rfl dX3_isStop_12 ?_
    obtain ⟨hc_15, h⟩ := h
    refine cg_alen C hc_15.1 hc_15.2 (by decide) (by decide) dX3_isStop_15 ?_
    refine cg_icmp_ge C 38 (by decide) dX3_isStop_16 (fun c_ => ?_) (fun c_ => ?_)
    · have h := h.1 c_
      refine cg_iconst C (x := nI 0) rfl dX3_isStop_38 ?_
      refine cg_cast (.int (bI false)) rfl ?_
      exact cg_zret C (bI_nar _) h dX3_isStop_39 (by decide) (by decide)
    · have h := h.2 c_
      refine cg_aload_n C (i := 0) rfl 0 rfl dX3_isStop_19 ?_
      obtain ⟨hc_20, h⟩ := h
      obtain ⟨b2, hb_b2, h⟩ := h
      refine cg_get C (k := 3) (j := 3) (.ref b2) hc_20.1 hc_20.2 (by decide) rfl (by decide) rfl (show cV _ 3 3 x0 = _ from congrArg va_rf hb_b2) cWs_wsX30 cl_X3_26 rfl dX3_isStop_20 ?_
      refine cg_iload_n C (i := 3) rfl 2 rfl dX3_isStop_23 ?_
      obtain ⟨hc_24, h⟩ := h
      refine cg_laloadR C hc_24 dX3_isStop_24 ?_
      refine cg_lload_n C (i := 1) rfl 1 rfl dX3_isStop_25 ?_
      refine cg_lcmp C dX3_isStop_26 ?_
      refine cg_if_neL C 32 (by decide) dX3_isStop_27 (fun c_ => ?_) (fun c_ => ?_)
      · have h := h.1 c_
        obtain ⟨x3_3, e_x3_3⟩ : ∃ z : Int32, z = x3 + nI 1 := ⟨_, rfl⟩
        have h := h x3_3 e_x3_3
        refine cg_iinc C (lv' := [(3, .int x3_3), (0, .ref x0), (1, .long x1)]) 2 rfl (by rw [e_x3_3]; rfl) (Nat.le_of_ble_eq_true rfl) rfl dX3_isStop_32 ?_
        refine cg_goto C 2 (by decide) dX3_isStop_35 ?_
        exact cg_sub [1, 2, 0] rfl (hR2 x0 x1 x3_3 S h)
      · have h := h.2 c_
        refine cg_iconst C (x := nI 1) rfl dX3_isStop_30 ?_
        refine cg_cast (.int (bI true)) rfl ?_
        exact cg_zret C (bI_nar _) h dX3_isStop_31 (by decide) (by decide)
set_option maxRecDepth 20000 in
theorem tl_X3_isStop_2 (C : cC p s m args meth c cX3_isStop 4 (some .boolean) A D Y tp dp RX3) {post : Int32 → cS → Prop}   (x0 : Nat) (x1 : Int64) (x3 : Int32) (S : cS) (h : k_X3_isStop_2L post dp  x0 x1 x3 S) : cG p l e (cRm 0 0 0 0) s m args below meth c A D Y 4 (MQ below (cQi post D Y A) args s 0 0 A) 0 0 2 [(0, .ref x0), (1, .long x1), (3, .int x3)] [] S :=
  h (fun y => cG p l e (cRm 0 0 0 0) s m args below meth c A D Y 4 (MQ below (cQi post D Y A) args s 0 0 A) 0 0 2 [(0, .ref (y.1)), (1, .long (y.2.1)), (3, .int (y.2.2.1))] [] (y.2.2.2)) (fun y hy => tb_X3_isStop_2 C   (fun b0 b1 b2 S z => z) (y.1) (y.2.1) (y.2.2.1) (y.2.2.2) hy)
end S_X3_isStop
set_option maxHeartbeats 1000000 in
set_option maxRecDepth 20000 in
theorem t_X3_isStop (l : Launch) (x0 : Nat) (x1 : Int64) (S : cS) (dp : Nat) {P : Int32 → cS → Prop} (h : k_X3_isStop P dp x0 x1 S) : cMet (cQi P) l yX3_isStop cX3_isStop 4 (some .boolean) 0 0 0 0 [.ref x0, .long x1] S dp := by
  intro D Y tp sz
  refine cg_body (by decide +kernel) (Nat.le_of_ble_eq_true rfl) ?_
  intro p e s m args below meth c C
  generalize va_A (cWd Y S) sz = A at C ⊢
  have C : cC p s m args meth c cX3_isStop 4 (some .boolean) A D Y tp dp RX3 := C
  refine cg_lv (lv' := [(0, .ref x0), (1, .long x1)]) rfl ?_
  unfold k_X3_isStop at h
  refine cg_iconst C (x := nI 0) rfl dX3_isStop_0 ?_
  refine cg_istore_n C (i := 3) (lv' := [(3, .int ((nI 0))), (0, .ref x0), (1, .long x1)]) rfl (Nat.le_of_ble_eq_true rfl) rfl dX3_isStop_1 ?_
  exact cg_sub [1, 2, 0] rfl (tl_X3_isStop_2 C   x0 x1 (((nI 0))) S h)
def k_J7_copyOf_c38d5 (Q : Nat → cS → Prop) (dp : Nat) (mc ms : Nat) (x0 : Nat) (x1 : Int32) (S : cS) : Prop :=
cA S x0 15 ∧ (((¬ x1 = ((nI (cn S x0))) →
  (∃ n1 : Nat, x1 = nI n1 ∧ n1 < 2 ^ 20 ∧ 0 + 1 ≤ mc ∧ 0 + n1 ≤ ms ∧ (∀ q2 : Nat, q2 ∉ cL S → ∀ S3 : cS, S3 = cNewA S q2 15 n1 → cA S3 x0 15 ∧ ((0 + 1 ≤ mc ∧ 0 + n1 ≤ ms) ∧ (cCp S3 15 x0 ((nI 0)) q2 ((nI 0)) ((if x1 < ((nI (cn S3 x0))) then x1 else ((nI (cn S3 x0))))) ∧ (∀ S4 : cS, S4 = cCpyJ S3 x0 ((nI 0)).toNatClampNeg q2 ((nI 0)).toNatClampNeg ((if x1 < ((nI (cn S3 x0))) then x1 else ((nI (cn S3 x0))))).toNatClampNeg → (0 + 1 ≤ mc ∧ 0 + n1 ≤ ms) ∧ (Q q2 S4))))))) ∧
 (x1 = ((nI (cn S x0))) →
  False)))
set_option maxHeartbeats 1000000 in
set_option maxRecDepth 20000 in
theorem t_J7_copyOf_c38d5 (l : Launch) (mc ms : Nat) (x0 : Nat) (x1 : Int32) (S : cS) (dp : Nat) {P : Nat → cS → Prop} (h : k_J7_copyOf_c38d5 P dp mc ms x0 x1 S) : cMet (cQr P) l yJ7_copyOf_c38d5 cJ7_copyOf_c38d5 3 (some (.array .long)) 1 mc ms 18 [.ref x0, .int x1] S dp := by
  intro D Y tp sz
  refine cg_body (by decide +kernel) (Nat.le_of_ble_eq_true rfl) ?_
  intro p e s m args below meth c C
  generalize va_A (cWd Y S) sz = A at C ⊢
  have C : cC p s m args meth c cJ7_copyOf_c38d5 3 (some (.array .long)) A D Y tp dp RJ7 := C
  refine cg_lv (lv' := [(0, .ref x0), (1, .int x1)]) rfl ?_
  unfold k_J7_copyOf_c38d5 at h
  refine cg_iload_n C (i := 1) rfl 1 rfl dJ7_copyOf_c38d5_0 ?_
  refine cg_aload_n C (i := 0) rfl 0 rfl dJ7_copyOf_c38d5_1 ?_
  obtain ⟨hc_2, h⟩ := h
  refine cg_alen C hc_2.1 hc_2.2 (by decide) (by decide) dJ7_copyOf_c38d5_2 ?_
  refine cg_icmp_ne C 14 (by decide) dJ7_copyOf_c38d5_3 (fun c_ => ?_) (fun c_ => ?_)
  · have h := h.1 c_
    refine cg_iload_n C (i := 1) rfl 1 rfl dJ7_copyOf_c38d5_14 ?_
    obtain ⟨n1, hn_1, hn_2, hn_3, hn_4, h⟩ := h
    refine cg_cast (.int (nI n1)) (congrArg Value.int hn_1) ?_
    refine cg_newJ C n1 hn_2 ca_long hn_3 hn_4 dJ7_copyOf_c38d5_15 (fun q2 hf_q2 => ?_)
    have h := h q2 hf_q2
    refine cg_nm (fun S3 e_S3 => ?_)
    have h := h S3 e_S3
    refine cg_astore_n (lv' := [(2, .ref q2), (0, .ref x0), (1, .int x1)]) C (i := 2) rfl (Nat.le_of_ble_eq_true rfl) rfl dJ7_copyOf_c38d5_17 ?_
    refine cg_aload_n C (i := 0) rfl 1 rfl dJ7_copyOf_c38d5_18 ?_
    refine cg_iconst C (x := nI 0) rfl dJ7_copyOf_c38d5_19 ?_
    refine cg_aload_n C (i := 2) rfl 0 rfl dJ7_copyOf_c38d5_20 ?_
    refine cg_iconst C (x := nI 0) rfl dJ7_copyOf_c38d5_21 ?_
    refine cg_aload_n C (i := 0) rfl 1 rfl dJ7_copyOf_c38d5_22 ?_
    obtain ⟨hc_23, h⟩ := h
    refine cg_alen C hc_23.1 hc_23.2 (by decide) (by decide) dJ7_copyOf_c38d5_23 ?_
    refine cg_iload_n C (i := 1) rfl 2 rfl dJ7_copyOf_c38d5_24 ?_
    obtain ⟨hc_25, h⟩ := h
    refine cg_mmin C cmmin_J7_304 cmmin_s cmm_i cmmin_c (Nat.le_of_ble_eq_true rfl) (Nat.le_of_ble_eq_true rfl) hc_25.1 hc_25.2 dJ7_copyOf_c38d5_25 ?_
    obtain ⟨hc_28, h⟩ := h
    refine cg_copy15 C hc_28 cac_J7_150 (Nat.le_of_ble_eq_true rfl) (Nat.le_of_ble_eq_true rfl) dJ7_copyOf_c38d5_28 ?_
    refine cg_nm (fun S4 e_S4 => ?_)
    have h := h S4 e_S4
    refine cg_aload_n C (i := 2) rfl 0 rfl dJ7_copyOf_c38d5_31 ?_
    obtain ⟨hb_32, h⟩ := h
    exact cg_aret C rfl (by first | exact Or.inl ⟨_, rfl⟩ | exact Or.inr ⟨_, rfl⟩) h dJ7_copyOf_c38d5_32 hb_32.1 hb_32.2
  · have h := h.2 c_
    refine cg_aload_n C (i := 0) rfl 0 rfl dJ7_copyOf_c38d5_6 ?_
    exact h.elim
def k_J7_copyOf_59c91 (Q : Nat → cS → Prop) (dp : Nat) (mc ms : Nat) (x0 : Nat) (x1 : Int32) (S : cS) : Prop :=
cA S x0 14 ∧ (((¬ x1 = ((nI (cn S x0))) →
  (∃ n1 : Nat, x1 = nI n1 ∧ n1 < 2 ^ 20 ∧ 0 + 1 ≤ mc ∧ 0 + n1 ≤ ms ∧ (∀ q2 : Nat, q2 ∉ cL S → ∀ S3 : cS, S3 = cNewA S q2 14 n1 → cA S3 x0 14 ∧ ((0 + 1 ≤ mc ∧ 0 + n1 ≤ ms) ∧ (cCp S3 14 x0 ((nI 0)) q2 ((nI 0)) ((if x1 < ((nI (cn S3 x0))) then x1 else ((nI (cn S3 x0))))) ∧ (∀ S4 : cS, S4 = cCpyI S3 x0 ((nI 0)).toNatClampNeg q2 ((nI 0)).toNatClampNeg ((if x1 < ((nI (cn S3 x0))) then x1 else ((nI (cn S3 x0))))).toNatClampNeg → (0 + 1 ≤ mc ∧ 0 + n1 ≤ ms) ∧ (Q q2 S4))))))) ∧
 (x1 = ((nI (cn S x0))) →
  False)))
set_option maxHeartbeats 1000000 in
set_option maxRecDepth 20000 in
theorem t_J7_copyOf_59c91 (l : Launch) (mc ms : Nat) (x0 : Nat) (x1 : Int32) (S : cS) (dp : Nat) {P : Nat → cS → Prop} (h : k_J7_copyOf_59c91 P dp mc ms x0 x1 S) : cMet (cQr P) l yJ7_copyOf_59c91 cJ7_copyOf_59c91 3 (some (.array .int)) 1 mc ms 18 [.ref x0, .int x1] S dp := by
  intro D Y tp sz
  refine cg_body (by decide +kernel) (Nat.le_of_ble_eq_true rfl) ?_
  intro p e s m args below meth c C
  generalize va_A (cWd Y S) sz = A at C ⊢
  have C : cC p s m args meth c cJ7_copyOf_59c91 3 (some (.array .int)) A D Y tp dp RJ7 := C
  refine cg_lv (lv' := [(0, .ref x0), (1, .int x1)]) rfl ?_
  unfold k_J7_copyOf_59c91 at h
  refine cg_iload_n C (i := 1) rfl 1 rfl dJ7_copyOf_59c91_0 ?_
  refine cg_aload_n C (i := 0) rfl 0 rfl dJ7_copyOf_59c91_1 ?_
  obtain ⟨hc_2, h⟩ := h
  refine cg_alen C hc_2.1 hc_2.2 (by decide) (by decide) dJ7_copyOf_59c91_2 ?_
  refine cg_icmp_ne C 14 (by decide) dJ7_copyOf_59c91_3 (fun c_ => ?_) (fun c_ => ?_)
  · have h := h.1 c_
    refine cg_iload_n C (i := 1) rfl 1 rfl dJ7_copyOf_59c91_14 ?_
    obtain ⟨n1, hn_1, hn_2, hn_3, hn_4, h⟩ := h
    refine cg_cast (.int (nI n1)) (congrArg Value.int hn_1) ?_
    refine cg_newI C n1 hn_2 ca_int hn_3 hn_4 dJ7_copyOf_59c91_15 (fun q2 hf_q2 => ?_)
    have h := h q2 hf_q2
    refine cg_nm (fun S3 e_S3 => ?_)
    have h := h S3 e_S3
    refine cg_astore_n (lv' := [(2, .ref q2), (0, .ref x0), (1, .int x1)]) C (i := 2) rfl (Nat.le_of_ble_eq_true rfl) rfl dJ7_copyOf_59c91_17 ?_
    refine cg_aload_n C (i := 0) rfl 1 rfl dJ7_copyOf_59c91_18 ?_
    refine cg_iconst C (x := nI 0) rfl dJ7_copyOf_59c91_19 ?_
    refine cg_aload_n C (i := 2) rfl 0 rfl dJ7_copyOf_59c91_20 ?_
    refine cg_iconst C (x := nI 0) rfl dJ7_copyOf_59c91_21 ?_
    refine cg_aload_n C (i := 0) rfl 1 rfl dJ7_copyOf_59c91_22 ?_
    obtain ⟨hc_23, h⟩ := h
    refine cg_alen C hc_23.1 hc_23.2 (by decide) (by decide) dJ7_copyOf_59c91_23 ?_
    refine cg_iload_n C (i := 1) rfl 2 rfl dJ7_copyOf_59c91_24 ?_
    obtain ⟨hc_25, h⟩ := h
    refine cg_mmin C cmmin_J7_304 cmmin_s cmm_i cmmin_c (Nat.le_of_ble_eq_true rfl) (Nat.le_of_ble_eq_true rfl) hc_25.1 hc_25.2 dJ7_copyOf_59c91_25 ?_
    obtain ⟨hc_28, h⟩ := h
    refine cg_copy14 C hc_28 cac_J7_150 (Nat.le_of_ble_eq_true rfl) (Nat.le_of_ble_eq_true rfl) dJ7_copyOf_59c91_28 ?_
    refine cg_nm (fun S4 e_S4 => ?_)
    have h := h S4 e_S4
    refine cg_aload_n C (i := 2) rfl 0 rfl dJ7_copyOf_59c91_31 ?_
    obtain ⟨hb_32, h⟩ := h
    exact cg_aret C rfl (by first | exact Or.inl ⟨_, rfl⟩ | exact Or.inr ⟨_, rfl⟩) h dJ7_copyOf_59c91_32 hb_32.1 hb_32.2
  · have h := h.2 c_
    refine cg_aload_n C (i := 0) rfl 0 rfl dJ7_copyOf_59c91_6 ?_
    exact h.elim
def k_X9_putToken_62 (Q : cS → Prop) (dp : Nat) (mc ms : Nat)  (x0 : Nat) (x1 : Int64) (x3 : Int32) (cd dd : Nat) (S : cS) : Prop :=
cA S x0 9 ∧ ((∃ b12 : Nat, cr S 290 x0 = some b12 ∧ (cA S x0 9 ∧ (cX S b12 15 ((ci S 292 x0)) ∧ (∀ S13 : cS, S13 = cSJ S b12 ((ci S 292 x0)).toNatClampNeg x1 → cA S13 x0 9 ∧ ((∃ b14 : Nat, cr S13 291 x0 = some b14 ∧ (cA S13 x0 9 ∧ (cX S13 b14 14 ((ci S13 292 x0)) ∧ (∀ S15 : cS, S15 = cSI S13 b14 ((ci S13 292 x0)).toNatClampNeg x3 → cA S15 x0 9 ∧ (cA S15 x0 9 ∧ (∀ S16 : cS, S16 = cSi S15 292 x0 ((((ci S15 292 x0)) + ((nI 1)))) → (cd ≤ mc ∧ dd ≤ ms) ∧ (Q S16)))))))))))))
def k_X9_putToken_24 (Q : cS → Prop) (dp : Nat) (mc ms : Nat)  (x0 : Nat) (x1 : Int64) (x3 : Int32) (cd dd : Nat) (S : cS) : Prop :=
cA S x0 9 ∧ ((∃ b2 : Nat, cr S 290 x0 = some b2 ∧ (cA S x0 9 ∧ ((∃ mc3 ms4 : Nat, cd + mc3 ≤ mc ∧ dd + ms4 ≤ ms ∧ (k_J7_copyOf_c38d5 (fun r_5 S_5 => 
cA S_5 x0 9 ∧ (∀ S6 : cS, S6 = cSr S_5 290 x0 ((some r_5)) → cA S6 x0 9 ∧ ((∃ b7 : Nat, cr S6 291 x0 = some b7 ∧ (cA S6 x0 9 ∧ ((∃ mc8 ms9 : Nat, cd + mc3 + mc8 ≤ mc ∧ dd + ms4 + ms9 ≤ ms ∧ (k_J7_copyOf_59c91 (fun r_10 S_10 => 
cA S_10 x0 9 ∧ (∀ S11 : cS, S11 = cSr S_10 291 x0 ((some r_10)) → k_X9_putToken_62 Q dp mc ms  x0 x1 x3 (cd + mc3 + mc8) (dd + ms4 + ms9) S11)) dp mc8 ms9 b7 ((((((ci S6 292 x0)) * ((nI 2)))) + ((nI 4)))) S6)))))))) dp mc3 ms4 b2 ((((((ci S 292 x0)) * ((nI 2)))) + ((nI 4)))) S))))))
def k_X9_putToken (Q : cS → Prop) (dp : Nat) (mc ms : Nat) (x0 : Nat) (x1 : Int64) (x3 : Int32) (S : cS) : Prop :=
cA S x0 9 ∧ (cA S x0 9 ∧ ((∃ b1 : Nat, cr S 290 x0 = some b1 ∧ (cA S b1 15 ∧ (((((nI (cn S b1))) ≤ ((ci S 292 x0)) →
  k_X9_putToken_24 Q dp mc ms  x0 x1 x3 0 0 S) ∧
 (¬ ((nI (cn S b1))) ≤ ((ci S 292 x0)) →
  cA S x0 9 ∧ (cA S x0 9 ∧ ((∃ b17 : Nat, cr S 291 x0 = some b17 ∧ (cA S b17 14 ∧ (((((ci S 292 x0)) < ((nI (cn S b17))) →
    k_X9_putToken_62 Q dp mc ms  x0 x1 x3 0 0 S) ∧
   (¬ ((ci S 292 x0)) < ((nI (cn S b17))) →
    k_X9_putToken_24 Q dp mc ms  x0 x1 x3 0 0 S))))))))))))))
section S_X9_putToken
variable {p : Program} {l : Launch} {e : Env} {s : State} {m : MethodId} {args : Array Value} {below : List Frame} {meth : Method} {c : Code} {A : Nat → Prop} {D : va_G} {Y : cY} {tp dp : Nat}
set_option maxRecDepth 20000 in
theorem tb_X9_putToken_62 {mc ms : Nat} (C : cC p s m args meth c cX9_putToken 4 none A D Y tp dp RX9) {post : cS → Prop}   (x0 : Nat) (x1 : Int64) (x3 : Int32) (cd dd : Nat) (S : cS) (h : k_X9_putToken_62 post dp mc ms  x0 x1 x3 cd dd S) : cG p l e (cRm 2 mc ms 40) s m args below meth c A D Y 4 (MQ below (cQv post D Y A) args s mc ms A) cd dd 62 [(0, .ref x0), (1, .long x1), (3, .int x3)] [] S := by
  unfold k_X9_putToken_62 at h
  refine cg_aload_n C (i := 0) rfl 0 rfl dX9_putToken_62 ?_
  obtain ⟨hc_63, h⟩ := h
  obtain ⟨b12, hb_b12, h⟩ := h
  refine cg_get C (k := 9) (j := 2) (.ref b12) hc_63.1 hc_63.2 (by decide) rfl (by decide) rfl (show cV _ 9 2 x0 = _ from congrArg va_rf hb_b12) cWs_wsX90 cl_X9_19 rfl dX9_putToken_63 ?_
  refine cg_aload_n C (i := 0) rfl 0 rfl dX9_putToken_66 ?_
  obtain ⟨hc_67, h⟩ := h
  refine cg_get C (k := 9) (j := 4) (.int (ci S 292 x0)) hc_67.1 hc_67.2 (by decide) rfl (by decide) rfl rfl cWs_wsX90 cl_X9_26 rfl dX9_putToken_67 ?_
  refine cg_lload_n C (i := 1) rfl 1 rfl dX9_putToken_70 ?_
  obtain ⟨hc_71, h⟩ := h
  refine cg_lastoreR C hc_71 dX9_putToken_71 ?_
  refine cg_nm (fun S13 e_S13 => ?_)
  have h := h S13 e_S13
  refine cg_aload_n C (i := 0) rfl 0 rfl dX9_putToken_72 ?_
  obtain ⟨hc_73, h⟩ := h
  obtain ⟨b14, hb_b14, h⟩ := h
  refine cg_get C (k := 9) (j := 3) (.ref b14) hc_73.1 hc_73.2 (by decide) rfl (by decide) rfl (show cV _ 9 3 x0 = _ from congrArg va_rf hb_b14) cWs_wsX90 cl_X9_23 rfl dX9_putToken_73 ?_
  refine cg_aload_n C (i := 0) rfl 0 rfl dX9_putToken_76 ?_
  obtain ⟨hc_77, h⟩ := h
  refine cg_get C (k := 9) (j := 4) (.int (ci S13 292 x0)) hc_77.1 hc_77.2 (by decide) rfl (by decide) rfl rfl cWs_wsX90 cl_X9_26 rfl dX9_putToken_77 ?_
  refine cg_iload_n C (i := 3) rfl 2 rfl dX9_putToken_80 ?_
  obtain ⟨hc_81, h⟩ := h
  refine cg_iastoreR C hc_81 dX9_putToken_81 ?_
  refine cg_nm (fun S15 e_S15 => ?_)
  have h := h S15 e_S15
  refine cg_aload_n C (i := 0) rfl 0 rfl dX9_putToken_82 ?_
  refine cg_dup C rfl dX9_putToken_83 ?_
  obtain ⟨hc_84, h⟩ := h
  refine cg_get C (k := 9) (j := 4) (.int (ci S15 292 x0)) hc_84.1 hc_84.2 (by decide) rfl (by decide) rfl rfl cWs_wsX90 cl_X9_26 rfl dX9_putToken_84 ?_
  refine cg_iconst C (x := nI 1) rfl dX9_putToken_87 ?_
  refine cg_iadd C dX9_putToken_88 ?_
  obtain ⟨hc_89, h⟩ := h
  refine cg_puti C (k := 9) (j := 4) (ty := tyX9) (fty := .int) hc_89.1 hc_89.2 (by decide) rfl (by decide) rfl (by decide) rfl cWs_wsX90 tyX9_ok nmX9 cl_X9_26 rfl rfl rfl rfl rfl dX9_putToken_89 ?_
  refine cg_nm (fun S16 e_S16 => ?_)
  have h := h S16 e_S16
  obtain ⟨hb_92, h⟩ := h
  exact cg_vret C h dX9_putToken_92 hb_92.1 hb_92.2
set_option maxRecDepth 20000 in
theorem tb_X9_putToken_24 {mc ms : Nat} (C : cC p s m args meth c cX9_putToken 4 none A D Y tp dp RX9) {post : cS → Prop}   (x0 : Nat) (x1 : Int64) (x3 : Int32) (cd dd : Nat) (S : cS) (h : k_X9_putToken_24 post dp mc ms  x0 x1 x3 cd dd S) : cG p l e (cRm 2 mc ms 40) s m args below meth c A D Y 4 (MQ below (cQv post D Y A) args s mc ms A) cd dd 24 [(0, .ref x0), (1, .long x1), (3, .int x3)] [] S := by
  unfold k_X9_putToken_24 at h
  refine cg_aload_n C (i := 0) rfl 0 rfl dX9_putToken_24 ?_
  refine cg_aload_n C (i := 0) rfl 0 rfl dX9_putToken_25 ?_
  obtain ⟨hc_26, h⟩ := h
  obtain ⟨b2, hb_b2, h⟩ := h
  refine cg_get C (k := 9) (j := 2) (.ref b2) hc_26.1 hc_26.2 (by decide) rfl (by decide) rfl (show cV _ 9 2 x0 = _ from congrArg va_rf hb_b2) cWs_wsX90 cl_X9_19 rfl dX9_putToken_26 ?_
  refine cg_aload_n C (i := 0) rfl 0 rfl dX9_putToken_29 ?_
  obtain ⟨hc_30, h⟩ := h
  refine cg_get C (k := 9) (j := 4) (.int (ci S 292 x0)) hc_30.1 hc_30.2 (by decide) rfl (by decide) rfl rfl cWs_wsX90 cl_X9_26 rfl dX9_putToken_30 ?_
  refine cg_iconst C (x := nI 2) rfl dX9_putToken_33 ?_
  refine cg_imul C dX9_putToken_34 ?_
  refine cg_iconst C (x := nI 4) rfl dX9_putToken_35 ?_
  refine cg_iadd C dX9_putToken_36 ?_
  obtain ⟨mc3, ms4, hm_1, hm_2, h⟩ := h
  refine cg_callsr C (t_J7_copyOf_c38d5 l mc3 ms4 b2 ((((((ci S 292 x0)) * ((nI 2)))) + ((nI 4)))) S dp h) cc_X9_29 rfl ⟨by decide, by decide⟩ ⟨hm_1, hm_2⟩ rfl (Nat.le_of_ble_eq_true rfl) dX9_putToken_37 (fun r_5 S_5 h => ?_)
  obtain ⟨hc_40, h⟩ := h
  refine cg_putr C (k := 9) (j := 2) (x := (some r_5)) (ty := tyX9) (fty := tyX9 2) hc_40.1 hc_40.2 (by decide) rfl (by decide) rfl (by decide) rfl cWs_wsX90 tyX9_ok nmX9 cl_X9_19 rfl rfl rfl rfl rfl dX9_putToken_40 ?_
  refine cg_nm (fun S6 e_S6 => ?_)
  have h := h S6 e_S6
  refine cg_aload_n C (i := 0) rfl 0 rfl dX9_putToken_43 ?_
  refine cg_aload_n C (i := 0) rfl 0 rfl dX9_putToken_44 ?_
  obtain ⟨hc_45, h⟩ := h
  obtain ⟨b7, hb_b7, h⟩ := h
  refine cg_get C (k := 9) (j := 3) (.ref b7) hc_45.1 hc_45.2 (by decide) rfl (by decide) rfl (show cV _ 9 3 x0 = _ from congrArg va_rf hb_b7) cWs_wsX90 cl_X9_23 rfl dX9_putToken_45 ?_
  refine cg_aload_n C (i := 0) rfl 0 rfl dX9_putToken_48 ?_
  obtain ⟨hc_49, h⟩ := h
  refine cg_get C (k := 9) (j := 4) (.int (ci S6 292 x0)) hc_49.1 hc_49.2 (by decide) rfl (by decide) rfl rfl cWs_wsX90 cl_X9_26 rfl dX9_putToken_49 ?_
  refine cg_iconst C (x := nI 2) rfl dX9_putToken_52 ?_
  refine cg_imul C dX9_putToken_53 ?_
  refine cg_iconst C (x := nI 4) rfl dX9_putToken_54 ?_
  refine cg_iadd C dX9_putToken_55 ?_
  obtain ⟨mc8, ms9, hm_1, hm_2, h⟩ := h
  refine cg_callsr C (t_J7_copyOf_59c91 l mc8 ms9 b7 ((((((ci S6 292 x0)) * ((nI 2)))) + ((nI 4)))) S6 dp h) cc_X9_35 rfl ⟨by decide, by decide⟩ ⟨hm_1, hm_2⟩ rfl (Nat.le_of_ble_eq_true rfl) dX9_putToken_56 (fun r_10 S_10 h => ?_)
  obtain ⟨hc_59, h⟩ := h
  refine cg_putr C (k := 9) (j := 3) (x := (some r_10)) (ty := tyX9) (fty := tyX9 3) hc_59.1 hc_59.2 (by decide) rfl (by decide) rfl (by decide) rfl cWs_wsX90 tyX9_ok nmX9 cl_X9_23 rfl rfl rfl rfl rfl dX9_putToken_59 ?_
  refine cg_nm (fun S11 e_S11 => ?_)
  have h := h S11 e_S11
  exact cg_sub [0, 1, 2] rfl (tb_X9_putToken_62 C   x0 x1 x3 (cd + mc3 + mc8) (dd + ms4 + ms9) S11 h)
end S_X9_putToken
set_option maxHeartbeats 1000000 in
set_option maxRecDepth 20000 in
theorem t_X9_putToken (l : Launch) (mc ms : Nat) (x0 : Nat) (x1 : Int64) (x3 : Int32) (S : cS) (dp : Nat) {P : cS → Prop} (h : k_X9_putToken P dp mc ms x0 x1 x3 S) : cMet (cQv P) l yX9_putToken cX9_putToken 4 none 2 mc ms 40 [.ref x0, .long x1, .int x3] S dp := by
  intro D Y tp sz
  refine cg_body (by decide +kernel) (Nat.le_of_ble_eq_true rfl) ?_
  intro p e s m args below meth c C
  generalize va_A (cWd Y S) sz = A at C ⊢
  have C : cC p s m args meth c cX9_putToken 4 none A D Y tp dp RX9 := C
  refine cg_lv (lv' := [(0, .ref x0), (1, .long x1), (3, .int x3)]) rfl ?_
  unfold k_X9_putToken at h
  refine cg_aload_n C (i := 0) rfl 0 rfl dX9_putToken_0 ?_
  obtain ⟨hc_1, h⟩ := h
  refine cg_get C (k := 9) (j := 4) (.int (ci S 292 x0)) hc_1.1 hc_1.2 (by decide) rfl (by decide) rfl rfl cWs_wsX90 cl_X9_26 rfl dX9_putToken_1 ?_
  refine cg_aload_n C (i := 0) rfl 0 rfl dX9_putToken_4 ?_
  obtain ⟨hc_5, h⟩ := h
  obtain ⟨b1, hb_b1, h⟩ := h
  refine cg_get C (k := 9) (j := 2) (.ref b1) hc_5.1 hc_5.2 (by decide) rfl (by decide) rfl (show cV _ 9 2 x0 = _ from congrArg va_rf hb_b1) cWs_wsX90 cl_X9_19 rfl dX9_putToken_5 ?_
  obtain ⟨hc_8, h⟩ := h
  refine cg_alen C hc_8.1 hc_8.2 (by decide) (by decide) dX9_putToken_8 ?_
  refine cg_icmp_ge C 24 (by decide) dX9_putToken_9 (fun c_ => ?_) (fun c_ => ?_)
  · have h := h.1 c_
    exact cg_sub [0, 1, 2] rfl (tb_X9_putToken_24 C   x0 x1 x3 0 0 S h)
  · have h := h.2 c_
    refine cg_aload_n C (i := 0) rfl 0 rfl dX9_putToken_12 ?_
    obtain ⟨hc_13, h⟩ := h
    refine cg_get C (k := 9) (j := 4) (.int (ci S 292 x0)) hc_13.1 hc_13.2 (by decide) rfl (by decide) rfl rfl cWs_wsX90 cl_X9_26 rfl dX9_putToken_13 ?_
    refine cg_aload_n C (i := 0) rfl 0 rfl dX9_putToken_16 ?_
    obtain ⟨hc_17, h⟩ := h
    obtain ⟨b17, hb_b17, h⟩ := h
    refine cg_get C (k := 9) (j := 3) (.ref b17) hc_17.1 hc_17.2 (by decide) rfl (by decide) rfl (show cV _ 9 3 x0 = _ from congrArg va_rf hb_b17) cWs_wsX90 cl_X9_23 rfl dX9_putToken_17 ?_
    obtain ⟨hc_20, h⟩ := h
    refine cg_alen C hc_20.1 hc_20.2 (by decide) (by decide) dX9_putToken_20 ?_
    refine cg_icmp_lt C 62 (by decide) dX9_putToken_21 (fun c_ => ?_) (fun c_ => ?_)
    · have h := h.1 c_
      exact cg_sub [0, 1, 2] rfl (tb_X9_putToken_62 C   x0 x1 x3 0 0 S h)
    · have h := h.2 c_
      exact cg_sub [0, 1, 2] rfl (tb_X9_putToken_24 C   x0 x1 x3 0 0 S h)
