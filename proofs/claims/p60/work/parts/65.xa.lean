/-! the class: what throws, and the law's wrappers -/
def kx_X11_type (E : String) (Q : cS → Prop) (dp : Nat) (mc ms : Nat) (x0 : Nat) (x1 : Int32) (S : cS) : Prop :=
((x1 < ((nI 32)) →
  E = "java/lang/IllegalArgumentException" ∧ (0 + 1 ≤ mc ∧ 0 + 6 ≤ ms) ∧ Q S) ∧
 (¬ x1 < ((nI 32)) →
  ((x1 ≤ ((nI 126)) →
    cA S x0 11 ∧ ((∃ b1 : Nat, cr S 352 x0 = some b1 ∧ (cA S b1 3 ∧ ((∃ b2 : Nat, cr S 96 b1 = some b2 ∧ (cA S b2 9 ∧ (((((ci S 289 b2)) < ((nI 40)) →
      cA S x0 11 ∧ ((∃ b3 : Nat, cr S 352 x0 = some b3 ∧ (cA S b3 3 ∧ ((∃ b4 : Nat, cr S 96 b3 = some b4 ∧ (cA S b4 9 ∧ ((0 ≤ mc ∧ 0 ≤ ms) ∧ (k_X9_putSign (fun r_5 S_5 => 
      False) dp b4 x1 S))))))))) ∧
     (¬ ((ci S 289 b2)) < ((nI 40)) →
      E = "java/lang/IllegalStateException" ∧ (0 + 1 ≤ mc ∧ 0 + 6 ≤ ms) ∧ Q S)))))))))) ∧
   (¬ x1 ≤ ((nI 126)) →
    E = "java/lang/IllegalArgumentException" ∧ (0 + 1 ≤ mc ∧ 0 + 6 ≤ ms) ∧ Q S))))
set_option maxHeartbeats 1000000 in
set_option maxRecDepth 20000 in
theorem tx_X11_type (l : Launch) (hlt : l.stackTraces = false) (E : String) (mc ms : Nat) (x0 : Nat) (x1 : Int32) (S : cS) (dp : Nat) {P : cS → Prop} (h : kx_X11_type E P dp mc ms x0 x1 S) : cMetX E P l yX11_type cX11_type 2 (some .int) 6 mc ms 82 [.ref x0, .int x1] S dp := by
  intro D Y tp sz
  refine cg_bodyX (by decide +kernel) (Nat.le_of_ble_eq_true rfl) ?_
  intro p e s m args below meth c C hne
  generalize va_A (cWd Y S) sz = A at C ⊢
  have C : cC p s m args meth c cX11_type 2 (some .int) A D Y tp dp RX11 := C
  refine cg_lv (lv' := [(0, .ref x0), (1, .int x1)]) rfl ?_
  unfold kx_X11_type at h
  refine cg_iload_n C (i := 1) rfl 1 rfl dX11_type_0 ?_
  refine cg_bipush C (x := nI 32) rfl dX11_type_1 ?_
  refine cg_icmp_lt C 12 (by decide) dX11_type_3 (fun c_ => ?_) (fun c_ => ?_)
  · have h := h.1 c_
    obtain ⟨hE_, hb_, h⟩ := h
    rw [hE_]
    exact cg_throw1 C hlt hne "the sign is out of range" ce_X11_100 cei_1 (by decide) dX11_type_12 dX11_type_15 dX11_type_16 dX11_type_18 dX11_type_21 (by decide) (Nat.le_of_ble_eq_true rfl) hb_ hb_ h
  · have h := h.2 c_
    refine cg_iload_n C (i := 1) rfl 1 rfl dX11_type_6 ?_
    refine cg_bipush C (x := nI 126) rfl dX11_type_7 ?_
    refine cg_icmp_le C 22 (by decide) dX11_type_9 (fun c_ => ?_) (fun c_ => ?_)
    · have h := h.1 c_
      refine cg_aload_n C (i := 0) rfl 0 rfl dX11_type_22 ?_
      obtain ⟨hc_23, h⟩ := h
      obtain ⟨b1, hb_b1, h⟩ := h
      refine cg_get C (k := 11) (j := 0) (.ref b1) hc_23.1 hc_23.2 (by decide) rfl (by decide) rfl (show cV _ 11 0 x0 = _ from congrArg va_rf hb_b1) cWs_wsX110 cl_X11_10 rfl dX11_type_23 ?_
      obtain ⟨hc_26, h⟩ := h
      obtain ⟨b2, hb_b2, h⟩ := h
      refine cg_get C (k := 3) (j := 0) (.ref b2) hc_26.1 hc_26.2 (by decide) rfl (by decide) rfl (show cV _ 3 0 b1 = _ from congrArg va_rf hb_b2) cWs_wsX30 cl_X11_107 rfl dX11_type_26 ?_
      obtain ⟨hc_29, h⟩ := h
      refine cg_get C (k := 9) (j := 1) (.int (ci S 289 b2)) hc_29.1 hc_29.2 (by decide) rfl (by decide) rfl rfl cWs_wsX90 cl_X11_111 rfl dX11_type_29 ?_
      refine cg_bipush C (x := nI 40) rfl dX11_type_32 ?_
      refine cg_icmp_lt C 47 (by decide) dX11_type_34 (fun c_ => ?_) (fun c_ => ?_)
      · have h := h.1 c_
        refine cg_aload_n C (i := 0) rfl 0 rfl dX11_type_47 ?_
        obtain ⟨hc_48, h⟩ := h
        obtain ⟨b3, hb_b3, h⟩ := h
        refine cg_get C (k := 11) (j := 0) (.ref b3) hc_48.1 hc_48.2 (by decide) rfl (by decide) rfl (show cV _ 11 0 x0 = _ from congrArg va_rf hb_b3) cWs_wsX110 cl_X11_10 rfl dX11_type_48 ?_
        obtain ⟨hc_51, h⟩ := h
        obtain ⟨b4, hb_b4, h⟩ := h
        refine cg_get C (k := 3) (j := 0) (.ref b4) hc_51.1 hc_51.2 (by decide) rfl (by decide) rfl (show cV _ 3 0 b3 = _ from congrArg va_rf hb_b4) cWs_wsX30 cl_X11_107 rfl dX11_type_51 ?_
        refine cg_iload_n C (i := 1) rfl 1 rfl dX11_type_54 ?_
        obtain ⟨hc_55, h⟩ := h
        obtain ⟨hb_55, h⟩ := h
        refine cg_calli C (t_X9_putSign l b4 x1 S dp h) cc_X11_121 hc_55.1 hc_55.2 (by decide) rfl rfl ⟨by decide, by decide⟩ hb_55 rfl (Nat.le_of_ble_eq_true rfl) dX11_type_55 (fun r_5 S_5 h => ?_)
        simp only [Nat.add_zero]
        exact h.elim
      · have h := h.2 c_
        obtain ⟨hE_, hb_, h⟩ := h
        rw [hE_]
        exact cg_throw2 C hlt hne "the pad is full" ce_X11_116 cei_2 (by decide) dX11_type_37 dX11_type_40 dX11_type_41 dX11_type_43 dX11_type_46 (by decide) (Nat.le_of_ble_eq_true rfl) hb_ hb_ h
    · have h := h.2 c_
      obtain ⟨hE_, hb_, h⟩ := h
      rw [hE_]
      exact cg_throw1 C hlt hne "the sign is out of range" ce_X11_100 cei_1 (by decide) dX11_type_12 dX11_type_15 dX11_type_16 dX11_type_18 dX11_type_21 (by decide) (Nat.le_of_ble_eq_true rfl) hb_ hb_ h
def kx_X11_stop (E : String) (Q : cS → Prop) (dp : Nat) (mc ms : Nat) (x0 : Nat) (S : cS) : Prop :=
cA S x0 11 ∧ ((∃ b1 : Nat, cr S 352 x0 = some b1 ∧ (cA S b1 3 ∧ ((0 ≤ mc ∧ 0 ≤ ms) ∧ (k_X3_readPad (fun r_2 S_2 => 
((¬ r_2 = ((nI 1)) →
  E = "java/lang/IllegalStateException" ∧ (0 + 1 ≤ mc ∧ 0 + 6 ≤ ms) ∧ Q S_2) ∧
 (r_2 = ((nI 1)) →
  cA S_2 x0 11 ∧ ((∃ b3 : Nat, cr S_2 352 x0 = some b3 ∧ (cA S_2 b3 3 ∧ (((((nI 10)) ≤ ((ci S_2 100 b3)) →
    E = "java/lang/IllegalStateException" ∧ (0 + 1 ≤ mc ∧ 0 + 6 ≤ ms) ∧ Q S_2) ∧
   (¬ ((nI 10)) ≤ ((ci S_2 100 b3)) →
    cA S_2 x0 11 ∧ ((∃ b4 : Nat, cr S_2 352 x0 = some b4 ∧ (cA S_2 b4 3 ∧ (((((ci S_2 104 b4)) = 0 →
      cA S_2 x0 11 ∧ ((∃ b5 : Nat, cr S_2 352 x0 = some b5 ∧ (cA S_2 b5 3 ∧ ((∃ mc6 ms7 : Nat, 0 + mc6 ≤ mc ∧ 0 + ms7 ≤ ms ∧ (k_X3_putStop (fun r_8 S_8 => 
      False) dp mc6 ms7 b5 S_2))))))) ∧
     (¬ ((ci S_2 104 b4)) = 0 →
      E = "java/lang/IllegalStateException" ∧ (0 + 1 ≤ mc ∧ 0 + 6 ≤ ms) ∧ Q S_2))))))))))))))) dp b1 S)))))
set_option maxHeartbeats 1000000 in
set_option maxRecDepth 20000 in
theorem tx_X11_stop (l : Launch) (hlt : l.stackTraces = false) (E : String) (mc ms : Nat) (x0 : Nat) (S : cS) (dp : Nat) {P : cS → Prop} (h : kx_X11_stop E P dp mc ms x0 S) : cMetX E P l yX11_stop cX11_stop 1 (some .int) 6 mc ms 91 [.ref x0] S dp := by
  intro D Y tp sz
  refine cg_bodyX (by decide +kernel) (Nat.le_of_ble_eq_true rfl) ?_
  intro p e s m args below meth c C hne
  generalize va_A (cWd Y S) sz = A at C ⊢
  have C : cC p s m args meth c cX11_stop 1 (some .int) A D Y tp dp RX11 := C
  refine cg_lv (lv' := [(0, .ref x0)]) rfl ?_
  unfold kx_X11_stop at h
  refine cg_aload_n C (i := 0) rfl 0 rfl dX11_stop_0 ?_
  obtain ⟨hc_1, h⟩ := h
  obtain ⟨b1, hb_b1, h⟩ := h
  refine cg_get C (k := 11) (j := 0) (.ref b1) hc_1.1 hc_1.2 (by decide) rfl (by decide) rfl (show cV _ 11 0 x0 = _ from congrArg va_rf hb_b1) cWs_wsX110 cl_X11_10 rfl dX11_stop_1 ?_
  obtain ⟨hc_4, h⟩ := h
  obtain ⟨hb_4, h⟩ := h
  refine cg_calli C (t_X3_readPad l b1 S dp h) cc_X11_129 hc_4.1 hc_4.2 (by decide) rfl rfl ⟨by decide, by decide⟩ hb_4 rfl (Nat.le_of_ble_eq_true rfl) dX11_stop_4 (fun r_2 S_2 h => ?_)
  simp only [Nat.add_zero]
  refine cg_iconst C (x := nI 1) rfl dX11_stop_7 ?_
  refine cg_icmp_ne C 33 (by decide) dX11_stop_8 (fun c_ => ?_) (fun c_ => ?_)
  · have h := h.1 c_
    obtain ⟨hE_, hb_, h⟩ := h
    rw [hE_]
    exact cg_throw2 C hlt hne "no stop word can be told now" ce_X11_116 cei_2 (by decide) dX11_stop_33 dX11_stop_36 dX11_stop_37 dX11_stop_39 dX11_stop_42 (by decide) (Nat.le_of_ble_eq_true rfl) hb_ hb_ h
  · have h := h.2 c_
    refine cg_aload_n C (i := 0) rfl 0 rfl dX11_stop_11 ?_
    obtain ⟨hc_12, h⟩ := h
    obtain ⟨b3, hb_b3, h⟩ := h
    refine cg_get C (k := 11) (j := 0) (.ref b3) hc_12.1 hc_12.2 (by decide) rfl (by decide) rfl (show cV _ 11 0 x0 = _ from congrArg va_rf hb_b3) cWs_wsX110 cl_X11_10 rfl dX11_stop_12 ?_
    obtain ⟨hc_15, h⟩ := h
    refine cg_get C (k := 3) (j := 4) (.int (ci S_2 100 b3)) hc_15.1 hc_15.2 (by decide) rfl (by decide) rfl rfl cWs_wsX30 cl_X11_133 rfl dX11_stop_15 ?_
    refine cg_bipush C (x := nI 10) rfl dX11_stop_18 ?_
    refine cg_icmp_ge C 33 (by decide) dX11_stop_20 (fun c_ => ?_) (fun c_ => ?_)
    · have h := h.1 c_
      obtain ⟨hE_, hb_, h⟩ := h
      rw [hE_]
      exact cg_throw2 C hlt hne "no stop word can be told now" ce_X11_116 cei_2 (by decide) dX11_stop_33 dX11_stop_36 dX11_stop_37 dX11_stop_39 dX11_stop_42 (by decide) (Nat.le_of_ble_eq_true rfl) hb_ hb_ h
    · have h := h.2 c_
      refine cg_aload_n C (i := 0) rfl 0 rfl dX11_stop_23 ?_
      obtain ⟨hc_24, h⟩ := h
      obtain ⟨b4, hb_b4, h⟩ := h
      refine cg_get C (k := 11) (j := 0) (.ref b4) hc_24.1 hc_24.2 (by decide) rfl (by decide) rfl (show cV _ 11 0 x0 = _ from congrArg va_rf hb_b4) cWs_wsX110 cl_X11_10 rfl dX11_stop_24 ?_
      obtain ⟨hc_27, h⟩ := h
      refine cg_get C (k := 3) (j := 8) (.int (ci S_2 104 b4)) hc_27.1 hc_27.2 (by decide) rfl (by decide) rfl rfl cWs_wsX30 cl_X11_136 rfl dX11_stop_27 ?_
      refine cg_if_eq C 43 (by decide) dX11_stop_30 (fun c_ => ?_) (fun c_ => ?_)
      · have h := h.1 c_
        refine cg_aload_n C (i := 0) rfl 0 rfl dX11_stop_43 ?_
        obtain ⟨hc_44, h⟩ := h
        obtain ⟨b5, hb_b5, h⟩ := h
        refine cg_get C (k := 11) (j := 0) (.ref b5) hc_44.1 hc_44.2 (by decide) rfl (by decide) rfl (show cV _ 11 0 x0 = _ from congrArg va_rf hb_b5) cWs_wsX110 cl_X11_10 rfl dX11_stop_44 ?_
        obtain ⟨hc_47, h⟩ := h
        obtain ⟨mc6, ms7, hm_1, hm_2, h⟩ := h
        refine cg_calli C (t_X3_putStop l mc6 ms7 b5 S_2 dp h) cc_X11_141 hc_47.1 hc_47.2 (by decide) rfl rfl ⟨by decide, by decide⟩ ⟨hm_1, hm_2⟩ rfl (Nat.le_of_ble_eq_true rfl) dX11_stop_47 (fun r_8 S_8 h => ?_)
        exact h.elim
      · have h := h.2 c_
        obtain ⟨hE_, hb_, h⟩ := h
        rw [hE_]
        exact cg_throw2 C hlt hne "no stop word can be told now" ce_X11_116 cei_2 (by decide) dX11_stop_33 dX11_stop_36 dX11_stop_37 dX11_stop_39 dX11_stop_42 (by decide) (Nat.le_of_ble_eq_true rfl) hb_ hb_ h
def kx_X11_synonym (E : String) (Q : cS → Prop) (dp : Nat) (mc ms : Nat) (x0 : Nat) (S : cS) : Prop :=
cA S x0 11 ∧ ((∃ b1 : Nat, cr S 352 x0 = some b1 ∧ (cA S b1 3 ∧ ((0 ≤ mc ∧ 0 ≤ ms) ∧ (k_X3_readPad (fun r_2 S_2 => 
((¬ r_2 = ((nI 2)) →
  E = "java/lang/IllegalStateException" ∧ (0 + 1 ≤ mc ∧ 0 + 6 ≤ ms) ∧ Q S_2) ∧
 (r_2 = ((nI 2)) →
  cA S_2 x0 11 ∧ ((∃ b3 : Nat, cr S_2 352 x0 = some b3 ∧ (cA S_2 b3 3 ∧ (((((nI 10)) ≤ ((ci S_2 103 b3)) →
    E = "java/lang/IllegalStateException" ∧ (0 + 1 ≤ mc ∧ 0 + 6 ≤ ms) ∧ Q S_2) ∧
   (¬ ((nI 10)) ≤ ((ci S_2 103 b3)) →
    cA S_2 x0 11 ∧ ((∃ b4 : Nat, cr S_2 352 x0 = some b4 ∧ (cA S_2 b4 3 ∧ (((((ci S_2 104 b4)) = 0 →
      cA S_2 x0 11 ∧ ((∃ b5 : Nat, cr S_2 352 x0 = some b5 ∧ (cA S_2 b5 3 ∧ ((∃ mc6 ms7 : Nat, 0 + mc6 ≤ mc ∧ 0 + ms7 ≤ ms ∧ (k_X3_putPair (fun r_8 S_8 => 
      False) dp mc6 ms7 b5 S_2))))))) ∧
     (¬ ((ci S_2 104 b4)) = 0 →
      E = "java/lang/IllegalStateException" ∧ (0 + 1 ≤ mc ∧ 0 + 6 ≤ ms) ∧ Q S_2))))))))))))))) dp b1 S)))))
set_option maxHeartbeats 1000000 in
set_option maxRecDepth 20000 in
theorem tx_X11_synonym (l : Launch) (hlt : l.stackTraces = false) (E : String) (mc ms : Nat) (x0 : Nat) (S : cS) (dp : Nat) {P : cS → Prop} (h : kx_X11_synonym E P dp mc ms x0 S) : cMetX E P l yX11_synonym cX11_synonym 1 (some .int) 6 mc ms 89 [.ref x0] S dp := by
  intro D Y tp sz
  refine cg_bodyX (by decide +kernel) (Nat.le_of_ble_eq_true rfl) ?_
  intro p e s m args below meth c C hne
  generalize va_A (cWd Y S) sz = A at C ⊢
  have C : cC p s m args meth c cX11_synonym 1 (some .int) A D Y tp dp RX11 := C
  refine cg_lv (lv' := [(0, .ref x0)]) rfl ?_
  unfold kx_X11_synonym at h
  refine cg_aload_n C (i := 0) rfl 0 rfl dX11_synonym_0 ?_
  obtain ⟨hc_1, h⟩ := h
  obtain ⟨b1, hb_b1, h⟩ := h
  refine cg_get C (k := 11) (j := 0) (.ref b1) hc_1.1 hc_1.2 (by decide) rfl (by decide) rfl (show cV _ 11 0 x0 = _ from congrArg va_rf hb_b1) cWs_wsX110 cl_X11_10 rfl dX11_synonym_1 ?_
  obtain ⟨hc_4, h⟩ := h
  obtain ⟨hb_4, h⟩ := h
  refine cg_calli C (t_X3_readPad l b1 S dp h) cc_X11_129 hc_4.1 hc_4.2 (by decide) rfl rfl ⟨by decide, by decide⟩ hb_4 rfl (Nat.le_of_ble_eq_true rfl) dX11_synonym_4 (fun r_2 S_2 h => ?_)
  simp only [Nat.add_zero]
  refine cg_iconst C (x := nI 2) rfl dX11_synonym_7 ?_
  refine cg_icmp_ne C 33 (by decide) dX11_synonym_8 (fun c_ => ?_) (fun c_ => ?_)
  · have h := h.1 c_
    obtain ⟨hE_, hb_, h⟩ := h
    rw [hE_]
    exact cg_throw2 C hlt hne "no synonym can be told now" ce_X11_116 cei_2 (by decide) dX11_synonym_33 dX11_synonym_36 dX11_synonym_37 dX11_synonym_39 dX11_synonym_42 (by decide) (Nat.le_of_ble_eq_true rfl) hb_ hb_ h
  · have h := h.2 c_
    refine cg_aload_n C (i := 0) rfl 0 rfl dX11_synonym_11 ?_
    obtain ⟨hc_12, h⟩ := h
    obtain ⟨b3, hb_b3, h⟩ := h
    refine cg_get C (k := 11) (j := 0) (.ref b3) hc_12.1 hc_12.2 (by decide) rfl (by decide) rfl (show cV _ 11 0 x0 = _ from congrArg va_rf hb_b3) cWs_wsX110 cl_X11_10 rfl dX11_synonym_12 ?_
    obtain ⟨hc_15, h⟩ := h
    refine cg_get C (k := 3) (j := 7) (.int (ci S_2 103 b3)) hc_15.1 hc_15.2 (by decide) rfl (by decide) rfl rfl cWs_wsX30 cl_X11_144 rfl dX11_synonym_15 ?_
    refine cg_bipush C (x := nI 10) rfl dX11_synonym_18 ?_
    refine cg_icmp_ge C 33 (by decide) dX11_synonym_20 (fun c_ => ?_) (fun c_ => ?_)
    · have h := h.1 c_
      obtain ⟨hE_, hb_, h⟩ := h
      rw [hE_]
      exact cg_throw2 C hlt hne "no synonym can be told now" ce_X11_116 cei_2 (by decide) dX11_synonym_33 dX11_synonym_36 dX11_synonym_37 dX11_synonym_39 dX11_synonym_42 (by decide) (Nat.le_of_ble_eq_true rfl) hb_ hb_ h
    · have h := h.2 c_
      refine cg_aload_n C (i := 0) rfl 0 rfl dX11_synonym_23 ?_
      obtain ⟨hc_24, h⟩ := h
      obtain ⟨b4, hb_b4, h⟩ := h
      refine cg_get C (k := 11) (j := 0) (.ref b4) hc_24.1 hc_24.2 (by decide) rfl (by decide) rfl (show cV _ 11 0 x0 = _ from congrArg va_rf hb_b4) cWs_wsX110 cl_X11_10 rfl dX11_synonym_24 ?_
      obtain ⟨hc_27, h⟩ := h
      refine cg_get C (k := 3) (j := 8) (.int (ci S_2 104 b4)) hc_27.1 hc_27.2 (by decide) rfl (by decide) rfl rfl cWs_wsX30 cl_X11_136 rfl dX11_synonym_27 ?_
      refine cg_if_eq C 43 (by decide) dX11_synonym_30 (fun c_ => ?_) (fun c_ => ?_)
      · have h := h.1 c_
        refine cg_aload_n C (i := 0) rfl 0 rfl dX11_synonym_43 ?_
        obtain ⟨hc_44, h⟩ := h
        obtain ⟨b5, hb_b5, h⟩ := h
        refine cg_get C (k := 11) (j := 0) (.ref b5) hc_44.1 hc_44.2 (by decide) rfl (by decide) rfl (show cV _ 11 0 x0 = _ from congrArg va_rf hb_b5) cWs_wsX110 cl_X11_10 rfl dX11_synonym_44 ?_
        obtain ⟨hc_47, h⟩ := h
        obtain ⟨mc6, ms7, hm_1, hm_2, h⟩ := h
        refine cg_calli C (t_X3_putPair l mc6 ms7 b5 S_2 dp h) cc_X11_149 hc_47.1 hc_47.2 (by decide) rfl rfl ⟨by decide, by decide⟩ ⟨hm_1, hm_2⟩ rfl (Nat.le_of_ble_eq_true rfl) dX11_synonym_47 (fun r_8 S_8 h => ?_)
        exact h.elim
      · have h := h.2 c_
        obtain ⟨hE_, hb_, h⟩ := h
        rw [hE_]
        exact cg_throw2 C hlt hne "no synonym can be told now" ce_X11_116 cei_2 (by decide) dX11_synonym_33 dX11_synonym_36 dX11_synonym_37 dX11_synonym_39 dX11_synonym_42 (by decide) (Nat.le_of_ble_eq_true rfl) hb_ hb_ h
def kx_X11_checkField (E : String) (Q : cS → Prop) (dp : Nat) (mc ms : Nat) (x0 : Int32) (S : cS) : Prop :=
((x0 < 0 →
  E = "java/lang/IndexOutOfBoundsException" ∧ (0 + 1 ≤ mc ∧ 0 + 6 ≤ ms) ∧ Q S) ∧
 (¬ x0 < 0 →
  ((x0 < ((nI 2)) →
    False) ∧
   (¬ x0 < ((nI 2)) →
    E = "java/lang/IndexOutOfBoundsException" ∧ (0 + 1 ≤ mc ∧ 0 + 6 ≤ ms) ∧ Q S))))
set_option maxHeartbeats 1000000 in
set_option maxRecDepth 20000 in
theorem tx_X11_checkField (l : Launch) (hlt : l.stackTraces = false) (E : String) (mc ms : Nat) (x0 : Int32) (S : cS) (dp : Nat) {P : cS → Prop} (h : kx_X11_checkField E P dp mc ms x0 S) : cMetX E P l yX11_checkField cX11_checkField 1 none 6 mc ms 82 [.int x0] S dp := by
  intro D Y tp sz
  refine cg_bodyX (by decide +kernel) (Nat.le_of_ble_eq_true rfl) ?_
  intro p e s m args below meth c C hne
  generalize va_A (cWd Y S) sz = A at C ⊢
  have C : cC p s m args meth c cX11_checkField 1 none A D Y tp dp RX11 := C
  refine cg_lv (lv' := [(0, .int x0)]) rfl ?_
  unfold kx_X11_checkField at h
  refine cg_iload_n C (i := 0) rfl 0 rfl dX11_checkField_0 ?_
  refine cg_if_lt C 9 (by decide) dX11_checkField_1 (fun c_ => ?_) (fun c_ => ?_)
  · have h := h.1 c_
    obtain ⟨hE_, hb_, h⟩ := h
    rw [hE_]
    exact cg_throw3W C hlt hne "there is no such field" ce_X11_269 cei_3 (by decide) dX11_checkField_9 dX11_checkField_12 dX11_checkField_13 dX11_checkField_16 dX11_checkField_19 (by decide) (Nat.le_of_ble_eq_true rfl) hb_ hb_ h
  · have h := h.2 c_
    refine cg_iload_n C (i := 0) rfl 0 rfl dX11_checkField_4 ?_
    refine cg_iconst C (x := nI 2) rfl dX11_checkField_5 ?_
    refine cg_icmp_lt C 20 (by decide) dX11_checkField_6 (fun c_ => ?_) (fun c_ => ?_)
    · have h := h.1 c_
      exact h.elim
    · have h := h.2 c_
      obtain ⟨hE_, hb_, h⟩ := h
      rw [hE_]
      exact cg_throw3W C hlt hne "there is no such field" ce_X11_269 cei_3 (by decide) dX11_checkField_9 dX11_checkField_12 dX11_checkField_13 dX11_checkField_16 dX11_checkField_19 (by decide) (Nat.le_of_ble_eq_true rfl) hb_ hb_ h
def kx_X11_text (E : String) (Q : cS → Prop) (dp : Nat) (mc ms : Nat) (x0 : Nat) (x1 : Int32) (S : cS) : Prop :=
(((0 ≤ mc ∧ 0 ≤ ms) ∧ (k_X11_checkField (fun S_3 => 
cA S_3 x0 11 ∧ ((∃ b4 : Nat, cr S_3 352 x0 = some b4 ∧ (cA S_3 b4 3 ∧ ((∃ mc5 ms6 : Nat, 0 + mc5 ≤ mc ∧ 0 + ms6 ≤ ms ∧ (k_X3_takePad (fun r_7 S_7 => 
cA S_7 x0 11 ∧ ((∃ b8 : Nat, cr S_7 352 x0 = some b8 ∧ (cA S_7 b8 3 ∧ ((∃ mc9 ms10 : Nat, 0 + mc5 + mc9 ≤ mc ∧ 0 + ms6 + ms10 ≤ ms ∧ (k_X3_tokenise (fun S_11 => 
cA S_11 x0 11 ∧ ((∃ b12 : Nat, cr S_11 353 x0 = some b12 ∧ (cA S_11 b12 0 ∧ ((0 + mc5 + mc9 ≤ mc ∧ 0 + ms6 + ms10 ≤ ms) ∧ (k_X0_putText (fun S_13 => 
cA S_13 r_7 9 ∧ (False)) dp b12 x1 r_7 S_11)))))) dp mc9 ms10 b8 r_7 ((nI 1)) S_7))))))) dp mc5 ms6 b4 S_3))))))) dp x1 S)) ∨
 (∃ mc1 ms2 : Nat, (0 + mc1 ≤ mc ∧ 0 + ms2 ≤ ms) ∧ kx_X11_checkField E Q dp mc1 ms2 x1 S))
set_option maxHeartbeats 1000000 in
set_option maxRecDepth 20000 in
theorem tx_X11_text (l : Launch) (hlt : l.stackTraces = false) (E : String) (mc ms : Nat) (x0 : Nat) (x1 : Int32) (S : cS) (dp : Nat) {P : cS → Prop} (h : kx_X11_text E P dp mc ms x0 x1 S) : cMetX E P l yX11_text cX11_text 3 (some .int) 7 mc ms 113 [.ref x0, .int x1] S dp := by
  intro D Y tp sz
  refine cg_bodyX (by decide +kernel) (Nat.le_of_ble_eq_true rfl) ?_
  intro p e s m args below meth c C hne
  generalize va_A (cWd Y S) sz = A at C ⊢
  have C : cC p s m args meth c cX11_text 3 (some .int) A D Y tp dp RX11 := C
  refine cg_lv (lv' := [(0, .ref x0), (1, .int x1)]) rfl ?_
  unfold kx_X11_text at h
  refine cg_iload_n C (i := 1) rfl 1 rfl dX11_text_0 ?_
  rcases h with h | ⟨mc1, ms2, hm_, h⟩
  · obtain ⟨hb_1, h⟩ := h
    refine cg_callsv C (t_X11_checkField l x1 S dp h) cc_X11_152 rfl ⟨by decide, by decide⟩ hb_1 rfl (Nat.le_of_ble_eq_true rfl) dX11_text_1 (fun S_3 h => ?_)
    simp only [Nat.add_zero]
    refine cg_aload_n C (i := 0) rfl 0 rfl dX11_text_4 ?_
    obtain ⟨hc_5, h⟩ := h
    obtain ⟨b4, hb_b4, h⟩ := h
    refine cg_get C (k := 11) (j := 0) (.ref b4) hc_5.1 hc_5.2 (by decide) rfl (by decide) rfl (show cV _ 11 0 x0 = _ from congrArg va_rf hb_b4) cWs_wsX110 cl_X11_10 rfl dX11_text_5 ?_
    obtain ⟨hc_8, h⟩ := h
    obtain ⟨mc5, ms6, hm_1, hm_2, h⟩ := h
    refine cg_callr C (t_X3_takePad l mc5 ms6 b4 S_3 dp h) cc_X11_125 hc_8.1 hc_8.2 (by decide) rfl rfl ⟨by decide, by decide⟩ ⟨hm_1, hm_2⟩ rfl (Nat.le_of_ble_eq_true rfl) dX11_text_8 (fun r_7 S_7 h => ?_)
    refine cg_astore_n (lv' := [(2, .ref r_7), (0, .ref x0), (1, .int x1)]) C (i := 2) rfl (Nat.le_of_ble_eq_true rfl) rfl dX11_text_11 ?_
    refine cg_aload_n C (i := 0) rfl 1 rfl dX11_text_12 ?_
    obtain ⟨hc_13, h⟩ := h
    obtain ⟨b8, hb_b8, h⟩ := h
    refine cg_get C (k := 11) (j := 0) (.ref b8) hc_13.1 hc_13.2 (by decide) rfl (by decide) rfl (show cV _ 11 0 x0 = _ from congrArg va_rf hb_b8) cWs_wsX110 cl_X11_10 rfl dX11_text_13 ?_
    refine cg_aload_n C (i := 2) rfl 0 rfl dX11_text_16 ?_
    refine cg_iconst C (x := nI 1) rfl dX11_text_17 ?_
    obtain ⟨hc_18, h⟩ := h
    obtain ⟨mc9, ms10, hm_1, hm_2, h⟩ := h
    refine cg_callv C (t_X3_tokenise l mc9 ms10 b8 r_7 ((nI 1)) S_7 dp h) cc_X11_155 hc_18.1 hc_18.2 (by decide) rfl rfl ⟨by decide, by decide⟩ ⟨hm_1, hm_2⟩ rfl (Nat.le_of_ble_eq_true rfl) dX11_text_18 (fun S_11 h => ?_)
    refine cg_aload_n C (i := 0) rfl 1 rfl dX11_text_21 ?_
    obtain ⟨hc_22, h⟩ := h
    obtain ⟨b12, hb_b12, h⟩ := h
    refine cg_get C (k := 11) (j := 1) (.ref b12) hc_22.1 hc_22.2 (by decide) rfl (by decide) rfl (show cV _ 11 1 x0 = _ from congrArg va_rf hb_b12) cWs_wsX110 cl_X11_19 rfl dX11_text_22 ?_
    refine cg_iload_n C (i := 1) rfl 2 rfl dX11_text_25 ?_
    refine cg_aload_n C (i := 2) rfl 0 rfl dX11_text_26 ?_
    obtain ⟨hc_27, h⟩ := h
    obtain ⟨hb_27, h⟩ := h
    refine cg_callv C (t_X0_putText l b12 x1 r_7 S_11 dp h) cc_X11_159 hc_27.1 hc_27.2 (by decide) rfl rfl ⟨by decide, by decide⟩ hb_27 rfl (Nat.le_of_ble_eq_true rfl) dX11_text_27 (fun S_13 h => ?_)
    simp only [Nat.add_zero]
    refine cg_aload_n C (i := 2) rfl 0 rfl dX11_text_30 ?_
    obtain ⟨hc_31, h⟩ := h
    refine cg_get C (k := 9) (j := 4) (.int (ci S_13 292 r_7)) hc_31.1 hc_31.2 (by decide) rfl (by decide) rfl rfl cWs_wsX90 cl_X11_163 rfl dX11_text_31 ?_
    exact h.elim
  · exact cg_callsx C hne (tx_X11_checkField l hlt E mc1 ms2 x1 S dp h) cc_X11_152 rfl ⟨by decide, by decide⟩ hm_ rfl (Nat.le_of_ble_eq_true rfl) dX11_text_1 hm_ (fun _ z => z)
def kx_X11_columns (E : String) (Q : cS → Prop) (dp : Nat) (mc ms : Nat) (x0 : Nat) (x1 : Int32) (x2 : Int32) (S : cS) : Prop :=
((x1 < 0 →
  E = "java/lang/IllegalArgumentException" ∧ (0 + 1 ≤ mc ∧ 0 + 6 ≤ ms) ∧ Q S) ∧
 (¬ x1 < 0 →
  ((((nI 9)) < x1 →
    E = "java/lang/IllegalArgumentException" ∧ (0 + 1 ≤ mc ∧ 0 + 6 ≤ ms) ∧ Q S) ∧
   (¬ ((nI 9)) < x1 →
    ((x2 < 0 →
      E = "java/lang/IllegalArgumentException" ∧ (0 + 1 ≤ mc ∧ 0 + 6 ≤ ms) ∧ Q S) ∧
     (¬ x2 < 0 →
      ((x2 ≤ ((nI 999)) →
        cA S x0 11 ∧ ((∃ b1 : Nat, cr S 353 x0 = some b1 ∧ (cA S b1 0 ∧ (∀ S2 : cS, S2 = cSi S 1 b1 x1 → cA S2 x0 11 ∧ ((∃ b3 : Nat, cr S2 353 x0 = some b3 ∧ (cA S2 b3 0 ∧ (∀ S4 : cS, S4 = cSi S2 2 b3 x2 → False))))))))) ∧
       (¬ x2 ≤ ((nI 999)) →
        E = "java/lang/IllegalArgumentException" ∧ (0 + 1 ≤ mc ∧ 0 + 6 ≤ ms) ∧ Q S))))))))
set_option maxHeartbeats 1000000 in
set_option maxRecDepth 20000 in
theorem tx_X11_columns (l : Launch) (hlt : l.stackTraces = false) (E : String) (mc ms : Nat) (x0 : Nat) (x1 : Int32) (x2 : Int32) (S : cS) (dp : Nat) {P : cS → Prop} (h : kx_X11_columns E P dp mc ms x0 x1 x2 S) : cMetX E P l yX11_columns cX11_columns 3 none 6 mc ms 82 [.ref x0, .int x1, .int x2] S dp := by
  intro D Y tp sz
  refine cg_bodyX (by decide +kernel) (Nat.le_of_ble_eq_true rfl) ?_
  intro p e s m args below meth c C hne
  generalize va_A (cWd Y S) sz = A at C ⊢
  have C : cC p s m args meth c cX11_columns 3 none A D Y tp dp RX11 := C
  refine cg_lv (lv' := [(0, .ref x0), (1, .int x1), (2, .int x2)]) rfl ?_
  unfold kx_X11_columns at h
  refine cg_iload_n C (i := 1) rfl 1 rfl dX11_columns_0 ?_
  refine cg_if_lt C 21 (by decide) dX11_columns_1 (fun c_ => ?_) (fun c_ => ?_)
  · have h := h.1 c_
    obtain ⟨hE_, hb_, h⟩ := h
    rw [hE_]
    exact cg_throw1 C hlt hne "the category or the number is out of range" ce_X11_100 cei_1 (by decide) dX11_columns_21 dX11_columns_24 dX11_columns_25 dX11_columns_27 dX11_columns_30 (by decide) (Nat.le_of_ble_eq_true rfl) hb_ hb_ h
  · have h := h.2 c_
    refine cg_iload_n C (i := 1) rfl 1 rfl dX11_columns_4 ?_
    refine cg_bipush C (x := nI 9) rfl dX11_columns_5 ?_
    refine cg_icmp_gt C 21 (by decide) dX11_columns_7 (fun c_ => ?_) (fun c_ => ?_)
    · have h := h.1 c_
      obtain ⟨hE_, hb_, h⟩ := h
      rw [hE_]
      exact cg_throw1 C hlt hne "the category or the number is out of range" ce_X11_100 cei_1 (by decide) dX11_columns_21 dX11_columns_24 dX11_columns_25 dX11_columns_27 dX11_columns_30 (by decide) (Nat.le_of_ble_eq_true rfl) hb_ hb_ h
    · have h := h.2 c_
      refine cg_iload_n C (i := 2) rfl 2 rfl dX11_columns_10 ?_
      refine cg_if_lt C 21 (by decide) dX11_columns_11 (fun c_ => ?_) (fun c_ => ?_)
      · have h := h.1 c_
        obtain ⟨hE_, hb_, h⟩ := h
        rw [hE_]
        exact cg_throw1 C hlt hne "the category or the number is out of range" ce_X11_100 cei_1 (by decide) dX11_columns_21 dX11_columns_24 dX11_columns_25 dX11_columns_27 dX11_columns_30 (by decide) (Nat.le_of_ble_eq_true rfl) hb_ hb_ h
      · have h := h.2 c_
        refine cg_iload_n C (i := 2) rfl 2 rfl dX11_columns_14 ?_
        refine cg_sipush C (x := nI 999) rfl dX11_columns_15 ?_
        refine cg_icmp_le C 31 (by decide) dX11_columns_18 (fun c_ => ?_) (fun c_ => ?_)
        · have h := h.1 c_
          refine cg_aload_n C (i := 0) rfl 0 rfl dX11_columns_31 ?_
          obtain ⟨hc_32, h⟩ := h
          obtain ⟨b1, hb_b1, h⟩ := h
          refine cg_get C (k := 11) (j := 1) (.ref b1) hc_32.1 hc_32.2 (by decide) rfl (by decide) rfl (show cV _ 11 1 x0 = _ from congrArg va_rf hb_b1) cWs_wsX110 cl_X11_19 rfl dX11_columns_32 ?_
          refine cg_iload_n C (i := 1) rfl 1 rfl dX11_columns_35 ?_
          obtain ⟨hc_36, h⟩ := h
          refine cg_puti C (k := 0) (j := 1) (ty := tyX0) (fty := .int) hc_36.1 hc_36.2 (by decide) rfl (by decide) rfl (by decide) rfl cWs_wsX00 tyX0_ok nmX0 cl_X11_168 rfl rfl rfl rfl rfl dX11_columns_36 ?_
          refine cg_nm (fun S2 e_S2 => ?_)
          have h := h S2 e_S2
          refine cg_aload_n C (i := 0) rfl 0 rfl dX11_columns_39 ?_
          obtain ⟨hc_40, h⟩ := h
          obtain ⟨b3, hb_b3, h⟩ := h
          refine cg_get C (k := 11) (j := 1) (.ref b3) hc_40.1 hc_40.2 (by decide) rfl (by decide) rfl (show cV _ 11 1 x0 = _ from congrArg va_rf hb_b3) cWs_wsX110 cl_X11_19 rfl dX11_columns_40 ?_
          refine cg_iload_n C (i := 2) rfl 2 rfl dX11_columns_43 ?_
          obtain ⟨hc_44, h⟩ := h
          refine cg_puti C (k := 0) (j := 2) (ty := tyX0) (fty := .int) hc_44.1 hc_44.2 (by decide) rfl (by decide) rfl (by decide) rfl cWs_wsX00 tyX0_ok nmX0 cl_X11_171 rfl rfl rfl rfl rfl dX11_columns_44 ?_
          refine cg_nm (fun S4 e_S4 => ?_)
          have h := h S4 e_S4
          exact h.elim
        · have h := h.2 c_
          obtain ⟨hE_, hb_, h⟩ := h
          rw [hE_]
          exact cg_throw1 C hlt hne "the category or the number is out of range" ce_X11_100 cei_1 (by decide) dX11_columns_21 dX11_columns_24 dX11_columns_25 dX11_columns_27 dX11_columns_30 (by decide) (Nat.le_of_ble_eq_true rfl) hb_ hb_ h
def kx_X11_checkKey (E : String) (Q : cS → Prop) (dp : Nat) (mc ms : Nat) (x0 : Int32) (S : cS) : Prop :=
((x0 < 0 →
  E = "java/lang/IndexOutOfBoundsException" ∧ (0 + 1 ≤ mc ∧ 0 + 6 ≤ ms) ∧ Q S) ∧
 (¬ x0 < 0 →
  ((x0 < ((nI 100)) →
    False) ∧
   (¬ x0 < ((nI 100)) →
    E = "java/lang/IndexOutOfBoundsException" ∧ (0 + 1 ≤ mc ∧ 0 + 6 ≤ ms) ∧ Q S))))
set_option maxHeartbeats 1000000 in
set_option maxRecDepth 20000 in
theorem tx_X11_checkKey (l : Launch) (hlt : l.stackTraces = false) (E : String) (mc ms : Nat) (x0 : Int32) (S : cS) (dp : Nat) {P : cS → Prop} (h : kx_X11_checkKey E P dp mc ms x0 S) : cMetX E P l yX11_checkKey cX11_checkKey 1 none 6 mc ms 82 [.int x0] S dp := by
  intro D Y tp sz
  refine cg_bodyX (by decide +kernel) (Nat.le_of_ble_eq_true rfl) ?_
  intro p e s m args below meth c C hne
  generalize va_A (cWd Y S) sz = A at C ⊢
  have C : cC p s m args meth c cX11_checkKey 1 none A D Y tp dp RX11 := C
  refine cg_lv (lv' := [(0, .int x0)]) rfl ?_
  unfold kx_X11_checkKey at h
  refine cg_iload_n C (i := 0) rfl 0 rfl dX11_checkKey_0 ?_
  refine cg_if_lt C 10 (by decide) dX11_checkKey_1 (fun c_ => ?_) (fun c_ => ?_)
  · have h := h.1 c_
    obtain ⟨hE_, hb_, h⟩ := h
    rw [hE_]
    exact cg_throw3W C hlt hne "there is no such key" ce_X11_269 cei_3 (by decide) dX11_checkKey_10 dX11_checkKey_13 dX11_checkKey_14 dX11_checkKey_17 dX11_checkKey_20 (by decide) (Nat.le_of_ble_eq_true rfl) hb_ hb_ h
  · have h := h.2 c_
    refine cg_iload_n C (i := 0) rfl 0 rfl dX11_checkKey_4 ?_
    refine cg_bipush C (x := nI 100) rfl dX11_checkKey_5 ?_
    refine cg_icmp_lt C 21 (by decide) dX11_checkKey_7 (fun c_ => ?_) (fun c_ => ?_)
    · have h := h.1 c_
      exact h.elim
    · have h := h.2 c_
      obtain ⟨hE_, hb_, h⟩ := h
      rw [hE_]
      exact cg_throw3W C hlt hne "there is no such key" ce_X11_269 cei_3 (by decide) dX11_checkKey_10 dX11_checkKey_13 dX11_checkKey_14 dX11_checkKey_17 dX11_checkKey_20 (by decide) (Nat.le_of_ble_eq_true rfl) hb_ hb_ h
def kx_X11_checkUp (E : String) (Q : cS → Prop) (dp : Nat) (mc ms : Nat) (x0 : Nat) (S : cS) : Prop :=
cA S x0 11 ∧ (((((ci S 370 x0)) = 0 →
  False) ∧
 (¬ ((ci S 370 x0)) = 0 →
  E = "java/lang/IllegalStateException" ∧ (0 + 1 ≤ mc ∧ 0 + 6 ≤ ms) ∧ Q S)))
set_option maxHeartbeats 1000000 in
set_option maxRecDepth 20000 in
theorem tx_X11_checkUp (l : Launch) (hlt : l.stackTraces = false) (E : String) (mc ms : Nat) (x0 : Nat) (S : cS) (dp : Nat) {P : cS → Prop} (h : kx_X11_checkUp E P dp mc ms x0 S) : cMetX E P l yX11_checkUp cX11_checkUp 1 none 6 mc ms 82 [.ref x0] S dp := by
  intro D Y tp sz
  refine cg_bodyX (by decide +kernel) (Nat.le_of_ble_eq_true rfl) ?_
  intro p e s m args below meth c C hne
  generalize va_A (cWd Y S) sz = A at C ⊢
  have C : cC p s m args meth c cX11_checkUp 1 none A D Y tp dp RX11 := C
  refine cg_lv (lv' := [(0, .ref x0)]) rfl ?_
  unfold kx_X11_checkUp at h
  refine cg_aload_n C (i := 0) rfl 0 rfl dX11_checkUp_0 ?_
  obtain ⟨hc_1, h⟩ := h
  refine cg_get C (k := 11) (j := 18) (.int (ci S 370 x0)) hc_1.1 hc_1.2 (by decide) rfl (by decide) rfl rfl cWs_wsX110 cl_X11_96 rfl dX11_checkUp_1 ?_
  refine cg_if_eq C 18 (by decide) dX11_checkUp_4 (fun c_ => ?_) (fun c_ => ?_)
  · have h := h.1 c_
    exact h.elim
  · have h := h.2 c_
    obtain ⟨hE_, hb_, h⟩ := h
    rw [hE_]
    exact cg_throw2W C hlt hne "the machine is DOWN" ce_X11_116 cei_2 (by decide) dX11_checkUp_7 dX11_checkUp_10 dX11_checkUp_11 dX11_checkUp_14 dX11_checkUp_17 (by decide) (Nat.le_of_ble_eq_true rfl) hb_ hb_ h
def kx_X11_add_39 (E : String) (Q : cS → Prop) (dp : Nat) (mc ms : Nat)  (x0 : Nat) (x1 : Int32) (cd dd : Nat) (S : cS) : Prop :=
cA S x0 11 ∧ ((cd ≤ mc ∧ dd ≤ ms) ∧ (k_X11_dropKey (fun r_9 S_9 => 
cA S_9 x0 11 ∧ ((∃ b10 : Nat, cr S_9 352 x0 = some b10 ∧ (cA S_9 b10 3 ∧ (∀ S11 : cS, S11 = cSi S_9 104 b10 ((bI true)) → cA S11 x0 11 ∧ ((∃ b12 : Nat, cr S11 353 x0 = some b12 ∧ (cA S11 b12 0 ∧ (∀ S13 : cS, S13 = cSi S11 0 b12 x1 → cA S13 x0 11 ∧ ((∃ b14 : Nat, cr S13 352 x0 = some b14 ∧ (cA S13 x0 11 ∧ ((∃ b15 : Nat, cr S13 353 x0 = some b15 ∧ (cA S13 b15 0 ∧ ((cd ≤ mc ∧ dd ≤ ms) ∧ (k_X0_textOf (fun r_16 S_16 => 
cA S_16 b14 3 ∧ ((∃ mc17 ms18 : Nat, cd + mc17 ≤ mc ∧ dd + ms18 ≤ ms ∧ (k_X3_tokenise (fun S_19 => 
cA S_19 x0 11 ∧ ((∃ b20 : Nat, cr S_19 352 x0 = some b20 ∧ (cA S_19 x0 11 ∧ ((∃ b21 : Nat, cr S_19 353 x0 = some b21 ∧ (cA S_19 b21 0 ∧ ((cd + mc17 ≤ mc ∧ dd + ms18 ≤ ms) ∧ (k_X0_textOf (fun r_22 S_22 => 
cA S_22 b20 3 ∧ ((∃ mc23 ms24 : Nat, cd + mc17 + mc23 ≤ mc ∧ dd + ms18 + ms24 ≤ ms ∧ (k_X3_tokenise (fun S_25 => 
cA S_25 x0 11 ∧ ((∃ b26 : Nat, cr S_25 354 x0 = some b26 ∧ (cA S_25 x0 11 ∧ ((∃ b27 : Nat, cr S_25 353 x0 = some b27 ∧ (cA S_25 b26 12 ∧ ((∃ mc28 ms29 : Nat, cd + mc17 + mc23 + mc28 ≤ mc ∧ dd + ms18 + ms24 + ms29 ≤ ms ∧ (k_Jx4a65c_add_9ea2d (fun r_30 S_30 => 
(cd + mc17 + mc23 + mc28 + 1 ≤ mc ∧ dd + ms18 + ms24 + ms29 + 5 ≤ ms) ∧ (∀ q31 : Nat, q31 ∉ cL S_30 → ∀ S32 : cS, S32 = cNew S_30 q31 0 → (∃ mc33 ms34 : Nat, cd + mc17 + mc23 + mc28 + 1 + mc33 ≤ mc ∧ dd + ms18 + ms24 + ms29 + 5 + ms34 ≤ ms ∧ (k_X0_init (fun S_35 => 
cA S_35 x0 11 ∧ (∀ S36 : cS, S36 = cSr S_35 353 x0 ((some q31)) → cA S36 x0 11 ∧ ((∃ b37 : Nat, cr S36 354 x0 = some b37 ∧ (cA S36 b37 12 ∧ ((cd + mc17 + mc23 + mc28 + 1 + mc33 ≤ mc ∧ dd + ms18 + ms24 + ms29 + 5 + ms34 ≤ ms) ∧ (k_Jx4a65c_size_8abf5 (fun r_38 S_38 => 
False) dp b37 S36))))))) dp mc33 ms34 q31 S32)))) dp mc28 ms29 b26 b27 S_25)))))))))) dp mc23 ms24 b20 r_22 ((nI 1)) S_22)))) dp b21 ((nI 1)) S_19))))))))) dp mc17 ms18 b14 r_16 ((nI 1)) S_16)))) dp b15 ((nI 0)) S13))))))))))))))))) dp x0 x1 S))
def kx_X11_add (E : String) (Q : cS → Prop) (dp : Nat) (mc ms : Nat) (x0 : Nat) (x1 : Int32) (S : cS) : Prop :=
(((0 ≤ mc ∧ 0 ≤ ms) ∧ (k_X11_checkKey (fun S_3 => 
cA S_3 x0 11 ∧ ((((0 ≤ mc ∧ 0 ≤ ms) ∧ (k_X11_checkUp (fun S_6 => 
cA S_6 x0 11 ∧ ((∃ b7 : Nat, cr S_6 354 x0 = some b7 ∧ (cA S_6 b7 12 ∧ ((0 ≤ mc ∧ 0 ≤ ms) ∧ (k_Jx4a65c_size_8abf5 (fun r_8 S_8 => 
((r_8 < ((nI 12)) →
  kx_X11_add_39 E Q dp mc ms  x0 x1 0 0 S_8) ∧
 (¬ r_8 < ((nI 12)) →
  cA S_8 x0 11 ∧ ((0 ≤ mc ∧ 0 ≤ ms) ∧ (k_X11_bufferPlaceOf (fun r_39 S_39 => 
  ((¬ r_39 = (((-1))) →
    kx_X11_add_39 E Q dp mc ms  x0 x1 0 0 S_39) ∧
   (r_39 = (((-1))) →
    E = "java/lang/IllegalStateException" ∧ (0 + 1 ≤ mc ∧ 0 + 6 ≤ ms) ∧ Q S_39))) dp x0 x1 S_8))))) dp b7 S_6)))))) dp x0 S_3)) ∨
 (∃ mc4 ms5 : Nat, (0 + mc4 ≤ mc ∧ 0 + ms5 ≤ ms) ∧ kx_X11_checkUp E Q dp mc4 ms5 x0 S_3)))) dp x1 S)) ∨
 (∃ mc1 ms2 : Nat, (0 + mc1 ≤ mc ∧ 0 + ms2 ≤ ms) ∧ kx_X11_checkKey E Q dp mc1 ms2 x1 S))
section Sx_X11_add
variable {p : Program} {l : Launch} {e : Env} {s : State} {m : MethodId} {args : Array Value} {below : List Frame} {meth : Method} {c : Code} {A : Nat → Prop} {D : va_G} {Y : cY} {tp dp : Nat}
set_option maxRecDepth 20000 in
theorem tbx_X11_add_39 {E : String} {mc ms : Nat} (C : cC p s m args meth c cX11_add 2 (some .int) A D Y tp dp RX11) (hlt : l.stackTraces = false) (hne : ∀ x ∈ c.exceptionTable.toList, False) {post : cS → Prop}   (x0 : Nat) (x1 : Int32) (cd dd : Nat) (S : cS) (h : kx_X11_add_39 E post dp mc ms  x0 x1 cd dd S) : cG p l e (cRm 8 mc ms 188) s m args below meth c A D Y 2 (vx_MQ below (fun _ _ _ _ => False) (cXB E post D Y A) args s mc ms A) cd dd 39 [(0, .ref x0), (1, .int x1)] [] S := by
  unfold kx_X11_add_39 at h
  refine cg_aload_n C (i := 0) rfl 0 rfl dX11_add_39 ?_
  refine cg_iload_n C (i := 1) rfl 1 rfl dX11_add_40 ?_
  obtain ⟨hc_41, h⟩ := h
  obtain ⟨hb_41, h⟩ := h
  refine cg_calli C (t_X11_dropKey l x0 x1 S dp h) cc_X11_189 hc_41.1 hc_41.2 (by decide) rfl rfl ⟨by decide, by decide⟩ hb_41 rfl (Nat.le_of_ble_eq_true rfl) dX11_add_41 (fun r_9 S_9 h => ?_)
  simp only [Nat.add_zero]
  refine cg_pop C rfl dX11_add_44 ?_
  refine cg_aload_n C (i := 0) rfl 0 rfl dX11_add_45 ?_
  obtain ⟨hc_46, h⟩ := h
  obtain ⟨b10, hb_b10, h⟩ := h
  refine cg_get C (k := 11) (j := 0) (.ref b10) hc_46.1 hc_46.2 (by decide) rfl (by decide) rfl (show cV _ 11 0 x0 = _ from congrArg va_rf hb_b10) cWs_wsX110 cl_X11_10 rfl dX11_add_46 ?_
  refine cg_iconst C (x := nI 1) rfl dX11_add_49 ?_
  obtain ⟨hc_50, h⟩ := h
  refine cg_cast (.int (bI true)) rfl ?_
  refine cg_puti C (k := 3) (j := 8) (ty := tyX3) (fty := .boolean) hc_50.1 hc_50.2 (by decide) rfl (by decide) rfl (by decide) rfl cWs_wsX30 tyX3_ok nmX3 cl_X11_136 rfl rfl rfl (bI_nar _) (bI_fit _) dX11_add_50 ?_
  refine cg_nm (fun S11 e_S11 => ?_)
  have h := h S11 e_S11
  refine cg_aload_n C (i := 0) rfl 0 rfl dX11_add_53 ?_
  obtain ⟨hc_54, h⟩ := h
  obtain ⟨b12, hb_b12, h⟩ := h
  refine cg_get C (k := 11) (j := 1) (.ref b12) hc_54.1 hc_54.2 (by decide) rfl (by decide) rfl (show cV _ 11 1 x0 = _ from congrArg va_rf hb_b12) cWs_wsX110 cl_X11_19 rfl dX11_add_54 ?_
  refine cg_iload_n C (i := 1) rfl 1 rfl dX11_add_57 ?_
  obtain ⟨hc_58, h⟩ := h
  refine cg_puti C (k := 0) (j := 0) (ty := tyX0) (fty := .int) hc_58.1 hc_58.2 (by decide) rfl (by decide) rfl (by decide) rfl cWs_wsX00 tyX0_ok nmX0 cl_X11_193 rfl rfl rfl rfl rfl dX11_add_58 ?_
  refine cg_nm (fun S13 e_S13 => ?_)
  have h := h S13 e_S13
  refine cg_aload_n C (i := 0) rfl 0 rfl dX11_add_61 ?_
  obtain ⟨hc_62, h⟩ := h
  obtain ⟨b14, hb_b14, h⟩ := h
  refine cg_get C (k := 11) (j := 0) (.ref b14) hc_62.1 hc_62.2 (by decide) rfl (by decide) rfl (show cV _ 11 0 x0 = _ from congrArg va_rf hb_b14) cWs_wsX110 cl_X11_10 rfl dX11_add_62 ?_
  refine cg_aload_n C (i := 0) rfl 0 rfl dX11_add_65 ?_
  obtain ⟨hc_66, h⟩ := h
  obtain ⟨b15, hb_b15, h⟩ := h
  refine cg_get C (k := 11) (j := 1) (.ref b15) hc_66.1 hc_66.2 (by decide) rfl (by decide) rfl (show cV _ 11 1 x0 = _ from congrArg va_rf hb_b15) cWs_wsX110 cl_X11_19 rfl dX11_add_66 ?_
  refine cg_iconst C (x := nI 0) rfl dX11_add_69 ?_
  obtain ⟨hc_70, h⟩ := h
  obtain ⟨hb_70, h⟩ := h
  refine cg_callr C (t_X0_textOf l b15 ((nI 0)) S13 dp h) cc_X11_196 hc_70.1 hc_70.2 (by decide) rfl rfl ⟨by decide, by decide⟩ hb_70 rfl (Nat.le_of_ble_eq_true rfl) dX11_add_70 (fun r_16 S_16 h => ?_)
  simp only [Nat.add_zero]
  refine cg_iconst C (x := nI 1) rfl dX11_add_73 ?_
  obtain ⟨hc_74, h⟩ := h
  obtain ⟨mc17, ms18, hm_1, hm_2, h⟩ := h
  refine cg_callv C (t_X3_tokenise l mc17 ms18 b14 r_16 ((nI 1)) S_16 dp h) cc_X11_155 hc_74.1 hc_74.2 (by decide) rfl rfl ⟨by decide, by decide⟩ ⟨hm_1, hm_2⟩ rfl (Nat.le_of_ble_eq_true rfl) dX11_add_74 (fun S_19 h => ?_)
  refine cg_aload_n C (i := 0) rfl 0 rfl dX11_add_77 ?_
  obtain ⟨hc_78, h⟩ := h
  obtain ⟨b20, hb_b20, h⟩ := h
  refine cg_get C (k := 11) (j := 0) (.ref b20) hc_78.1 hc_78.2 (by decide) rfl (by decide) rfl (show cV _ 11 0 x0 = _ from congrArg va_rf hb_b20) cWs_wsX110 cl_X11_10 rfl dX11_add_78 ?_
  refine cg_aload_n C (i := 0) rfl 0 rfl dX11_add_81 ?_
  obtain ⟨hc_82, h⟩ := h
  obtain ⟨b21, hb_b21, h⟩ := h
  refine cg_get C (k := 11) (j := 1) (.ref b21) hc_82.1 hc_82.2 (by decide) rfl (by decide) rfl (show cV _ 11 1 x0 = _ from congrArg va_rf hb_b21) cWs_wsX110 cl_X11_19 rfl dX11_add_82 ?_
  refine cg_iconst C (x := nI 1) rfl dX11_add_85 ?_
  obtain ⟨hc_86, h⟩ := h
  obtain ⟨hb_86, h⟩ := h
  refine cg_callr C (t_X0_textOf l b21 ((nI 1)) S_19 dp h) cc_X11_196 hc_86.1 hc_86.2 (by decide) rfl rfl ⟨by decide, by decide⟩ hb_86 rfl (Nat.le_of_ble_eq_true rfl) dX11_add_86 (fun r_22 S_22 h => ?_)
  simp only [Nat.add_zero]
  refine cg_iconst C (x := nI 1) rfl dX11_add_89 ?_
  obtain ⟨hc_90, h⟩ := h
  obtain ⟨mc23, ms24, hm_1, hm_2, h⟩ := h
  refine cg_callv C (t_X3_tokenise l mc23 ms24 b20 r_22 ((nI 1)) S_22 dp h) cc_X11_155 hc_90.1 hc_90.2 (by decide) rfl rfl ⟨by decide, by decide⟩ ⟨hm_1, hm_2⟩ rfl (Nat.le_of_ble_eq_true rfl) dX11_add_90 (fun S_25 h => ?_)
  refine cg_aload_n C (i := 0) rfl 0 rfl dX11_add_93 ?_
  obtain ⟨hc_94, h⟩ := h
  obtain ⟨b26, hb_b26, h⟩ := h
  refine cg_get C (k := 11) (j := 2) (.ref b26) hc_94.1 hc_94.2 (by decide) rfl (by decide) rfl (show cV _ 11 2 x0 = _ from congrArg va_rf hb_b26) cWs_wsX110 cl_X11_26 rfl dX11_add_94 ?_
  refine cg_aload_n C (i := 0) rfl 0 rfl dX11_add_97 ?_
  obtain ⟨hc_98, h⟩ := h
  obtain ⟨b27, hb_b27, h⟩ := h
  refine cg_get C (k := 11) (j := 1) (.ref b27) hc_98.1 hc_98.2 (by decide) rfl (by decide) rfl (show cV _ 11 1 x0 = _ from congrArg va_rf hb_b27) cWs_wsX110 cl_X11_19 rfl dX11_add_98 ?_
  obtain ⟨hc_101, h⟩ := h
  obtain ⟨mc28, ms29, hm_1, hm_2, h⟩ := h
  refine cg_calli C (t_Jx4a65c_add_9ea2d l mc28 ms29 b26 b27 S_25 dp h) cc_X11_200 hc_101.1 hc_101.2 (by decide) rfl rfl ⟨by decide, by decide⟩ ⟨hm_1, hm_2⟩ rfl (Nat.le_of_ble_eq_true rfl) dX11_add_101 (fun r_30 S_30 h => ?_)
  refine cg_pop C rfl dX11_add_104 ?_
  refine cg_aload_n C (i := 0) rfl 0 rfl dX11_add_105 ?_
  obtain ⟨hc_106, h⟩ := h
  refine cg_new C (k := 0) (N := 5) (fs := [.int 0, .int 0, .int 0, .null, .null]) (by decide) rfl cWs_wsX00 tyX0_ok cn_X11_16 ci_X0 ct_X0 (fun j_ hj_ => by rcases (show j_ = 0 ∨ j_ = 1 ∨ j_ = 2 ∨ j_ = 3 ∨ j_ = 4 by omega) with rfl | rfl | rfl | rfl | rfl <;> rfl) rfl hc_106.1 hc_106.2 dX11_add_106 (fun q31 hf_q31 => ?_)
  have h := h q31 hf_q31
  refine cg_nm (fun S32 e_S32 => ?_)
  have h := h S32 e_S32
  refine cg_dup C rfl dX11_add_109 ?_
  obtain ⟨mc33, ms34, hm_1, hm_2, h⟩ := h
  refine cg_callIN C (t_X0_init l mc33 ms34 q31 S32 dp h) czn_X11_18 rfl ⟨by decide, by decide⟩ ⟨hm_1, hm_2⟩ rfl (Nat.le_of_ble_eq_true rfl) dX11_add_110 (fun S_35 h => ?_)
  obtain ⟨hc_113, h⟩ := h
  refine cg_putr C (k := 11) (j := 1) (x := (some q31)) (ty := tyX11) (fty := tyX11 1) hc_113.1 hc_113.2 (by decide) rfl (by decide) rfl (by decide) rfl cWs_wsX110 tyX11_ok nmX11 cl_X11_19 rfl rfl rfl rfl rfl dX11_add_113 ?_
  refine cg_nm (fun S36 e_S36 => ?_)
  have h := h S36 e_S36
  refine cg_aload_n C (i := 0) rfl 0 rfl dX11_add_116 ?_
  obtain ⟨hc_117, h⟩ := h
  obtain ⟨b37, hb_b37, h⟩ := h
  refine cg_get C (k := 11) (j := 2) (.ref b37) hc_117.1 hc_117.2 (by decide) rfl (by decide) rfl (show cV _ 11 2 x0 = _ from congrArg va_rf hb_b37) cWs_wsX110 cl_X11_26 rfl dX11_add_117 ?_
  obtain ⟨hc_120, h⟩ := h
  obtain ⟨hb_120, h⟩ := h
  refine cg_calli C (t_Jx4a65c_size_8abf5 l b37 S36 dp h) cc_X11_180 hc_120.1 hc_120.2 (by decide) rfl rfl ⟨by decide, by decide⟩ hb_120 rfl (Nat.le_of_ble_eq_true rfl) dX11_add_120 (fun r_38 S_38 h => ?_)
  simp only [Nat.add_zero]
  exact h.elim
end Sx_X11_add
set_option maxHeartbeats 1000000 in
set_option maxRecDepth 20000 in
theorem tx_X11_add (l : Launch) (hlt : l.stackTraces = false) (E : String) (mc ms : Nat) (x0 : Nat) (x1 : Int32) (S : cS) (dp : Nat) {P : cS → Prop} (h : kx_X11_add E P dp mc ms x0 x1 S) : cMetX E P l yX11_add cX11_add 2 (some .int) 8 mc ms 188 [.ref x0, .int x1] S dp := by
  intro D Y tp sz
  refine cg_bodyX (by decide +kernel) (Nat.le_of_ble_eq_true rfl) ?_
  intro p e s m args below meth c C hne
  generalize va_A (cWd Y S) sz = A at C ⊢
  have C : cC p s m args meth c cX11_add 2 (some .int) A D Y tp dp RX11 := C
  refine cg_lv (lv' := [(0, .ref x0), (1, .int x1)]) rfl ?_
  unfold kx_X11_add at h
  refine cg_iload_n C (i := 1) rfl 1 rfl dX11_add_0 ?_
  rcases h with h | ⟨mc1, ms2, hm_, h⟩
  · obtain ⟨hb_1, h⟩ := h
    refine cg_callsv C (t_X11_checkKey l x1 S dp h) cc_X11_174 rfl ⟨by decide, by decide⟩ hb_1 rfl (Nat.le_of_ble_eq_true rfl) dX11_add_1 (fun S_3 h => ?_)
    simp only [Nat.add_zero]
    refine cg_aload_n C (i := 0) rfl 0 rfl dX11_add_4 ?_
    obtain ⟨hc_5, h⟩ := h
    rcases h with h | ⟨mc4, ms5, hm_, h⟩
    · obtain ⟨hb_5, h⟩ := h
      refine cg_callv C (t_X11_checkUp l x0 S_3 dp h) cc_X11_177 hc_5.1 hc_5.2 (by decide) rfl rfl ⟨by decide, by decide⟩ hb_5 rfl (Nat.le_of_ble_eq_true rfl) dX11_add_5 (fun S_6 h => ?_)
      simp only [Nat.add_zero]
      refine cg_aload_n C (i := 0) rfl 0 rfl dX11_add_8 ?_
      obtain ⟨hc_9, h⟩ := h
      obtain ⟨b7, hb_b7, h⟩ := h
      refine cg_get C (k := 11) (j := 2) (.ref b7) hc_9.1 hc_9.2 (by decide) rfl (by decide) rfl (show cV _ 11 2 x0 = _ from congrArg va_rf hb_b7) cWs_wsX110 cl_X11_26 rfl dX11_add_9 ?_
      obtain ⟨hc_12, h⟩ := h
      obtain ⟨hb_12, h⟩ := h
      refine cg_calli C (t_Jx4a65c_size_8abf5 l b7 S_6 dp h) cc_X11_180 hc_12.1 hc_12.2 (by decide) rfl rfl ⟨by decide, by decide⟩ hb_12 rfl (Nat.le_of_ble_eq_true rfl) dX11_add_12 (fun r_8 S_8 h => ?_)
      simp only [Nat.add_zero]
      refine cg_bipush C (x := nI 12) rfl dX11_add_15 ?_
      refine cg_icmp_lt C 39 (by decide) dX11_add_17 (fun c_ => ?_) (fun c_ => ?_)
      · have h := h.1 c_
        exact cg_sub [0, 1] rfl (tbx_X11_add_39 C hlt hne  x0 x1 0 0 S_8 h)
      · have h := h.2 c_
        refine cg_aload_n C (i := 0) rfl 0 rfl dX11_add_20 ?_
        refine cg_iload_n C (i := 1) rfl 1 rfl dX11_add_21 ?_
        obtain ⟨hc_22, h⟩ := h
        obtain ⟨hb_22, h⟩ := h
        refine cg_calli C (t_X11_bufferPlaceOf l x0 x1 S_8 dp h) cc_X11_183 hc_22.1 hc_22.2 (by decide) rfl rfl ⟨by decide, by decide⟩ hb_22 rfl (Nat.le_of_ble_eq_true rfl) dX11_add_22 (fun r_39 S_39 h => ?_)
        simp only [Nat.add_zero]
        refine cg_iconst C (x := (-1)) rfl dX11_add_25 ?_
        refine cg_icmp_ne C 39 (by decide) dX11_add_26 (fun c_ => ?_) (fun c_ => ?_)
        · have h := h.1 c_
          exact cg_sub [0, 1] rfl (tbx_X11_add_39 C hlt hne  x0 x1 0 0 S_39 h)
        · have h := h.2 c_
          obtain ⟨hE_, hb_, h⟩ := h
          rw [hE_]
          exact cg_throw2 C hlt hne "the buffer is full" ce_X11_116 cei_2 (by decide) dX11_add_29 dX11_add_32 dX11_add_33 dX11_add_35 dX11_add_38 (by decide) (Nat.le_of_ble_eq_true rfl) hb_ hb_ h
    · exact cg_callx C hne (tx_X11_checkUp l hlt E mc4 ms5 x0 S_3 dp h) cc_X11_177 hc_5.1 hc_5.2 (by decide) rfl rfl ⟨by decide, by decide⟩ hm_ rfl (Nat.le_of_ble_eq_true rfl) dX11_add_5 hm_ (fun _ z => z)
  · exact cg_callsx C hne (tx_X11_checkKey l hlt E mc1 ms2 x1 S dp h) cc_X11_174 rfl ⟨by decide, by decide⟩ hm_ rfl (Nat.le_of_ble_eq_true rfl) dX11_add_1 hm_ (fun _ z => z)
def kx_X11_delete (E : String) (Q : cS → Prop) (dp : Nat) (mc ms : Nat) (x0 : Nat) (x1 : Int32) (S : cS) : Prop :=
(((0 ≤ mc ∧ 0 ≤ ms) ∧ (k_X11_checkKey (fun S_3 => 
cA S_3 x0 11 ∧ ((((0 ≤ mc ∧ 0 ≤ ms) ∧ (k_X11_checkUp (fun S_6 => 
cA S_6 x0 11 ∧ ((0 ≤ mc ∧ 0 ≤ ms) ∧ (k_X11_dropKey (fun r_7 S_7 => 
False) dp x0 x1 S_6))) dp x0 S_3)) ∨
 (∃ mc4 ms5 : Nat, (0 + mc4 ≤ mc ∧ 0 + ms5 ≤ ms) ∧ kx_X11_checkUp E Q dp mc4 ms5 x0 S_3)))) dp x1 S)) ∨
 (∃ mc1 ms2 : Nat, (0 + mc1 ≤ mc ∧ 0 + ms2 ≤ ms) ∧ kx_X11_checkKey E Q dp mc1 ms2 x1 S))
set_option maxHeartbeats 1000000 in
set_option maxRecDepth 20000 in
theorem tx_X11_delete (l : Launch) (hlt : l.stackTraces = false) (E : String) (mc ms : Nat) (x0 : Nat) (x1 : Int32) (S : cS) (dp : Nat) {P : cS → Prop} (h : kx_X11_delete E P dp mc ms x0 x1 S) : cMetX E P l yX11_delete cX11_delete 2 (some .boolean) 7 mc ms 152 [.ref x0, .int x1] S dp := by
  intro D Y tp sz
  refine cg_bodyX (by decide +kernel) (Nat.le_of_ble_eq_true rfl) ?_
  intro p e s m args below meth c C hne
  generalize va_A (cWd Y S) sz = A at C ⊢
  have C : cC p s m args meth c cX11_delete 2 (some .boolean) A D Y tp dp RX11 := C
  refine cg_lv (lv' := [(0, .ref x0), (1, .int x1)]) rfl ?_
  unfold kx_X11_delete at h
  refine cg_iload_n C (i := 1) rfl 1 rfl dX11_delete_0 ?_
  rcases h with h | ⟨mc1, ms2, hm_, h⟩
  · obtain ⟨hb_1, h⟩ := h
    refine cg_callsv C (t_X11_checkKey l x1 S dp h) cc_X11_174 rfl ⟨by decide, by decide⟩ hb_1 rfl (Nat.le_of_ble_eq_true rfl) dX11_delete_1 (fun S_3 h => ?_)
    simp only [Nat.add_zero]
    refine cg_aload_n C (i := 0) rfl 0 rfl dX11_delete_4 ?_
    obtain ⟨hc_5, h⟩ := h
    rcases h with h | ⟨mc4, ms5, hm_, h⟩
    · obtain ⟨hb_5, h⟩ := h
      refine cg_callv C (t_X11_checkUp l x0 S_3 dp h) cc_X11_177 hc_5.1 hc_5.2 (by decide) rfl rfl ⟨by decide, by decide⟩ hb_5 rfl (Nat.le_of_ble_eq_true rfl) dX11_delete_5 (fun S_6 h => ?_)
      simp only [Nat.add_zero]
      refine cg_aload_n C (i := 0) rfl 0 rfl dX11_delete_8 ?_
      refine cg_iload_n C (i := 1) rfl 1 rfl dX11_delete_9 ?_
      obtain ⟨hc_10, h⟩ := h
      obtain ⟨hb_10, h⟩ := h
      refine cg_calli C (t_X11_dropKey l x0 x1 S_6 dp h) cc_X11_189 hc_10.1 hc_10.2 (by decide) rfl rfl ⟨by decide, by decide⟩ hb_10 rfl (Nat.le_of_ble_eq_true rfl) dX11_delete_10 (fun r_7 S_7 h => ?_)
      simp only [Nat.add_zero]
      exact h.elim
    · exact cg_callx C hne (tx_X11_checkUp l hlt E mc4 ms5 x0 S_3 dp h) cc_X11_177 hc_5.1 hc_5.2 (by decide) rfl rfl ⟨by decide, by decide⟩ hm_ rfl (Nat.le_of_ble_eq_true rfl) dX11_delete_5 hm_ (fun _ z => z)
  · exact cg_callsx C hne (tx_X11_checkKey l hlt E mc1 ms2 x1 S dp h) cc_X11_174 rfl ⟨by decide, by decide⟩ hm_ rfl (Nat.le_of_ble_eq_true rfl) dX11_delete_1 hm_ (fun _ z => z)
def kx_X11_flush (E : String) (Q : cS → Prop) (dp : Nat) (mc ms : Nat) (x0 : Nat) (S : cS) : Prop :=
cA S x0 11 ∧ ((((0 ≤ mc ∧ 0 ≤ ms) ∧ (k_X11_checkUp (fun S_3 => 
cA S_3 x0 11 ∧ (((((ci S_3 366 x0)) < ((nI 200)) →
  cA S_3 x0 11 ∧ ((∃ b4 : Nat, cr S_3 354 x0 = some b4 ∧ (cA S_3 b4 12 ∧ ((0 ≤ mc ∧ 0 ≤ ms) ∧ (k_Jx4a65c_isEmpty_aae02 (fun r_5 S_5 => 
  ((r_5 = 0 →
    cA S_5 x0 11 ∧ ((∃ mc6 ms7 : Nat, 0 + mc6 ≤ mc ∧ 0 + ms7 ≤ ms ∧ (k_X11_flushBuffer (fun r_8 S_8 => 
    False) dp mc6 ms7 x0 S_5)))) ∧
   (¬ r_5 = 0 →
    False))) dp b4 S_3)))))) ∧
 (¬ ((ci S_3 366 x0)) < ((nI 200)) →
  E = "java/lang/IllegalStateException" ∧ (0 + 1 ≤ mc ∧ 0 + 6 ≤ ms) ∧ Q S_3)))) dp x0 S)) ∨
 (∃ mc1 ms2 : Nat, (0 + mc1 ≤ mc ∧ 0 + ms2 ≤ ms) ∧ kx_X11_checkUp E Q dp mc1 ms2 x0 S)))
set_option maxHeartbeats 1000000 in
set_option maxRecDepth 20000 in
theorem tx_X11_flush (l : Launch) (hlt : l.stackTraces = false) (E : String) (mc ms : Nat) (x0 : Nat) (S : cS) (dp : Nat) {P : cS → Prop} (h : kx_X11_flush E P dp mc ms x0 S) : cMetX E P l yX11_flush cX11_flush 1 (some .int) 10 mc ms 241 [.ref x0] S dp := by
  intro D Y tp sz
  refine cg_bodyX (by decide +kernel) (Nat.le_of_ble_eq_true rfl) ?_
  intro p e s m args below meth c C hne
  generalize va_A (cWd Y S) sz = A at C ⊢
  have C : cC p s m args meth c cX11_flush 1 (some .int) A D Y tp dp RX11 := C
  refine cg_lv (lv' := [(0, .ref x0)]) rfl ?_
  unfold kx_X11_flush at h
  refine cg_aload_n C (i := 0) rfl 0 rfl dX11_flush_0 ?_
  obtain ⟨hc_1, h⟩ := h
  rcases h with h | ⟨mc1, ms2, hm_, h⟩
  · obtain ⟨hb_1, h⟩ := h
    refine cg_callv C (t_X11_checkUp l x0 S dp h) cc_X11_177 hc_1.1 hc_1.2 (by decide) rfl rfl ⟨by decide, by decide⟩ hb_1 rfl (Nat.le_of_ble_eq_true rfl) dX11_flush_1 (fun S_3 h => ?_)
    simp only [Nat.add_zero]
    refine cg_aload_n C (i := 0) rfl 0 rfl dX11_flush_4 ?_
    obtain ⟨hc_5, h⟩ := h
    refine cg_get C (k := 11) (j := 14) (.int (ci S_3 366 x0)) hc_5.1 hc_5.2 (by decide) rfl (by decide) rfl rfl cWs_wsX110 cl_X11_84 rfl dX11_flush_5 ?_
    refine cg_sipush C (x := nI 200) rfl dX11_flush_8 ?_
    refine cg_icmp_lt C 24 (by decide) dX11_flush_11 (fun c_ => ?_) (fun c_ => ?_)
    · have h := h.1 c_
      refine cg_aload_n C (i := 0) rfl 0 rfl dX11_flush_24 ?_
      obtain ⟨hc_25, h⟩ := h
      obtain ⟨b4, hb_b4, h⟩ := h
      refine cg_get C (k := 11) (j := 2) (.ref b4) hc_25.1 hc_25.2 (by decide) rfl (by decide) rfl (show cV _ 11 2 x0 = _ from congrArg va_rf hb_b4) cWs_wsX110 cl_X11_26 rfl dX11_flush_25 ?_
      obtain ⟨hc_28, h⟩ := h
      obtain ⟨hb_28, h⟩ := h
      refine cg_calli C (t_Jx4a65c_isEmpty_aae02 l b4 S_3 dp h) cc_X11_206 hc_28.1 hc_28.2 (by decide) rfl rfl ⟨by decide, by decide⟩ hb_28 rfl (Nat.le_of_ble_eq_true rfl) dX11_flush_28 (fun r_5 S_5 h => ?_)
      simp only [Nat.add_zero]
      refine cg_if_eq C 36 (by decide) dX11_flush_31 (fun c_ => ?_) (fun c_ => ?_)
      · have h := h.1 c_
        refine cg_aload_n C (i := 0) rfl 0 rfl dX11_flush_36 ?_
        obtain ⟨hc_37, h⟩ := h
        obtain ⟨mc6, ms7, hm_1, hm_2, h⟩ := h
        refine cg_calli C (t_X11_flushBuffer l mc6 ms7 x0 S_5 dp h) cc_X11_210 hc_37.1 hc_37.2 (by decide) rfl rfl ⟨by decide, by decide⟩ ⟨hm_1, hm_2⟩ rfl (Nat.le_of_ble_eq_true rfl) dX11_flush_37 (fun r_8 S_8 h => ?_)
        exact h.elim
      · have h := h.2 c_
        refine cg_iconst C (x := (-1)) rfl dX11_flush_34 ?_
        exact h.elim
    · have h := h.2 c_
      obtain ⟨hE_, hb_, h⟩ := h
      rw [hE_]
      exact cg_throw2 C hlt hne "no more segments can be made" ce_X11_116 cei_2 (by decide) dX11_flush_14 dX11_flush_17 dX11_flush_18 dX11_flush_20 dX11_flush_23 (by decide) (Nat.le_of_ble_eq_true rfl) hb_ hb_ h
  · exact cg_callx C hne (tx_X11_checkUp l hlt E mc1 ms2 x0 S dp h) cc_X11_177 hc_1.1 hc_1.2 (by decide) rfl rfl ⟨by decide, by decide⟩ hm_ rfl (Nat.le_of_ble_eq_true rfl) dX11_flush_1 hm_ (fun _ z => z)
def kx_X11_due (E : String) (Q : cS → Prop) (dp : Nat) (mc ms : Nat) (x0 : Nat) (S : cS) : Prop :=
cA S x0 11 ∧ ((((0 ≤ mc ∧ 0 ≤ ms) ∧ (k_X11_checkUp (fun S_3 => 
cA S_3 x0 11 ∧ ((∃ b4 : Nat, cr S_3 355 x0 = some b4 ∧ (cA S_3 b4 10 ∧ ((0 ≤ mc ∧ 0 ≤ ms) ∧ (k_X10_duePlace (fun r_5 S_5 => 
False) dp b4 S_3)))))) dp x0 S)) ∨
 (∃ mc1 ms2 : Nat, (0 + mc1 ≤ mc ∧ 0 + ms2 ≤ ms) ∧ kx_X11_checkUp E Q dp mc1 ms2 x0 S)))
set_option maxHeartbeats 1000000 in
set_option maxRecDepth 20000 in
theorem tx_X11_due (l : Launch) (hlt : l.stackTraces = false) (E : String) (mc ms : Nat) (x0 : Nat) (S : cS) (dp : Nat) {P : cS → Prop} (h : kx_X11_due E P dp mc ms x0 S) : cMetX E P l yX11_due cX11_due 1 (some .int) 7 mc ms 102 [.ref x0] S dp := by
  intro D Y tp sz
  refine cg_bodyX (by decide +kernel) (Nat.le_of_ble_eq_true rfl) ?_
  intro p e s m args below meth c C hne
  generalize va_A (cWd Y S) sz = A at C ⊢
  have C : cC p s m args meth c cX11_due 1 (some .int) A D Y tp dp RX11 := C
  refine cg_lv (lv' := [(0, .ref x0)]) rfl ?_
  unfold kx_X11_due at h
  refine cg_aload_n C (i := 0) rfl 0 rfl dX11_due_0 ?_
  obtain ⟨hc_1, h⟩ := h
  rcases h with h | ⟨mc1, ms2, hm_, h⟩
  · obtain ⟨hb_1, h⟩ := h
    refine cg_callv C (t_X11_checkUp l x0 S dp h) cc_X11_177 hc_1.1 hc_1.2 (by decide) rfl rfl ⟨by decide, by decide⟩ hb_1 rfl (Nat.le_of_ble_eq_true rfl) dX11_due_1 (fun S_3 h => ?_)
    simp only [Nat.add_zero]
    refine cg_aload_n C (i := 0) rfl 0 rfl dX11_due_4 ?_
    obtain ⟨hc_5, h⟩ := h
    obtain ⟨b4, hb_b4, h⟩ := h
    refine cg_get C (k := 11) (j := 3) (.ref b4) hc_5.1 hc_5.2 (by decide) rfl (by decide) rfl (show cV _ 11 3 x0 = _ from congrArg va_rf hb_b4) cWs_wsX110 cl_X11_35 rfl dX11_due_5 ?_
    obtain ⟨hc_8, h⟩ := h
    obtain ⟨hb_8, h⟩ := h
    refine cg_calli C (t_X10_duePlace l b4 S_3 dp h) cc_X11_213 hc_8.1 hc_8.2 (by decide) rfl rfl ⟨by decide, by decide⟩ hb_8 rfl (Nat.le_of_ble_eq_true rfl) dX11_due_8 (fun r_5 S_5 h => ?_)
    simp only [Nat.add_zero]
    exact h.elim
  · exact cg_callx C hne (tx_X11_checkUp l hlt E mc1 ms2 x0 S dp h) cc_X11_177 hc_1.1 hc_1.2 (by decide) rfl rfl ⟨by decide, by decide⟩ hm_ rfl (Nat.le_of_ble_eq_true rfl) dX11_due_1 hm_ (fun _ z => z)
def kx_X11_merge (E : String) (Q : cS → Prop) (dp : Nat) (mc ms : Nat) (x0 : Nat) (S : cS) : Prop :=
cA S x0 11 ∧ ((((0 ≤ mc ∧ 0 ≤ ms) ∧ (k_X11_checkUp (fun S_3 => 
cA S_3 x0 11 ∧ ((∃ b4 : Nat, cr S_3 355 x0 = some b4 ∧ (cA S_3 b4 10 ∧ ((0 ≤ mc ∧ 0 ≤ ms) ∧ (k_X10_duePlace (fun r_5 S_5 => 
((r_5 = (((-1))) →
  E = "java/lang/IllegalStateException" ∧ (0 + 1 ≤ mc ∧ 0 + 6 ≤ ms) ∧ Q S_5) ∧
 (¬ r_5 = (((-1))) →
  cA S_5 x0 11 ∧ (((cr S_5 356 x0 = none →
    cA S_5 x0 11 ∧ (((((ci S_5 366 x0)) < ((nI 200)) →
      cA S_5 x0 11 ∧ ((∃ b7 : Nat, cr S_5 355 x0 = some b7 ∧ (cA S_5 b7 10 ∧ ((∃ mc8 ms9 : Nat, 0 + mc8 ≤ mc ∧ 0 + ms9 ≤ ms ∧ (k_X10_copyOf (fun r_10 S_10 => 
      cA S_10 x0 11 ∧ (∀ S11 : cS, S11 = cSr S_10 356 x0 ((some r_10)) → cA S11 x0 11 ∧ (∀ S12 : cS, S12 = cSi S11 357 x0 ((nI 0)) → cA S12 x0 11 ∧ (((cr S12 356 x0 = none →
        False) ∧
       (∀ b13 : Nat, cr S12 356 x0 = some b13 →
        cA S12 b13 10 ∧ ((0 + mc8 ≤ mc ∧ 0 + ms9 ≤ ms) ∧ (k_X10_liveCount (fun r_14 S_14 => 
        False) dp b13 S12)))))))) dp mc8 ms9 b7 r_5 ((nI 3)) S_5))))))) ∧
     (¬ ((ci S_5 366 x0)) < ((nI 200)) →
      E = "java/lang/IllegalStateException" ∧ (0 + 1 ≤ mc ∧ 0 + 6 ≤ ms) ∧ Q S_5)))) ∧
   (∀ b6 : Nat, cr S_5 356 x0 = some b6 →
    E = "java/lang/IllegalStateException" ∧ (0 + 1 ≤ mc ∧ 0 + 6 ≤ ms) ∧ Q S_5)))))) dp b4 S_3)))))) dp x0 S)) ∨
 (∃ mc1 ms2 : Nat, (0 + mc1 ≤ mc ∧ 0 + ms2 ≤ ms) ∧ kx_X11_checkUp E Q dp mc1 ms2 x0 S)))
set_option maxHeartbeats 1000000 in
set_option maxRecDepth 20000 in
theorem tx_X11_merge (l : Launch) (hlt : l.stackTraces = false) (E : String) (mc ms : Nat) (x0 : Nat) (S : cS) (dp : Nat) {P : cS → Prop} (h : kx_X11_merge E P dp mc ms x0 S) : cMetX E P l yX11_merge cX11_merge 2 (some .int) 9 mc ms 212 [.ref x0] S dp := by
  intro D Y tp sz
  refine cg_bodyX (by decide +kernel) (Nat.le_of_ble_eq_true rfl) ?_
  intro p e s m args below meth c C hne
  generalize va_A (cWd Y S) sz = A at C ⊢
  have C : cC p s m args meth c cX11_merge 2 (some .int) A D Y tp dp RX11 := C
  refine cg_lv (lv' := [(0, .ref x0)]) rfl ?_
  unfold kx_X11_merge at h
  refine cg_aload_n C (i := 0) rfl 0 rfl dX11_merge_0 ?_
  obtain ⟨hc_1, h⟩ := h
  rcases h with h | ⟨mc1, ms2, hm_, h⟩
  · obtain ⟨hb_1, h⟩ := h
    refine cg_callv C (t_X11_checkUp l x0 S dp h) cc_X11_177 hc_1.1 hc_1.2 (by decide) rfl rfl ⟨by decide, by decide⟩ hb_1 rfl (Nat.le_of_ble_eq_true rfl) dX11_merge_1 (fun S_3 h => ?_)
    simp only [Nat.add_zero]
    refine cg_aload_n C (i := 0) rfl 0 rfl dX11_merge_4 ?_
    obtain ⟨hc_5, h⟩ := h
    obtain ⟨b4, hb_b4, h⟩ := h
    refine cg_get C (k := 11) (j := 3) (.ref b4) hc_5.1 hc_5.2 (by decide) rfl (by decide) rfl (show cV _ 11 3 x0 = _ from congrArg va_rf hb_b4) cWs_wsX110 cl_X11_35 rfl dX11_merge_5 ?_
    obtain ⟨hc_8, h⟩ := h
    obtain ⟨hb_8, h⟩ := h
    refine cg_calli C (t_X10_duePlace l b4 S_3 dp h) cc_X11_213 hc_8.1 hc_8.2 (by decide) rfl rfl ⟨by decide, by decide⟩ hb_8 rfl (Nat.le_of_ble_eq_true rfl) dX11_merge_8 (fun r_5 S_5 h => ?_)
    simp only [Nat.add_zero]
    refine cg_istore_n C (i := 1) (lv' := [(1, .int r_5), (0, .ref x0)]) rfl (Nat.le_of_ble_eq_true rfl) rfl dX11_merge_11 ?_
    refine cg_iload_n C (i := 1) rfl 0 rfl dX11_merge_12 ?_
    refine cg_iconst C (x := (-1)) rfl dX11_merge_13 ?_
    refine cg_icmp_eq C 34 (by decide) dX11_merge_14 (fun c_ => ?_) (fun c_ => ?_)
    · have h := h.1 c_
      obtain ⟨hE_, hb_, h⟩ := h
      rw [hE_]
      exact cg_throw2 C hlt hne "no merge can be begun now" ce_X11_116 cei_2 (by decide) dX11_merge_34 dX11_merge_37 dX11_merge_38 dX11_merge_40 dX11_merge_43 (by decide) (Nat.le_of_ble_eq_true rfl) hb_ hb_ h
    · have h := h.2 c_
      refine cg_aload_n C (i := 0) rfl 1 rfl dX11_merge_17 ?_
      obtain ⟨hc_18, h⟩ := h
      obtain ho | ⟨b6, ho⟩ := c_opt (cr S_5 356 x0)
      · have h := h.1 ho
        refine cg_get C (k := 11) (j := 4) (.null) hc_18.1 hc_18.2 (by decide) rfl (by decide) rfl (show cV _ 11 4 x0 = _ from congrArg va_rf ho) cWs_wsX110 cl_X11_39 rfl dX11_merge_18 ?_
        refine cg_ifnonnullN C dX11_merge_21 ?_
        refine cg_aload_n C (i := 0) rfl 1 rfl dX11_merge_24 ?_
        obtain ⟨hc_25, h⟩ := h
        refine cg_get C (k := 11) (j := 14) (.int (ci S_5 366 x0)) hc_25.1 hc_25.2 (by decide) rfl (by decide) rfl rfl cWs_wsX110 cl_X11_84 rfl dX11_merge_25 ?_
        refine cg_sipush C (x := nI 200) rfl dX11_merge_28 ?_
        refine cg_icmp_lt C 44 (by decide) dX11_merge_31 (fun c_ => ?_) (fun c_ => ?_)
        · have h := h.1 c_
          refine cg_aload_n C (i := 0) rfl 1 rfl dX11_merge_44 ?_
          refine cg_aload_n C (i := 0) rfl 1 rfl dX11_merge_45 ?_
          obtain ⟨hc_46, h⟩ := h
          obtain ⟨b7, hb_b7, h⟩ := h
          refine cg_get C (k := 11) (j := 3) (.ref b7) hc_46.1 hc_46.2 (by decide) rfl (by decide) rfl (show cV _ 11 3 x0 = _ from congrArg va_rf hb_b7) cWs_wsX110 cl_X11_35 rfl dX11_merge_46 ?_
          refine cg_iload_n C (i := 1) rfl 0 rfl dX11_merge_49 ?_
          refine cg_iconst C (x := nI 3) rfl dX11_merge_50 ?_
          obtain ⟨hc_51, h⟩ := h
          obtain ⟨mc8, ms9, hm_1, hm_2, h⟩ := h
          refine cg_callr C (t_X10_copyOf l mc8 ms9 b7 r_5 ((nI 3)) S_5 dp h) cc_X11_218 hc_51.1 hc_51.2 (by decide) rfl rfl ⟨by decide, by decide⟩ ⟨hm_1, hm_2⟩ rfl (Nat.le_of_ble_eq_true rfl) dX11_merge_51 (fun r_10 S_10 h => ?_)
          obtain ⟨hc_54, h⟩ := h
          refine cg_putr C (k := 11) (j := 4) (x := (some r_10)) (ty := tyX11) (fty := tyX11 4) hc_54.1 hc_54.2 (by decide) rfl (by decide) rfl (by decide) rfl cWs_wsX110 tyX11_ok nmX11 cl_X11_39 rfl rfl rfl rfl rfl dX11_merge_54 ?_
          refine cg_nm (fun S11 e_S11 => ?_)
          have h := h S11 e_S11
          refine cg_aload_n C (i := 0) rfl 1 rfl dX11_merge_57 ?_
          refine cg_iconst C (x := nI 0) rfl dX11_merge_58 ?_
          obtain ⟨hc_59, h⟩ := h
          refine cg_puti C (k := 11) (j := 5) (ty := tyX11) (fty := .int) hc_59.1 hc_59.2 (by decide) rfl (by decide) rfl (by decide) rfl cWs_wsX110 tyX11_ok nmX11 cl_X11_42 rfl rfl rfl rfl rfl dX11_merge_59 ?_
          refine cg_nm (fun S12 e_S12 => ?_)
          have h := h S12 e_S12
          refine cg_aload_n C (i := 0) rfl 1 rfl dX11_merge_62 ?_
          obtain ⟨hc_63, h⟩ := h
          obtain ho | ⟨b13, ho⟩ := c_opt (cr S12 356 x0)
          · have h := h.1 ho
            refine cg_get C (k := 11) (j := 4) (.null) hc_63.1 hc_63.2 (by decide) rfl (by decide) rfl (show cV _ 11 4 x0 = _ from congrArg va_rf ho) cWs_wsX110 cl_X11_39 rfl dX11_merge_63 ?_
            exact h.elim
          · have h := h.2 b13 ho
            refine cg_get C (k := 11) (j := 4) (.ref b13) hc_63.1 hc_63.2 (by decide) rfl (by decide) rfl (show cV _ 11 4 x0 = _ from congrArg va_rf ho) cWs_wsX110 cl_X11_39 rfl dX11_merge_63 ?_
            obtain ⟨hc_66, h⟩ := h
            obtain ⟨hb_66, h⟩ := h
            refine cg_calli C (t_X10_liveCount l b13 S12 dp h) cc_X11_222 hc_66.1 hc_66.2 (by decide) rfl rfl ⟨by decide, by decide⟩ hb_66 rfl (Nat.le_of_ble_eq_true rfl) dX11_merge_66 (fun r_14 S_14 h => ?_)
            simp only [Nat.add_zero]
            exact h.elim
        · have h := h.2 c_
          obtain ⟨hE_, hb_, h⟩ := h
          rw [hE_]
          exact cg_throw2 C hlt hne "no merge can be begun now" ce_X11_116 cei_2 (by decide) dX11_merge_34 dX11_merge_37 dX11_merge_38 dX11_merge_40 dX11_merge_43 (by decide) (Nat.le_of_ble_eq_true rfl) hb_ hb_ h
      · have h := h.2 b6 ho
        refine cg_get C (k := 11) (j := 4) (.ref b6) hc_18.1 hc_18.2 (by decide) rfl (by decide) rfl (show cV _ 11 4 x0 = _ from congrArg va_rf ho) cWs_wsX110 cl_X11_39 rfl dX11_merge_18 ?_
        refine cg_ifnonnull C 34 (by decide) dX11_merge_21 ?_
        obtain ⟨hE_, hb_, h⟩ := h
        rw [hE_]
        exact cg_throw2 C hlt hne "no merge can be begun now" ce_X11_116 cei_2 (by decide) dX11_merge_34 dX11_merge_37 dX11_merge_38 dX11_merge_40 dX11_merge_43 (by decide) (Nat.le_of_ble_eq_true rfl) hb_ hb_ h
  · exact cg_callx C hne (tx_X11_checkUp l hlt E mc1 ms2 x0 S dp h) cc_X11_177 hc_1.1 hc_1.2 (by decide) rfl rfl ⟨by decide, by decide⟩ hm_ rfl (Nat.le_of_ble_eq_true rfl) dX11_merge_1 hm_ (fun _ z => z)
def kx_X11_step (E : String) (Q : cS → Prop) (dp : Nat) (mc ms : Nat) (x0 : Nat) (S : cS) : Prop :=
cA S x0 11 ∧ ((((0 ≤ mc ∧ 0 ≤ ms) ∧ (k_X11_checkUp (fun S_3 => 
cA S_3 x0 11 ∧ (((cr S_3 356 x0 = none →
  E = "java/lang/IllegalStateException" ∧ (0 + 1 ≤ mc ∧ 0 + 6 ≤ ms) ∧ Q S_3) ∧
 (∀ b4 : Nat, cr S_3 356 x0 = some b4 →
  cA S_3 x0 11 ∧ ((∃ mc5 ms6 : Nat, 0 + mc5 ≤ mc ∧ 0 + ms6 ≤ ms ∧ (k_X11_doWrite (fun r_7 S_7 => 
  ((¬ r_7 = 0 →
    cA S_7 b4 10 ∧ ((0 + mc5 ≤ mc ∧ 0 + ms6 ≤ ms) ∧ (k_X10_liveCount (fun r_8 S_8 => 
    cA S_8 x0 11 ∧ (((r_8 ≤ ((ci S_8 357 x0)) →
      cA S_8 x0 11 ∧ ((∃ mc9 ms10 : Nat, 0 + mc5 + mc9 ≤ mc ∧ 0 + ms6 + ms10 ≤ ms ∧ (k_X11_endMerge (fun S_11 => 
      False) dp mc9 ms10 x0 b4 S_8)))) ∧
     (¬ r_8 ≤ ((ci S_8 357 x0)) →
      cA S_8 x0 11 ∧ (cA S_8 x0 11 ∧ (∀ S12 : cS, S12 = cSi S_8 357 x0 ((((ci S_8 357 x0)) + ((nI 1)))) → cA S12 x0 11 ∧ (False))))))) dp b4 S_7))) ∧
   (r_7 = 0 →
    False))) dp mc5 ms6 x0 S_3))))))) dp x0 S)) ∨
 (∃ mc1 ms2 : Nat, (0 + mc1 ≤ mc ∧ 0 + ms2 ≤ ms) ∧ kx_X11_checkUp E Q dp mc1 ms2 x0 S)))
set_option maxHeartbeats 1000000 in
set_option maxRecDepth 20000 in
theorem tx_X11_step (l : Launch) (hlt : l.stackTraces = false) (E : String) (mc ms : Nat) (x0 : Nat) (S : cS) (dp : Nat) {P : cS → Prop} (h : kx_X11_step E P dp mc ms x0 S) : cMetX E P l yX11_step cX11_step 3 (some .int) 11 mc ms 266 [.ref x0] S dp := by
  intro D Y tp sz
  refine cg_bodyX (by decide +kernel) (Nat.le_of_ble_eq_true rfl) ?_
  intro p e s m args below meth c C hne
  generalize va_A (cWd Y S) sz = A at C ⊢
  have C : cC p s m args meth c cX11_step 3 (some .int) A D Y tp dp RX11 := C
  refine cg_lv (lv' := [(0, .ref x0)]) rfl ?_
  unfold kx_X11_step at h
  refine cg_aload_n C (i := 0) rfl 0 rfl dX11_step_0 ?_
  obtain ⟨hc_1, h⟩ := h
  rcases h with h | ⟨mc1, ms2, hm_, h⟩
  · obtain ⟨hb_1, h⟩ := h
    refine cg_callv C (t_X11_checkUp l x0 S dp h) cc_X11_177 hc_1.1 hc_1.2 (by decide) rfl rfl ⟨by decide, by decide⟩ hb_1 rfl (Nat.le_of_ble_eq_true rfl) dX11_step_1 (fun S_3 h => ?_)
    simp only [Nat.add_zero]
    refine cg_aload_n C (i := 0) rfl 0 rfl dX11_step_4 ?_
    obtain ⟨hc_5, h⟩ := h
    obtain ho | ⟨b4, ho⟩ := c_opt (cr S_3 356 x0)
    · have h := h.1 ho
      refine cg_get C (k := 11) (j := 4) (.null) hc_5.1 hc_5.2 (by decide) rfl (by decide) rfl (show cV _ 11 4 x0 = _ from congrArg va_rf ho) cWs_wsX110 cl_X11_39 rfl dX11_step_5 ?_
      refine cg_astoreN_n (lv' := [(1, .null), (0, .ref x0)]) C (i := 1) rfl (Nat.le_of_ble_eq_true rfl) rfl dX11_step_8 ?_
      refine cg_aloadN_n C (i := 1) rfl 0 rfl dX11_step_9 ?_
      refine cg_ifnonnullN C dX11_step_10 ?_
      obtain ⟨hE_, hb_, h⟩ := h
      rw [hE_]
      exact cg_throw2 C hlt hne "no merge is under way" ce_X11_116 cei_2 (by decide) dX11_step_13 dX11_step_16 dX11_step_17 dX11_step_19 dX11_step_22 (by decide) (Nat.le_of_ble_eq_true rfl) hb_ hb_ h
    · have h := h.2 b4 ho
      refine cg_get C (k := 11) (j := 4) (.ref b4) hc_5.1 hc_5.2 (by decide) rfl (by decide) rfl (show cV _ 11 4 x0 = _ from congrArg va_rf ho) cWs_wsX110 cl_X11_39 rfl dX11_step_5 ?_
      refine cg_astore_n (lv' := [(1, .ref b4), (0, .ref x0)]) C (i := 1) rfl (Nat.le_of_ble_eq_true rfl) rfl dX11_step_8 ?_
      refine cg_aload_n C (i := 1) rfl 0 rfl dX11_step_9 ?_
      refine cg_ifnonnull C 23 (by decide) dX11_step_10 ?_
      refine cg_aload_n C (i := 0) rfl 1 rfl dX11_step_23 ?_
      obtain ⟨hc_24, h⟩ := h
      obtain ⟨mc5, ms6, hm_1, hm_2, h⟩ := h
      refine cg_calli C (t_X11_doWrite l mc5 ms6 x0 S_3 dp h) cc_X11_227 hc_24.1 hc_24.2 (by decide) rfl rfl ⟨by decide, by decide⟩ ⟨hm_1, hm_2⟩ rfl (Nat.le_of_ble_eq_true rfl) dX11_step_24 (fun r_7 S_7 h => ?_)
      refine cg_if_ne C 33 (by decide) dX11_step_27 (fun c_ => ?_) (fun c_ => ?_)
      · have h := h.1 c_
        refine cg_aload_n C (i := 1) rfl 0 rfl dX11_step_33 ?_
        obtain ⟨hc_34, h⟩ := h
        obtain ⟨hb_34, h⟩ := h
        refine cg_calli C (t_X10_liveCount l b4 S_7 dp h) cc_X11_222 hc_34.1 hc_34.2 (by decide) rfl rfl ⟨by decide, by decide⟩ hb_34 rfl (Nat.le_of_ble_eq_true rfl) dX11_step_34 (fun r_8 S_8 h => ?_)
        simp only [Nat.add_zero]
        refine cg_istore_n C (i := 2) (lv' := [(2, .int r_8), (1, .ref b4), (0, .ref x0)]) rfl (Nat.le_of_ble_eq_true rfl) rfl dX11_step_37 ?_
        refine cg_aload_n C (i := 0) rfl 2 rfl dX11_step_38 ?_
        obtain ⟨hc_39, h⟩ := h
        refine cg_get C (k := 11) (j := 5) (.int (ci S_8 357 x0)) hc_39.1 hc_39.2 (by decide) rfl (by decide) rfl rfl cWs_wsX110 cl_X11_42 rfl dX11_step_39 ?_
        refine cg_iload_n C (i := 2) rfl 0 rfl dX11_step_42 ?_
        refine cg_icmp_ge C 63 (by decide) dX11_step_43 (fun c_ => ?_) (fun c_ => ?_)
        · have h := h.1 c_
          refine cg_aload_n C (i := 0) rfl 2 rfl dX11_step_63 ?_
          refine cg_aload_n C (i := 1) rfl 1 rfl dX11_step_64 ?_
          obtain ⟨hc_65, h⟩ := h
          obtain ⟨mc9, ms10, hm_1, hm_2, h⟩ := h
          refine cg_callv C (t_X11_endMerge l mc9 ms10 x0 b4 S_8 dp h) cc_X11_230 hc_65.1 hc_65.2 (by decide) rfl rfl ⟨by decide, by decide⟩ ⟨hm_1, hm_2⟩ rfl (Nat.le_of_ble_eq_true rfl) dX11_step_65 (fun S_11 h => ?_)
          refine cg_iconst C (x := (-1)) rfl dX11_step_68 ?_
          exact h.elim
        · have h := h.2 c_
          refine cg_aload_n C (i := 0) rfl 2 rfl dX11_step_46 ?_
          refine cg_dup C rfl dX11_step_47 ?_
          obtain ⟨hc_48, h⟩ := h
          refine cg_get C (k := 11) (j := 5) (.int (ci S_8 357 x0)) hc_48.1 hc_48.2 (by decide) rfl (by decide) rfl rfl cWs_wsX110 cl_X11_42 rfl dX11_step_48 ?_
          refine cg_iconst C (x := nI 1) rfl dX11_step_51 ?_
          refine cg_iadd C dX11_step_52 ?_
          obtain ⟨hc_53, h⟩ := h
          refine cg_puti C (k := 11) (j := 5) (ty := tyX11) (fty := .int) hc_53.1 hc_53.2 (by decide) rfl (by decide) rfl (by decide) rfl cWs_wsX110 tyX11_ok nmX11 cl_X11_42 rfl rfl rfl rfl rfl dX11_step_53 ?_
          refine cg_nm (fun S12 e_S12 => ?_)
          have h := h S12 e_S12
          refine cg_iload_n C (i := 2) rfl 0 rfl dX11_step_56 ?_
          refine cg_aload_n C (i := 0) rfl 2 rfl dX11_step_57 ?_
          obtain ⟨hc_58, h⟩ := h
          refine cg_get C (k := 11) (j := 5) (.int (ci S12 357 x0)) hc_58.1 hc_58.2 (by decide) rfl (by decide) rfl rfl cWs_wsX110 cl_X11_42 rfl dX11_step_58 ?_
          refine cg_isub C dX11_step_61 ?_
          exact h.elim
      · have h := h.2 c_
        refine cg_bipush C (x := (-2)) rfl dX11_step_30 ?_
        exact h.elim
  · exact cg_callx C hne (tx_X11_checkUp l hlt E mc1 ms2 x0 S dp h) cc_X11_177 hc_1.1 hc_1.2 (by decide) rfl rfl ⟨by decide, by decide⟩ hm_ rfl (Nat.le_of_ble_eq_true rfl) dX11_step_1 hm_ (fun _ z => z)
def kx_X11_giveUp (E : String) (Q : cS → Prop) (dp : Nat) (mc ms : Nat) (x0 : Nat) (S : cS) : Prop :=
cA S x0 11 ∧ ((((0 ≤ mc ∧ 0 ≤ ms) ∧ (k_X11_checkUp (fun S_3 => 
cA S_3 x0 11 ∧ (((cr S_3 356 x0 = none →
  E = "java/lang/IllegalStateException" ∧ (0 + 1 ≤ mc ∧ 0 + 6 ≤ ms) ∧ Q S_3) ∧
 (∀ b4 : Nat, cr S_3 356 x0 = some b4 →
  cA S_3 x0 11 ∧ (∀ x1_5 : Int32, x1_5 = (ci S_3 357 x0) → cA S_3 x0 11 ∧ (∀ S6 : cS, S6 = cSr S_3 356 x0 none → cA S6 x0 11 ∧ (∀ S7 : cS, S7 = cSi S6 357 x0 ((nI 0)) → False))))))) dp x0 S)) ∨
 (∃ mc1 ms2 : Nat, (0 + mc1 ≤ mc ∧ 0 + ms2 ≤ ms) ∧ kx_X11_checkUp E Q dp mc1 ms2 x0 S)))
set_option maxHeartbeats 1000000 in
set_option maxRecDepth 20000 in
theorem tx_X11_giveUp (l : Launch) (hlt : l.stackTraces = false) (E : String) (mc ms : Nat) (x0 : Nat) (S : cS) (dp : Nat) {P : cS → Prop} (h : kx_X11_giveUp E P dp mc ms x0 S) : cMetX E P l yX11_giveUp cX11_giveUp 2 (some .int) 7 mc ms 102 [.ref x0] S dp := by
  intro D Y tp sz
  refine cg_bodyX (by decide +kernel) (Nat.le_of_ble_eq_true rfl) ?_
  intro p e s m args below meth c C hne
  generalize va_A (cWd Y S) sz = A at C ⊢
  have C : cC p s m args meth c cX11_giveUp 2 (some .int) A D Y tp dp RX11 := C
  refine cg_lv (lv' := [(0, .ref x0)]) rfl ?_
  unfold kx_X11_giveUp at h
  refine cg_aload_n C (i := 0) rfl 0 rfl dX11_giveUp_0 ?_
  obtain ⟨hc_1, h⟩ := h
  rcases h with h | ⟨mc1, ms2, hm_, h⟩
  · obtain ⟨hb_1, h⟩ := h
    refine cg_callv C (t_X11_checkUp l x0 S dp h) cc_X11_177 hc_1.1 hc_1.2 (by decide) rfl rfl ⟨by decide, by decide⟩ hb_1 rfl (Nat.le_of_ble_eq_true rfl) dX11_giveUp_1 (fun S_3 h => ?_)
    simp only [Nat.add_zero]
    refine cg_aload_n C (i := 0) rfl 0 rfl dX11_giveUp_4 ?_
    obtain ⟨hc_5, h⟩ := h
    obtain ho | ⟨b4, ho⟩ := c_opt (cr S_3 356 x0)
    · have h := h.1 ho
      refine cg_get C (k := 11) (j := 4) (.null) hc_5.1 hc_5.2 (by decide) rfl (by decide) rfl (show cV _ 11 4 x0 = _ from congrArg va_rf ho) cWs_wsX110 cl_X11_39 rfl dX11_giveUp_5 ?_
      refine cg_ifnonnullN C dX11_giveUp_8 ?_
      obtain ⟨hE_, hb_, h⟩ := h
      rw [hE_]
      exact cg_throw2 C hlt hne "no merge is under way" ce_X11_116 cei_2 (by decide) dX11_giveUp_11 dX11_giveUp_14 dX11_giveUp_15 dX11_giveUp_17 dX11_giveUp_20 (by decide) (Nat.le_of_ble_eq_true rfl) hb_ hb_ h
    · have h := h.2 b4 ho
      refine cg_get C (k := 11) (j := 4) (.ref b4) hc_5.1 hc_5.2 (by decide) rfl (by decide) rfl (show cV _ 11 4 x0 = _ from congrArg va_rf ho) cWs_wsX110 cl_X11_39 rfl dX11_giveUp_5 ?_
      refine cg_ifnonnull C 21 (by decide) dX11_giveUp_8 ?_
      refine cg_aload_n C (i := 0) rfl 0 rfl dX11_giveUp_21 ?_
      obtain ⟨hc_22, h⟩ := h
      refine cg_get C (k := 11) (j := 5) (.int (ci S_3 357 x0)) hc_22.1 hc_22.2 (by decide) rfl (by decide) rfl rfl cWs_wsX110 cl_X11_42 rfl dX11_giveUp_22 ?_
      refine cg_nmI (fun x1_5 e_x1_5 => ?_)
      have h := h x1_5 e_x1_5
      refine cg_istore_n C (i := 1) (lv' := [(1, .int x1_5), (0, .ref x0)]) rfl (Nat.le_of_ble_eq_true rfl) rfl dX11_giveUp_25 ?_
      refine cg_aload_n C (i := 0) rfl 1 rfl dX11_giveUp_26 ?_
      refine cg_null C dX11_giveUp_27 ?_
      obtain ⟨hc_28, h⟩ := h
      refine cg_putr C (k := 11) (j := 4) (x := none) (ty := tyX11) (fty := tyX11 4) hc_28.1 hc_28.2 (by decide) rfl (by decide) rfl (by decide) rfl cWs_wsX110 tyX11_ok nmX11 cl_X11_39 rfl rfl rfl rfl rfl dX11_giveUp_28 ?_
      refine cg_nm (fun S6 e_S6 => ?_)
      have h := h S6 e_S6
      refine cg_aload_n C (i := 0) rfl 1 rfl dX11_giveUp_31 ?_
      refine cg_iconst C (x := nI 0) rfl dX11_giveUp_32 ?_
      obtain ⟨hc_33, h⟩ := h
      refine cg_puti C (k := 11) (j := 5) (ty := tyX11) (fty := .int) hc_33.1 hc_33.2 (by decide) rfl (by decide) rfl (by decide) rfl cWs_wsX110 tyX11_ok nmX11 cl_X11_42 rfl rfl rfl rfl rfl dX11_giveUp_33 ?_
      refine cg_nm (fun S7 e_S7 => ?_)
      have h := h S7 e_S7
      refine cg_iload_n C (i := 1) rfl 0 rfl dX11_giveUp_36 ?_
      exact h.elim
  · exact cg_callx C hne (tx_X11_checkUp l hlt E mc1 ms2 x0 S dp h) cc_X11_177 hc_1.1 hc_1.2 (by decide) rfl rfl ⟨by decide, by decide⟩ hm_ rfl (Nat.le_of_ble_eq_true rfl) dX11_giveUp_1 hm_ (fun _ z => z)
def kx_X11_prepare_77 (E : String) (Q : cS → Prop) (dp : Nat) (mc ms : Nat) (R77 : Nat → Int32 → Int32 → Nat → Nat → cS → Prop) (x0 : Nat) (x1 : Int32) (x2 : Int32) (cd dd : Nat) (S : cS) : Prop :=
((x1 < x2 →
  cA S x0 11 ∧ ((∃ b10 : Nat, cr S 355 x0 = some b10 ∧ (cA S x0 11 ∧ ((∃ b11 : Nat, cr S 355 x0 = some b11 ∧ (cA S b11 10 ∧ ((cd ≤ mc ∧ dd ≤ ms) ∧ (k_X10_size (fun r_12 S_12 => 
  cA S_12 b10 10 ∧ ((∃ mc13 ms14 : Nat, cd + mc13 ≤ mc ∧ dd + ms14 ≤ ms ∧ (k_X10_copyOf (fun r_15 S_15 => 
  cA S_15 x0 11 ∧ (∀ S16 : cS, S16 = cSr S_15 359 x0 ((some r_15)) → cA S16 x0 11 ∧ (((cr S16 359 x0 = none →
    False) ∧
   (∀ b17 : Nat, cr S16 359 x0 = some b17 →
    cA S16 b17 10 ∧ ((cd + mc13 ≤ mc ∧ dd + ms14 ≤ ms) ∧ (k_X10_size (fun r_18 S_18 => 
    False) dp b17 S16))))))) dp mc13 ms14 b10 ((nI 0)) r_12 S_12)))) dp b11 S))))))))) ∧
 (¬ x1 < x2 →
  cA S x0 11 ∧ ((∃ mc19 ms20 : Nat, cd + mc19 ≤ mc ∧ dd + ms20 ≤ ms ∧ (k_X11_doWrite (fun r_21 S_21 => 
  ((¬ r_21 = 0 →
    ∀ x2_22 : Int32, x2_22 = x2 + nI 1 → R77 x0 x1 x2_22 (cd + mc19) (dd + ms20) S_21) ∧
   (r_21 = 0 →
    False))) dp mc19 ms20 x0 S)))))
def kx_X11_prepare_77L (E : String) (Q : cS → Prop) (dp : Nat) (mc ms : Nat)  (x0 : Nat) (x1 : Int32) (x2 : Int32) (cd dd : Nat) (S : cS) : Prop :=
  lfp (X := Nat × Int32 × Int32 × Nat × Nat × cS) (fun P y => kx_X11_prepare_77 E Q dp mc ms  (fun b0 b1 b2 b3 b4 S => P (b0, b1, b2, b3, b4, S)) y.1 y.2.1 y.2.2.1 y.2.2.2.1 y.2.2.2.2.1 y.2.2.2.2.2) (x0, x1, x2, cd, dd, S)
def kx_X11_prepare_63 (E : String) (Q : cS → Prop) (dp : Nat) (mc ms : Nat)  (x0 : Nat) (cd dd : Nat) (S : cS) : Prop :=
cA S x0 11 ∧ ((∃ b7 : Nat, cr S 355 x0 = some b7 ∧ (cA S x0 11 ∧ (((cr S 358 x0 = none →
  cA S b7 10 ∧ ((cd ≤ mc ∧ dd ≤ ms) ∧ (k_X10_changedSince (fun r_9 S_9 => 
  kx_X11_prepare_77L E Q dp mc ms  x0 r_9 (((nI 0))) cd dd S_9) dp b7 none S))) ∧
 (∀ b8 : Nat, cr S 358 x0 = some b8 →
  cA S b7 10 ∧ ((cd ≤ mc ∧ dd ≤ ms) ∧ (k_X10_changedSince (fun r_23 S_23 => 
  kx_X11_prepare_77L E Q dp mc ms  x0 r_23 (((nI 0))) cd dd S_23) dp b7 (some b8) S))))))))
def kx_X11_prepare_41 (E : String) (Q : cS → Prop) (dp : Nat) (mc ms : Nat)  (x0 : Nat) (cd dd : Nat) (S : cS) : Prop :=
cA S x0 11 ∧ ((∃ b5 : Nat, cr S 354 x0 = some b5 ∧ (cA S b5 12 ∧ ((cd ≤ mc ∧ dd ≤ ms) ∧ (k_Jx4a65c_isEmpty_aae02 (fun r_6 S_6 => 
((¬ r_6 = 0 →
  kx_X11_prepare_63 E Q dp mc ms  x0 cd dd S_6) ∧
 (r_6 = 0 →
  cA S_6 x0 11 ∧ ((∃ mc24 ms25 : Nat, cd + mc24 ≤ mc ∧ dd + ms25 ≤ ms ∧ (k_X11_flushBuffer (fun r_26 S_26 => 
  ((¬ r_26 = (((-2))) →
    kx_X11_prepare_63 E Q dp mc ms  x0 (cd + mc24) (dd + ms25) S_26) ∧
   (r_26 = (((-2))) →
    False))) dp mc24 ms25 x0 S_6)))))) dp b5 S)))))
def kx_X11_prepare (E : String) (Q : cS → Prop) (dp : Nat) (mc ms : Nat) (x0 : Nat) (S : cS) : Prop :=
cA S x0 11 ∧ ((((0 ≤ mc ∧ 0 ≤ ms) ∧ (k_X11_checkUp (fun S_3 => 
cA S_3 x0 11 ∧ (((cr S_3 359 x0 = none →
  cA S_3 x0 11 ∧ (((((ci S_3 366 x0)) < ((nI 200)) →
    kx_X11_prepare_41 E Q dp mc ms  x0 0 0 S_3) ∧
   (¬ ((ci S_3 366 x0)) < ((nI 200)) →
    cA S_3 x0 11 ∧ ((∃ b27 : Nat, cr S_3 354 x0 = some b27 ∧ (cA S_3 b27 12 ∧ ((0 ≤ mc ∧ 0 ≤ ms) ∧ (k_Jx4a65c_isEmpty_aae02 (fun r_28 S_28 => 
    ((¬ r_28 = 0 →
      kx_X11_prepare_41 E Q dp mc ms  x0 0 0 S_28) ∧
     (r_28 = 0 →
      E = "java/lang/IllegalStateException" ∧ (0 + 1 ≤ mc ∧ 0 + 6 ≤ ms) ∧ Q S_28))) dp b27 S_3))))))))) ∧
 (∀ b4 : Nat, cr S_3 359 x0 = some b4 →
  E = "java/lang/IllegalStateException" ∧ (0 + 1 ≤ mc ∧ 0 + 6 ≤ ms) ∧ Q S_3)))) dp x0 S)) ∨
 (∃ mc1 ms2 : Nat, (0 + mc1 ≤ mc ∧ 0 + ms2 ≤ ms) ∧ kx_X11_checkUp E Q dp mc1 ms2 x0 S)))
section Sx_X11_prepare
variable {p : Program} {l : Launch} {e : Env} {s : State} {m : MethodId} {args : Array Value} {below : List Frame} {meth : Method} {c : Code} {A : Nat → Prop} {D : va_G} {Y : cY} {tp dp : Nat}
set_option maxRecDepth 20000 in
theorem tbx_X11_prepare_77 {E : String} {mc ms : Nat} (C : cC p s m args meth c cX11_prepare 3 (some .int) A D Y tp dp RX11) (hlt : l.stackTraces = false) (hne : ∀ x ∈ c.exceptionTable.toList, False) {post : cS → Prop} {R77 : Nat → Int32 → Int32 → Nat → Nat → cS → Prop} (hR77 : ∀ (x0 : Nat) (x1 : Int32) (x2 : Int32) (cd dd : Nat) (S : cS), R77 x0 x1 x2 cd dd S → cG p l e (cRm 10 mc ms 241) s m args below meth c A D Y 3 (vx_MQ below (fun _ _ _ _ => False) (cXB E post D Y A) args s mc ms A) cd dd 77 [(0, .ref x0), (1, .int x1), (2, .int x2)] [] S) (x0 : Nat) (x1 : Int32) (x2 : Int32) (cd dd : Nat) (S : cS) (h : kx_X11_prepare_77 E post dp mc ms R77 x0 x1 x2 cd dd S) : cG p l e (cRm 10 mc ms 241) s m args below meth c A D Y 3 (vx_MQ below (fun _ _ _ _ => False) (cXB E post D Y A) args s mc ms A) cd dd 77 [(0, .ref x0), (1, .int x1), (2, .int x2)] [] S := by
  unfold kx_X11_prepare_77 at h
  refine cg_iload_n C (i := 2) rfl 2 rfl dX11_prepare_77 ?_
  refine cg_iload_n C (i := 1) rfl 1 rfl dX11_prepare_78 ?_
  refine cg_icmp_gt C 98 (by decide) dX11_prepare_79 (fun c_ => ?_) (fun c_ => ?_)
  · have h := h.1 c_
    refine cg_aload_n C (i := 0) rfl 0 rfl dX11_prepare_98 ?_
    refine cg_aload_n C (i := 0) rfl 0 rfl dX11_prepare_99 ?_
    obtain ⟨hc_100, h⟩ := h
    obtain ⟨b10, hb_b10, h⟩ := h
    refine cg_get C (k := 11) (j := 3) (.ref b10) hc_100.1 hc_100.2 (by decide) rfl (by decide) rfl (show cV _ 11 3 x0 = _ from congrArg va_rf hb_b10) cWs_wsX110 cl_X11_35 rfl dX11_prepare_100 ?_
    refine cg_iconst C (x := nI 0) rfl dX11_prepare_103 ?_
    refine cg_aload_n C (i := 0) rfl 0 rfl dX11_prepare_104 ?_
    obtain ⟨hc_105, h⟩ := h
    obtain ⟨b11, hb_b11, h⟩ := h
    refine cg_get C (k := 11) (j := 3) (.ref b11) hc_105.1 hc_105.2 (by decide) rfl (by decide) rfl (show cV _ 11 3 x0 = _ from congrArg va_rf hb_b11) cWs_wsX110 cl_X11_35 rfl dX11_prepare_105 ?_
    obtain ⟨hc_108, h⟩ := h
    obtain ⟨hb_108, h⟩ := h
    refine cg_calli C (t_X10_size l b11 S dp h) cc_X11_240 hc_108.1 hc_108.2 (by decide) rfl rfl ⟨by decide, by decide⟩ hb_108 rfl (Nat.le_of_ble_eq_true rfl) dX11_prepare_108 (fun r_12 S_12 h => ?_)
    simp only [Nat.add_zero]
    obtain ⟨hc_111, h⟩ := h
    obtain ⟨mc13, ms14, hm_1, hm_2, h⟩ := h
    refine cg_callr C (t_X10_copyOf l mc13 ms14 b10 ((nI 0)) r_12 S_12 dp h) cc_X11_218 hc_111.1 hc_111.2 (by decide) rfl rfl ⟨by decide, by decide⟩ ⟨hm_1, hm_2⟩ rfl (Nat.le_of_ble_eq_true rfl) dX11_prepare_111 (fun r_15 S_15 h => ?_)
    obtain ⟨hc_114, h⟩ := h
    refine cg_putr C (k := 11) (j := 7) (x := (some r_15)) (ty := tyX11) (fty := tyX11 7) hc_114.1 hc_114.2 (by decide) rfl (by decide) rfl (by decide) rfl cWs_wsX110 tyX11_ok nmX11 cl_X11_49 rfl rfl rfl rfl rfl dX11_prepare_114 ?_
    refine cg_nm (fun S16 e_S16 => ?_)
    have h := h S16 e_S16
    refine cg_aload_n C (i := 0) rfl 0 rfl dX11_prepare_117 ?_
    obtain ⟨hc_118, h⟩ := h
    obtain ho | ⟨b17, ho⟩ := c_opt (cr S16 359 x0)
    · have h := h.1 ho
      refine cg_get C (k := 11) (j := 7) (.null) hc_118.1 hc_118.2 (by decide) rfl (by decide) rfl (show cV _ 11 7 x0 = _ from congrArg va_rf ho) cWs_wsX110 cl_X11_49 rfl dX11_prepare_118 ?_
      exact h.elim
    · have h := h.2 b17 ho
      refine cg_get C (k := 11) (j := 7) (.ref b17) hc_118.1 hc_118.2 (by decide) rfl (by decide) rfl (show cV _ 11 7 x0 = _ from congrArg va_rf ho) cWs_wsX110 cl_X11_49 rfl dX11_prepare_118 ?_
      obtain ⟨hc_121, h⟩ := h
      obtain ⟨hb_121, h⟩ := h
      refine cg_calli C (t_X10_size l b17 S16 dp h) cc_X11_240 hc_121.1 hc_121.2 (by decide) rfl rfl ⟨by decide, by decide⟩ hb_121 rfl (Nat.le_of_ble_eq_true rfl) dX11_prepare_121 (fun r_18 S_18 h => ?_)
      simp only [Nat.add_zero]
      exact h.elim
  · have h := h.2 c_
    refine cg_aload_n C (i := 0) rfl 0 rfl dX11_prepare_82 ?_
    obtain ⟨hc_83, h⟩ := h
    obtain ⟨mc19, ms20, hm_1, hm_2, h⟩ := h
    refine cg_calli C (t_X11_doWrite l mc19 ms20 x0 S dp h) cc_X11_227 hc_83.1 hc_83.2 (by decide) rfl rfl ⟨by decide, by decide⟩ ⟨hm_1, hm_2⟩ rfl (Nat.le_of_ble_eq_true rfl) dX11_prepare_83 (fun r_21 S_21 h => ?_)
    refine cg_if_ne C 92 (by decide) dX11_prepare_86 (fun c_ => ?_) (fun c_ => ?_)
    · have h := h.1 c_
      obtain ⟨x2_22, e_x2_22⟩ : ∃ z : Int32, z = x2 + nI 1 := ⟨_, rfl⟩
      have h := h x2_22 e_x2_22
      refine cg_iinc C (lv' := [(2, .int x2_22), (0, .ref x0), (1, .int x1)]) 2 rfl (by rw [e_x2_22]; rfl) (Nat.le_of_ble_eq_true rfl) rfl dX11_prepare_92 ?_
      refine cg_goto C 77 (by decide) dX11_prepare_95 ?_
      exact cg_sub [1, 2, 0] rfl (hR77 x0 x1 x2_22 (cd + mc19) (dd + ms20) S_21 h)
    · have h := h.2 c_
      refine cg_bipush C (x := (-2)) rfl dX11_prepare_89 ?_
      exact h.elim
set_option maxRecDepth 20000 in
theorem tlx_X11_prepare_77 {E : String} {mc ms : Nat} (C : cC p s m args meth c cX11_prepare 3 (some .int) A D Y tp dp RX11) (hlt : l.stackTraces = false) (hne : ∀ x ∈ c.exceptionTable.toList, False) {post : cS → Prop}   (x0 : Nat) (x1 : Int32) (x2 : Int32) (cd dd : Nat) (S : cS) (h : kx_X11_prepare_77L E post dp mc ms  x0 x1 x2 cd dd S) : cG p l e (cRm 10 mc ms 241) s m args below meth c A D Y 3 (vx_MQ below (fun _ _ _ _ => False) (cXB E post D Y A) args s mc ms A) cd dd 77 [(0, .ref x0), (1, .int x1), (2, .int x2)] [] S :=
  h (fun y => cG p l e (cRm 10 mc ms 241) s m args below meth c A D Y 3 (vx_MQ below (fun _ _ _ _ => False) (cXB E post D Y A) args s mc ms A) (y.2.2.2.1) (y.2.2.2.2.1) 77 [(0, .ref (y.1)), (1, .int (y.2.1)), (2, .int (y.2.2.1))] [] (y.2.2.2.2.2)) (fun y hy => tbx_X11_prepare_77 C hlt hne  (fun b0 b1 b2 b3 b4 S z => z) (y.1) (y.2.1) (y.2.2.1) (y.2.2.2.1) (y.2.2.2.2.1) (y.2.2.2.2.2) hy)
set_option maxRecDepth 20000 in
theorem tbx_X11_prepare_63 {E : String} {mc ms : Nat} (C : cC p s m args meth c cX11_prepare 3 (some .int) A D Y tp dp RX11) (hlt : l.stackTraces = false) (hne : ∀ x ∈ c.exceptionTable.toList, False) {post : cS → Prop}   (x0 : Nat) (cd dd : Nat) (S : cS) (h : kx_X11_prepare_63 E post dp mc ms  x0 cd dd S) : cG p l e (cRm 10 mc ms 241) s m args below meth c A D Y 3 (vx_MQ below (fun _ _ _ _ => False) (cXB E post D Y A) args s mc ms A) cd dd 63 [(0, .ref x0)] [] S := by
  unfold kx_X11_prepare_63 at h
  refine cg_aload_n C (i := 0) rfl 0 rfl dX11_prepare_63 ?_
  obtain ⟨hc_64, h⟩ := h
  obtain ⟨b7, hb_b7, h⟩ := h
  refine cg_get C (k := 11) (j := 3) (.ref b7) hc_64.1 hc_64.2 (by decide) rfl (by decide) rfl (show cV _ 11 3 x0 = _ from congrArg va_rf hb_b7) cWs_wsX110 cl_X11_35 rfl dX11_prepare_64 ?_
  refine cg_aload_n C (i := 0) rfl 0 rfl dX11_prepare_67 ?_
  obtain ⟨hc_68, h⟩ := h
  obtain ho | ⟨b8, ho⟩ := c_opt (cr S 358 x0)
  · have h := h.1 ho
    refine cg_get C (k := 11) (j := 6) (.null) hc_68.1 hc_68.2 (by decide) rfl (by decide) rfl (show cV _ 11 6 x0 = _ from congrArg va_rf ho) cWs_wsX110 cl_X11_46 rfl dX11_prepare_68 ?_
    obtain ⟨hc_71, h⟩ := h
    obtain ⟨hb_71, h⟩ := h
    refine cg_calli C (t_X10_changedSince l b7 none S dp h) cc_X11_236 hc_71.1 hc_71.2 (by decide) rfl rfl ⟨by decide, by decide⟩ hb_71 rfl (Nat.le_of_ble_eq_true rfl) dX11_prepare_71 (fun r_9 S_9 h => ?_)
    simp only [Nat.add_zero]
    refine cg_istore_n C (i := 1) (lv' := [(1, .int r_9), (0, .ref x0)]) rfl (Nat.le_of_ble_eq_true rfl) rfl dX11_prepare_74 ?_
    refine cg_iconst C (x := nI 0) rfl dX11_prepare_75 ?_
    refine cg_istore_n C (i := 2) (lv' := [(2, .int ((nI 0))), (1, .int r_9), (0, .ref x0)]) rfl (Nat.le_of_ble_eq_true rfl) rfl dX11_prepare_76 ?_
    exact cg_sub [2, 1, 0] rfl (tlx_X11_prepare_77 C hlt hne  x0 r_9 (((nI 0))) cd dd S_9 h)
  · have h := h.2 b8 ho
    refine cg_get C (k := 11) (j := 6) (.ref b8) hc_68.1 hc_68.2 (by decide) rfl (by decide) rfl (show cV _ 11 6 x0 = _ from congrArg va_rf ho) cWs_wsX110 cl_X11_46 rfl dX11_prepare_68 ?_
    obtain ⟨hc_71, h⟩ := h
    obtain ⟨hb_71, h⟩ := h
    refine cg_calli C (t_X10_changedSince l b7 (some b8) S dp h) cc_X11_236 hc_71.1 hc_71.2 (by decide) rfl rfl ⟨by decide, by decide⟩ hb_71 rfl (Nat.le_of_ble_eq_true rfl) dX11_prepare_71 (fun r_23 S_23 h => ?_)
    simp only [Nat.add_zero]
    refine cg_istore_n C (i := 1) (lv' := [(1, .int r_23), (0, .ref x0)]) rfl (Nat.le_of_ble_eq_true rfl) rfl dX11_prepare_74 ?_
    refine cg_iconst C (x := nI 0) rfl dX11_prepare_75 ?_
    refine cg_istore_n C (i := 2) (lv' := [(2, .int ((nI 0))), (1, .int r_23), (0, .ref x0)]) rfl (Nat.le_of_ble_eq_true rfl) rfl dX11_prepare_76 ?_
    exact cg_sub [2, 1, 0] rfl (tlx_X11_prepare_77 C hlt hne  x0 r_23 (((nI 0))) cd dd S_23 h)
set_option maxRecDepth 20000 in
theorem tbx_X11_prepare_41 {E : String} {mc ms : Nat} (C : cC p s m args meth c cX11_prepare 3 (some .int) A D Y tp dp RX11) (hlt : l.stackTraces = false) (hne : ∀ x ∈ c.exceptionTable.toList, False) {post : cS → Prop}   (x0 : Nat) (cd dd : Nat) (S : cS) (h : kx_X11_prepare_41 E post dp mc ms  x0 cd dd S) : cG p l e (cRm 10 mc ms 241) s m args below meth c A D Y 3 (vx_MQ below (fun _ _ _ _ => False) (cXB E post D Y A) args s mc ms A) cd dd 41 [(0, .ref x0)] [] S := by
  unfold kx_X11_prepare_41 at h
  refine cg_aload_n C (i := 0) rfl 0 rfl dX11_prepare_41 ?_
  obtain ⟨hc_42, h⟩ := h
  obtain ⟨b5, hb_b5, h⟩ := h
  refine cg_get C (k := 11) (j := 2) (.ref b5) hc_42.1 hc_42.2 (by decide) rfl (by decide) rfl (show cV _ 11 2 x0 = _ from congrArg va_rf hb_b5) cWs_wsX110 cl_X11_26 rfl dX11_prepare_42 ?_
  obtain ⟨hc_45, h⟩ := h
  obtain ⟨hb_45, h⟩ := h
  refine cg_calli C (t_Jx4a65c_isEmpty_aae02 l b5 S dp h) cc_X11_206 hc_45.1 hc_45.2 (by decide) rfl rfl ⟨by decide, by decide⟩ hb_45 rfl (Nat.le_of_ble_eq_true rfl) dX11_prepare_45 (fun r_6 S_6 h => ?_)
  simp only [Nat.add_zero]
  refine cg_if_ne C 63 (by decide) dX11_prepare_48 (fun c_ => ?_) (fun c_ => ?_)
  · have h := h.1 c_
    exact cg_sub [0] rfl (tbx_X11_prepare_63 C hlt hne  x0 cd dd S_6 h)
  · have h := h.2 c_
    refine cg_aload_n C (i := 0) rfl 0 rfl dX11_prepare_51 ?_
    obtain ⟨hc_52, h⟩ := h
    obtain ⟨mc24, ms25, hm_1, hm_2, h⟩ := h
    refine cg_calli C (t_X11_flushBuffer l mc24 ms25 x0 S_6 dp h) cc_X11_210 hc_52.1 hc_52.2 (by decide) rfl rfl ⟨by decide, by decide⟩ ⟨hm_1, hm_2⟩ rfl (Nat.le_of_ble_eq_true rfl) dX11_prepare_52 (fun r_26 S_26 h => ?_)
    refine cg_bipush C (x := (-2)) rfl dX11_prepare_55 ?_
    refine cg_icmp_ne C 63 (by decide) dX11_prepare_57 (fun c_ => ?_) (fun c_ => ?_)
    · have h := h.1 c_
      exact cg_sub [0] rfl (tbx_X11_prepare_63 C hlt hne  x0 (cd + mc24) (dd + ms25) S_26 h)
    · have h := h.2 c_
      refine cg_bipush C (x := (-2)) rfl dX11_prepare_60 ?_
      exact h.elim
end Sx_X11_prepare
set_option maxHeartbeats 1000000 in
set_option maxRecDepth 20000 in
theorem tx_X11_prepare (l : Launch) (hlt : l.stackTraces = false) (E : String) (mc ms : Nat) (x0 : Nat) (S : cS) (dp : Nat) {P : cS → Prop} (h : kx_X11_prepare E P dp mc ms x0 S) : cMetX E P l yX11_prepare cX11_prepare 3 (some .int) 10 mc ms 241 [.ref x0] S dp := by
  intro D Y tp sz
  refine cg_bodyX (by decide +kernel) (Nat.le_of_ble_eq_true rfl) ?_
  intro p e s m args below meth c C hne
  generalize va_A (cWd Y S) sz = A at C ⊢
  have C : cC p s m args meth c cX11_prepare 3 (some .int) A D Y tp dp RX11 := C
  refine cg_lv (lv' := [(0, .ref x0)]) rfl ?_
  unfold kx_X11_prepare at h
  refine cg_aload_n C (i := 0) rfl 0 rfl dX11_prepare_0 ?_
  obtain ⟨hc_1, h⟩ := h
  rcases h with h | ⟨mc1, ms2, hm_, h⟩
  · obtain ⟨hb_1, h⟩ := h
    refine cg_callv C (t_X11_checkUp l x0 S dp h) cc_X11_177 hc_1.1 hc_1.2 (by decide) rfl rfl ⟨by decide, by decide⟩ hb_1 rfl (Nat.le_of_ble_eq_true rfl) dX11_prepare_1 (fun S_3 h => ?_)
    simp only [Nat.add_zero]
    refine cg_aload_n C (i := 0) rfl 0 rfl dX11_prepare_4 ?_
    obtain ⟨hc_5, h⟩ := h
    obtain ho | ⟨b4, ho⟩ := c_opt (cr S_3 359 x0)
    · have h := h.1 ho
      refine cg_get C (k := 11) (j := 7) (.null) hc_5.1 hc_5.2 (by decide) rfl (by decide) rfl (show cV _ 11 7 x0 = _ from congrArg va_rf ho) cWs_wsX110 cl_X11_49 rfl dX11_prepare_5 ?_
      refine cg_ifnonnullN C dX11_prepare_8 ?_
      refine cg_aload_n C (i := 0) rfl 0 rfl dX11_prepare_11 ?_
      obtain ⟨hc_12, h⟩ := h
      refine cg_get C (k := 11) (j := 14) (.int (ci S_3 366 x0)) hc_12.1 hc_12.2 (by decide) rfl (by decide) rfl rfl cWs_wsX110 cl_X11_84 rfl dX11_prepare_12 ?_
      refine cg_sipush C (x := nI 200) rfl dX11_prepare_15 ?_
      refine cg_icmp_lt C 41 (by decide) dX11_prepare_18 (fun c_ => ?_) (fun c_ => ?_)
      · have h := h.1 c_
        exact cg_sub [0] rfl (tbx_X11_prepare_41 C hlt hne  x0 0 0 S_3 h)
      · have h := h.2 c_
        refine cg_aload_n C (i := 0) rfl 0 rfl dX11_prepare_21 ?_
        obtain ⟨hc_22, h⟩ := h
        obtain ⟨b27, hb_b27, h⟩ := h
        refine cg_get C (k := 11) (j := 2) (.ref b27) hc_22.1 hc_22.2 (by decide) rfl (by decide) rfl (show cV _ 11 2 x0 = _ from congrArg va_rf hb_b27) cWs_wsX110 cl_X11_26 rfl dX11_prepare_22 ?_
        obtain ⟨hc_25, h⟩ := h
        obtain ⟨hb_25, h⟩ := h
        refine cg_calli C (t_Jx4a65c_isEmpty_aae02 l b27 S_3 dp h) cc_X11_206 hc_25.1 hc_25.2 (by decide) rfl rfl ⟨by decide, by decide⟩ hb_25 rfl (Nat.le_of_ble_eq_true rfl) dX11_prepare_25 (fun r_28 S_28 h => ?_)
        simp only [Nat.add_zero]
        refine cg_if_ne C 41 (by decide) dX11_prepare_28 (fun c_ => ?_) (fun c_ => ?_)
        · have h := h.1 c_
          exact cg_sub [0] rfl (tbx_X11_prepare_41 C hlt hne  x0 0 0 S_28 h)
        · have h := h.2 c_
          obtain ⟨hE_, hb_, h⟩ := h
          rw [hE_]
          exact cg_throw2 C hlt hne "no commit can be prepared now" ce_X11_116 cei_2 (by decide) dX11_prepare_31 dX11_prepare_34 dX11_prepare_35 dX11_prepare_37 dX11_prepare_40 (by decide) (Nat.le_of_ble_eq_true rfl) hb_ hb_ h
    · have h := h.2 b4 ho
      refine cg_get C (k := 11) (j := 7) (.ref b4) hc_5.1 hc_5.2 (by decide) rfl (by decide) rfl (show cV _ 11 7 x0 = _ from congrArg va_rf ho) cWs_wsX110 cl_X11_49 rfl dX11_prepare_5 ?_
      refine cg_ifnonnull C 31 (by decide) dX11_prepare_8 ?_
      obtain ⟨hE_, hb_, h⟩ := h
      rw [hE_]
      exact cg_throw2 C hlt hne "no commit can be prepared now" ce_X11_116 cei_2 (by decide) dX11_prepare_31 dX11_prepare_34 dX11_prepare_35 dX11_prepare_37 dX11_prepare_40 (by decide) (Nat.le_of_ble_eq_true rfl) hb_ hb_ h
  · exact cg_callx C hne (tx_X11_checkUp l hlt E mc1 ms2 x0 S dp h) cc_X11_177 hc_1.1 hc_1.2 (by decide) rfl rfl ⟨by decide, by decide⟩ hm_ rfl (Nat.le_of_ble_eq_true rfl) dX11_prepare_1 hm_ (fun _ z => z)
def kx_X11_finish (E : String) (Q : cS → Prop) (dp : Nat) (mc ms : Nat) (x0 : Nat) (S : cS) : Prop :=
cA S x0 11 ∧ ((((0 ≤ mc ∧ 0 ≤ ms) ∧ (k_X11_checkUp (fun S_3 => 
cA S_3 x0 11 ∧ (((cr S_3 359 x0 = none →
  E = "java/lang/IllegalStateException" ∧ (0 + 1 ≤ mc ∧ 0 + 6 ≤ ms) ∧ Q S_3) ∧
 (∀ b4 : Nat, cr S_3 359 x0 = some b4 →
  cA S_3 x0 11 ∧ ((∃ mc5 ms6 : Nat, 0 + mc5 ≤ mc ∧ 0 + ms6 ≤ ms ∧ (k_X11_doWrite (fun r_7 S_7 => 
  ((¬ r_7 = 0 →
    cA S_7 x0 11 ∧ (∀ S8 : cS, S8 = cSr S_7 358 x0 ((some b4)) → cA S8 x0 11 ∧ (∀ S9 : cS, S9 = cSr S8 359 x0 none → cA S9 x0 11 ∧ (cA S9 x0 11 ∧ (∀ S10 : cS, S10 = cSi S9 367 x0 ((((ci S9 367 x0)) + ((nI 1)))) → cA S10 x0 11 ∧ (False)))))) ∧
   (r_7 = 0 →
    False))) dp mc5 ms6 x0 S_3))))))) dp x0 S)) ∨
 (∃ mc1 ms2 : Nat, (0 + mc1 ≤ mc ∧ 0 + ms2 ≤ ms) ∧ kx_X11_checkUp E Q dp mc1 ms2 x0 S)))
set_option maxHeartbeats 1000000 in
set_option maxRecDepth 20000 in
theorem tx_X11_finish (l : Launch) (hlt : l.stackTraces = false) (E : String) (mc ms : Nat) (x0 : Nat) (S : cS) (dp : Nat) {P : cS → Prop} (h : kx_X11_finish E P dp mc ms x0 S) : cMetX E P l yX11_finish cX11_finish 2 (some .int) 7 mc ms 153 [.ref x0] S dp := by
  intro D Y tp sz
  refine cg_bodyX (by decide +kernel) (Nat.le_of_ble_eq_true rfl) ?_
  intro p e s m args below meth c C hne
  generalize va_A (cWd Y S) sz = A at C ⊢
  have C : cC p s m args meth c cX11_finish 2 (some .int) A D Y tp dp RX11 := C
  refine cg_lv (lv' := [(0, .ref x0)]) rfl ?_
  unfold kx_X11_finish at h
  refine cg_aload_n C (i := 0) rfl 0 rfl dX11_finish_0 ?_
  obtain ⟨hc_1, h⟩ := h
  rcases h with h | ⟨mc1, ms2, hm_, h⟩
  · obtain ⟨hb_1, h⟩ := h
    refine cg_callv C (t_X11_checkUp l x0 S dp h) cc_X11_177 hc_1.1 hc_1.2 (by decide) rfl rfl ⟨by decide, by decide⟩ hb_1 rfl (Nat.le_of_ble_eq_true rfl) dX11_finish_1 (fun S_3 h => ?_)
    simp only [Nat.add_zero]
    refine cg_aload_n C (i := 0) rfl 0 rfl dX11_finish_4 ?_
    obtain ⟨hc_5, h⟩ := h
    obtain ho | ⟨b4, ho⟩ := c_opt (cr S_3 359 x0)
    · have h := h.1 ho
      refine cg_get C (k := 11) (j := 7) (.null) hc_5.1 hc_5.2 (by decide) rfl (by decide) rfl (show cV _ 11 7 x0 = _ from congrArg va_rf ho) cWs_wsX110 cl_X11_49 rfl dX11_finish_5 ?_
      refine cg_astoreN_n (lv' := [(1, .null), (0, .ref x0)]) C (i := 1) rfl (Nat.le_of_ble_eq_true rfl) rfl dX11_finish_8 ?_
      refine cg_aloadN_n C (i := 1) rfl 0 rfl dX11_finish_9 ?_
      refine cg_ifnonnullN C dX11_finish_10 ?_
      obtain ⟨hE_, hb_, h⟩ := h
      rw [hE_]
      exact cg_throw2 C hlt hne "no commit is prepared" ce_X11_116 cei_2 (by decide) dX11_finish_13 dX11_finish_16 dX11_finish_17 dX11_finish_19 dX11_finish_22 (by decide) (Nat.le_of_ble_eq_true rfl) hb_ hb_ h
    · have h := h.2 b4 ho
      refine cg_get C (k := 11) (j := 7) (.ref b4) hc_5.1 hc_5.2 (by decide) rfl (by decide) rfl (show cV _ 11 7 x0 = _ from congrArg va_rf ho) cWs_wsX110 cl_X11_49 rfl dX11_finish_5 ?_
      refine cg_astore_n (lv' := [(1, .ref b4), (0, .ref x0)]) C (i := 1) rfl (Nat.le_of_ble_eq_true rfl) rfl dX11_finish_8 ?_
      refine cg_aload_n C (i := 1) rfl 0 rfl dX11_finish_9 ?_
      refine cg_ifnonnull C 23 (by decide) dX11_finish_10 ?_
      refine cg_aload_n C (i := 0) rfl 1 rfl dX11_finish_23 ?_
      obtain ⟨hc_24, h⟩ := h
      obtain ⟨mc5, ms6, hm_1, hm_2, h⟩ := h
      refine cg_calli C (t_X11_doWrite l mc5 ms6 x0 S_3 dp h) cc_X11_227 hc_24.1 hc_24.2 (by decide) rfl rfl ⟨by decide, by decide⟩ ⟨hm_1, hm_2⟩ rfl (Nat.le_of_ble_eq_true rfl) dX11_finish_24 (fun r_7 S_7 h => ?_)
      refine cg_if_ne C 33 (by decide) dX11_finish_27 (fun c_ => ?_) (fun c_ => ?_)
      · have h := h.1 c_
        refine cg_aload_n C (i := 0) rfl 1 rfl dX11_finish_33 ?_
        refine cg_aload_n C (i := 1) rfl 0 rfl dX11_finish_34 ?_
        obtain ⟨hc_35, h⟩ := h
        refine cg_putr C (k := 11) (j := 6) (x := (some b4)) (ty := tyX11) (fty := tyX11 6) hc_35.1 hc_35.2 (by decide) rfl (by decide) rfl (by decide) rfl cWs_wsX110 tyX11_ok nmX11 cl_X11_46 rfl rfl rfl rfl rfl dX11_finish_35 ?_
        refine cg_nm (fun S8 e_S8 => ?_)
        have h := h S8 e_S8
        refine cg_aload_n C (i := 0) rfl 1 rfl dX11_finish_38 ?_
        refine cg_null C dX11_finish_39 ?_
        obtain ⟨hc_40, h⟩ := h
        refine cg_putr C (k := 11) (j := 7) (x := none) (ty := tyX11) (fty := tyX11 7) hc_40.1 hc_40.2 (by decide) rfl (by decide) rfl (by decide) rfl cWs_wsX110 tyX11_ok nmX11 cl_X11_49 rfl rfl rfl rfl rfl dX11_finish_40 ?_
        refine cg_nm (fun S9 e_S9 => ?_)
        have h := h S9 e_S9
        refine cg_aload_n C (i := 0) rfl 1 rfl dX11_finish_43 ?_
        refine cg_dup C rfl dX11_finish_44 ?_
        obtain ⟨hc_45, h⟩ := h
        refine cg_get C (k := 11) (j := 15) (.int (ci S9 367 x0)) hc_45.1 hc_45.2 (by decide) rfl (by decide) rfl rfl cWs_wsX110 cl_X11_87 rfl dX11_finish_45 ?_
        refine cg_iconst C (x := nI 1) rfl dX11_finish_48 ?_
        refine cg_iadd C dX11_finish_49 ?_
        obtain ⟨hc_50, h⟩ := h
        refine cg_puti C (k := 11) (j := 15) (ty := tyX11) (fty := .int) hc_50.1 hc_50.2 (by decide) rfl (by decide) rfl (by decide) rfl cWs_wsX110 tyX11_ok nmX11 cl_X11_87 rfl rfl rfl rfl rfl dX11_finish_50 ?_
        refine cg_nm (fun S10 e_S10 => ?_)
        have h := h S10 e_S10
        refine cg_aload_n C (i := 0) rfl 1 rfl dX11_finish_53 ?_
        obtain ⟨hc_54, h⟩ := h
        refine cg_get C (k := 11) (j := 15) (.int (ci S10 367 x0)) hc_54.1 hc_54.2 (by decide) rfl (by decide) rfl rfl cWs_wsX110 cl_X11_87 rfl dX11_finish_54 ?_
        exact h.elim
      · have h := h.2 c_
        refine cg_bipush C (x := (-2)) rfl dX11_finish_30 ?_
        exact h.elim
  · exact cg_callx C hne (tx_X11_checkUp l hlt E mc1 ms2 x0 S dp h) cc_X11_177 hc_1.1 hc_1.2 (by decide) rfl rfl ⟨by decide, by decide⟩ hm_ rfl (Nat.le_of_ble_eq_true rfl) dX11_finish_1 hm_ (fun _ z => z)
def kx_X11_drop (E : String) (Q : cS → Prop) (dp : Nat) (mc ms : Nat) (x0 : Nat) (S : cS) : Prop :=
cA S x0 11 ∧ ((((0 ≤ mc ∧ 0 ≤ ms) ∧ (k_X11_checkUp (fun S_3 => 
cA S_3 x0 11 ∧ (((cr S_3 359 x0 = none →
  E = "java/lang/IllegalStateException" ∧ (0 + 1 ≤ mc ∧ 0 + 6 ≤ ms) ∧ Q S_3) ∧
 (∀ b4 : Nat, cr S_3 359 x0 = some b4 →
  cA S_3 x0 11 ∧ (∀ S5 : cS, S5 = cSr S_3 359 x0 none → False))))) dp x0 S)) ∨
 (∃ mc1 ms2 : Nat, (0 + mc1 ≤ mc ∧ 0 + ms2 ≤ ms) ∧ kx_X11_checkUp E Q dp mc1 ms2 x0 S)))
set_option maxHeartbeats 1000000 in
set_option maxRecDepth 20000 in
theorem tx_X11_drop (l : Launch) (hlt : l.stackTraces = false) (E : String) (mc ms : Nat) (x0 : Nat) (S : cS) (dp : Nat) {P : cS → Prop} (h : kx_X11_drop E P dp mc ms x0 S) : cMetX E P l yX11_drop cX11_drop 1 none 7 mc ms 102 [.ref x0] S dp := by
  intro D Y tp sz
  refine cg_bodyX (by decide +kernel) (Nat.le_of_ble_eq_true rfl) ?_
  intro p e s m args below meth c C hne
  generalize va_A (cWd Y S) sz = A at C ⊢
  have C : cC p s m args meth c cX11_drop 1 none A D Y tp dp RX11 := C
  refine cg_lv (lv' := [(0, .ref x0)]) rfl ?_
  unfold kx_X11_drop at h
  refine cg_aload_n C (i := 0) rfl 0 rfl dX11_drop_0 ?_
  obtain ⟨hc_1, h⟩ := h
  rcases h with h | ⟨mc1, ms2, hm_, h⟩
  · obtain ⟨hb_1, h⟩ := h
    refine cg_callv C (t_X11_checkUp l x0 S dp h) cc_X11_177 hc_1.1 hc_1.2 (by decide) rfl rfl ⟨by decide, by decide⟩ hb_1 rfl (Nat.le_of_ble_eq_true rfl) dX11_drop_1 (fun S_3 h => ?_)
    simp only [Nat.add_zero]
    refine cg_aload_n C (i := 0) rfl 0 rfl dX11_drop_4 ?_
    obtain ⟨hc_5, h⟩ := h
    obtain ho | ⟨b4, ho⟩ := c_opt (cr S_3 359 x0)
    · have h := h.1 ho
      refine cg_get C (k := 11) (j := 7) (.null) hc_5.1 hc_5.2 (by decide) rfl (by decide) rfl (show cV _ 11 7 x0 = _ from congrArg va_rf ho) cWs_wsX110 cl_X11_49 rfl dX11_drop_5 ?_
      refine cg_ifnonnullN C dX11_drop_8 ?_
      obtain ⟨hE_, hb_, h⟩ := h
      rw [hE_]
      exact cg_throw2 C hlt hne "no commit is prepared" ce_X11_116 cei_2 (by decide) dX11_drop_11 dX11_drop_14 dX11_drop_15 dX11_drop_17 dX11_drop_20 (by decide) (Nat.le_of_ble_eq_true rfl) hb_ hb_ h
    · have h := h.2 b4 ho
      refine cg_get C (k := 11) (j := 7) (.ref b4) hc_5.1 hc_5.2 (by decide) rfl (by decide) rfl (show cV _ 11 7 x0 = _ from congrArg va_rf ho) cWs_wsX110 cl_X11_49 rfl dX11_drop_5 ?_
      refine cg_ifnonnull C 21 (by decide) dX11_drop_8 ?_
      refine cg_aload_n C (i := 0) rfl 0 rfl dX11_drop_21 ?_
      refine cg_null C dX11_drop_22 ?_
      obtain ⟨hc_23, h⟩ := h
      refine cg_putr C (k := 11) (j := 7) (x := none) (ty := tyX11) (fty := tyX11 7) hc_23.1 hc_23.2 (by decide) rfl (by decide) rfl (by decide) rfl cWs_wsX110 tyX11_ok nmX11 cl_X11_49 rfl rfl rfl rfl rfl dX11_drop_23 ?_
      refine cg_nm (fun S5 e_S5 => ?_)
      have h := h S5 e_S5
      exact h.elim
  · exact cg_callx C hne (tx_X11_checkUp l hlt E mc1 ms2 x0 S dp h) cc_X11_177 hc_1.1 hc_1.2 (by decide) rfl rfl ⟨by decide, by decide⟩ hm_ rfl (Nat.le_of_ble_eq_true rfl) dX11_drop_1 hm_ (fun _ z => z)
def kx_X11_crashAt (E : String) (Q : cS → Prop) (dp : Nat) (mc ms : Nat) (x0 : Nat) (x1 : Int32) (S : cS) : Prop :=
((x1 < 0 →
  E = "java/lang/IllegalArgumentException" ∧ (0 + 1 ≤ mc ∧ 0 + 6 ≤ ms) ∧ Q S) ∧
 (¬ x1 < 0 →
  ((x1 ≤ ((nI 1000)) →
    cA S x0 11 ∧ ((((0 ≤ mc ∧ 0 ≤ ms) ∧ (k_X11_checkUp (fun S_3 => 
    cA S_3 x0 11 ∧ (∀ S4 : cS, S4 = cSi S_3 369 x0 x1 → False)) dp x0 S)) ∨
     (∃ mc1 ms2 : Nat, (0 + mc1 ≤ mc ∧ 0 + ms2 ≤ ms) ∧ kx_X11_checkUp E Q dp mc1 ms2 x0 S)))) ∧
   (¬ x1 ≤ ((nI 1000)) →
    E = "java/lang/IllegalArgumentException" ∧ (0 + 1 ≤ mc ∧ 0 + 6 ≤ ms) ∧ Q S))))
set_option maxHeartbeats 1000000 in
set_option maxRecDepth 20000 in
theorem tx_X11_crashAt (l : Launch) (hlt : l.stackTraces = false) (E : String) (mc ms : Nat) (x0 : Nat) (x1 : Int32) (S : cS) (dp : Nat) {P : cS → Prop} (h : kx_X11_crashAt E P dp mc ms x0 x1 S) : cMetX E P l yX11_crashAt cX11_crashAt 2 none 7 mc ms 102 [.ref x0, .int x1] S dp := by
  intro D Y tp sz
  refine cg_bodyX (by decide +kernel) (Nat.le_of_ble_eq_true rfl) ?_
  intro p e s m args below meth c C hne
  generalize va_A (cWd Y S) sz = A at C ⊢
  have C : cC p s m args meth c cX11_crashAt 2 none A D Y tp dp RX11 := C
  refine cg_lv (lv' := [(0, .ref x0), (1, .int x1)]) rfl ?_
  unfold kx_X11_crashAt at h
  refine cg_iload_n C (i := 1) rfl 1 rfl dX11_crashAt_0 ?_
  refine cg_if_lt C 11 (by decide) dX11_crashAt_1 (fun c_ => ?_) (fun c_ => ?_)
  · have h := h.1 c_
    obtain ⟨hE_, hb_, h⟩ := h
    rw [hE_]
    exact cg_throw1 C hlt hne "the number of writes is out of range" ce_X11_100 cei_1 (by decide) dX11_crashAt_11 dX11_crashAt_14 dX11_crashAt_15 dX11_crashAt_17 dX11_crashAt_20 (by decide) (Nat.le_of_ble_eq_true rfl) hb_ hb_ h
  · have h := h.2 c_
    refine cg_iload_n C (i := 1) rfl 1 rfl dX11_crashAt_4 ?_
    refine cg_sipush C (x := nI 1000) rfl dX11_crashAt_5 ?_
    refine cg_icmp_le C 21 (by decide) dX11_crashAt_8 (fun c_ => ?_) (fun c_ => ?_)
    · have h := h.1 c_
      refine cg_aload_n C (i := 0) rfl 0 rfl dX11_crashAt_21 ?_
      obtain ⟨hc_22, h⟩ := h
      rcases h with h | ⟨mc1, ms2, hm_, h⟩
      · obtain ⟨hb_22, h⟩ := h
        refine cg_callv C (t_X11_checkUp l x0 S dp h) cc_X11_177 hc_22.1 hc_22.2 (by decide) rfl rfl ⟨by decide, by decide⟩ hb_22 rfl (Nat.le_of_ble_eq_true rfl) dX11_crashAt_22 (fun S_3 h => ?_)
        simp only [Nat.add_zero]
        refine cg_aload_n C (i := 0) rfl 0 rfl dX11_crashAt_25 ?_
        refine cg_iload_n C (i := 1) rfl 1 rfl dX11_crashAt_26 ?_
        obtain ⟨hc_27, h⟩ := h
        refine cg_puti C (k := 11) (j := 17) (ty := tyX11) (fty := .int) hc_27.1 hc_27.2 (by decide) rfl (by decide) rfl (by decide) rfl cWs_wsX110 tyX11_ok nmX11 cl_X11_93 rfl rfl rfl rfl rfl dX11_crashAt_27 ?_
        refine cg_nm (fun S4 e_S4 => ?_)
        have h := h S4 e_S4
        exact h.elim
      · exact cg_callx C hne (tx_X11_checkUp l hlt E mc1 ms2 x0 S dp h) cc_X11_177 hc_22.1 hc_22.2 (by decide) rfl rfl ⟨by decide, by decide⟩ hm_ rfl (Nat.le_of_ble_eq_true rfl) dX11_crashAt_22 hm_ (fun _ z => z)
    · have h := h.2 c_
      obtain ⟨hE_, hb_, h⟩ := h
      rw [hE_]
      exact cg_throw1 C hlt hne "the number of writes is out of range" ce_X11_100 cei_1 (by decide) dX11_crashAt_11 dX11_crashAt_14 dX11_crashAt_15 dX11_crashAt_17 dX11_crashAt_20 (by decide) (Nat.le_of_ble_eq_true rfl) hb_ hb_ h
def kx_X11_open (E : String) (Q : cS → Prop) (dp : Nat) (mc ms : Nat) (x0 : Nat) (S : cS) : Prop :=
cA S x0 11 ∧ (((¬ ((ci S 370 x0)) = 0 →
  cA S x0 11 ∧ (∀ S1 : cS, S1 = cSi S 370 x0 ((bI false)) → cA S1 x0 11 ∧ (∀ S2 : cS, S2 = cSi S1 369 x0 (((-1))) → cA S2 x0 11 ∧ ((∃ mc3 ms4 : Nat, 0 + mc3 ≤ mc ∧ 0 + ms4 ≤ ms ∧ (k_X11_committed (fun r_5 S_5 => 
  cA S_5 x0 11 ∧ (∀ S6 : cS, S6 = cSr S_5 355 x0 ((some r_5)) → cA S6 x0 11 ∧ ((∃ b7 : Nat, cr S6 355 x0 = some b7 ∧ (cA S6 b7 10 ∧ ((0 + mc3 ≤ mc ∧ 0 + ms4 ≤ ms) ∧ (k_X10_size (fun r_8 S_8 => 
  False) dp b7 S6))))))) dp mc3 ms4 x0 S2)))))) ∧
 (((ci S 370 x0)) = 0 →
  E = "java/lang/IllegalStateException" ∧ (0 + 1 ≤ mc ∧ 0 + 6 ≤ ms) ∧ Q S)))
set_option maxHeartbeats 1000000 in
set_option maxRecDepth 20000 in
theorem tx_X11_open (l : Launch) (hlt : l.stackTraces = false) (E : String) (mc ms : Nat) (x0 : Nat) (S : cS) (dp : Nat) {P : cS → Prop} (h : kx_X11_open E P dp mc ms x0 S) : cMetX E P l yX11_open cX11_open 1 (some .int) 10 mc ms 233 [.ref x0] S dp := by
  intro D Y tp sz
  refine cg_bodyX (by decide +kernel) (Nat.le_of_ble_eq_true rfl) ?_
  intro p e s m args below meth c C hne
  generalize va_A (cWd Y S) sz = A at C ⊢
  have C : cC p s m args meth c cX11_open 1 (some .int) A D Y tp dp RX11 := C
  refine cg_lv (lv' := [(0, .ref x0)]) rfl ?_
  unfold kx_X11_open at h
  refine cg_aload_n C (i := 0) rfl 0 rfl dX11_open_0 ?_
  obtain ⟨hc_1, h⟩ := h
  refine cg_get C (k := 11) (j := 18) (.int (ci S 370 x0)) hc_1.1 hc_1.2 (by decide) rfl (by decide) rfl rfl cWs_wsX110 cl_X11_96 rfl dX11_open_1 ?_
  refine cg_if_ne C 17 (by decide) dX11_open_4 (fun c_ => ?_) (fun c_ => ?_)
  · have h := h.1 c_
    refine cg_aload_n C (i := 0) rfl 0 rfl dX11_open_17 ?_
    refine cg_iconst C (x := nI 0) rfl dX11_open_18 ?_
    obtain ⟨hc_19, h⟩ := h
    refine cg_cast (.int (bI false)) rfl ?_
    refine cg_puti C (k := 11) (j := 18) (ty := tyX11) (fty := .boolean) hc_19.1 hc_19.2 (by decide) rfl (by decide) rfl (by decide) rfl cWs_wsX110 tyX11_ok nmX11 cl_X11_96 rfl rfl rfl (bI_nar _) (bI_fit _) dX11_open_19 ?_
    refine cg_nm (fun S1 e_S1 => ?_)
    have h := h S1 e_S1
    refine cg_aload_n C (i := 0) rfl 0 rfl dX11_open_22 ?_
    refine cg_iconst C (x := (-1)) rfl dX11_open_23 ?_
    obtain ⟨hc_24, h⟩ := h
    refine cg_puti C (k := 11) (j := 17) (ty := tyX11) (fty := .int) hc_24.1 hc_24.2 (by decide) rfl (by decide) rfl (by decide) rfl cWs_wsX110 tyX11_ok nmX11 cl_X11_93 rfl rfl rfl rfl rfl dX11_open_24 ?_
    refine cg_nm (fun S2 e_S2 => ?_)
    have h := h S2 e_S2
    refine cg_aload_n C (i := 0) rfl 0 rfl dX11_open_27 ?_
    refine cg_aload_n C (i := 0) rfl 0 rfl dX11_open_28 ?_
    obtain ⟨hc_29, h⟩ := h
    obtain ⟨mc3, ms4, hm_1, hm_2, h⟩ := h
    refine cg_callr C (t_X11_committed l mc3 ms4 x0 S2 dp h) cc_X11_247 hc_29.1 hc_29.2 (by decide) rfl rfl ⟨by decide, by decide⟩ ⟨hm_1, hm_2⟩ rfl (Nat.le_of_ble_eq_true rfl) dX11_open_29 (fun r_5 S_5 h => ?_)
    obtain ⟨hc_32, h⟩ := h
    refine cg_putr C (k := 11) (j := 3) (x := (some r_5)) (ty := tyX11) (fty := tyX11 3) hc_32.1 hc_32.2 (by decide) rfl (by decide) rfl (by decide) rfl cWs_wsX110 tyX11_ok nmX11 cl_X11_35 rfl rfl rfl rfl rfl dX11_open_32 ?_
    refine cg_nm (fun S6 e_S6 => ?_)
    have h := h S6 e_S6
    refine cg_aload_n C (i := 0) rfl 0 rfl dX11_open_35 ?_
    obtain ⟨hc_36, h⟩ := h
    obtain ⟨b7, hb_b7, h⟩ := h
    refine cg_get C (k := 11) (j := 3) (.ref b7) hc_36.1 hc_36.2 (by decide) rfl (by decide) rfl (show cV _ 11 3 x0 = _ from congrArg va_rf hb_b7) cWs_wsX110 cl_X11_35 rfl dX11_open_36 ?_
    obtain ⟨hc_39, h⟩ := h
    obtain ⟨hb_39, h⟩ := h
    refine cg_calli C (t_X10_size l b7 S6 dp h) cc_X11_240 hc_39.1 hc_39.2 (by decide) rfl rfl ⟨by decide, by decide⟩ hb_39 rfl (Nat.le_of_ble_eq_true rfl) dX11_open_39 (fun r_8 S_8 h => ?_)
    simp only [Nat.add_zero]
    exact h.elim
  · have h := h.2 c_
    obtain ⟨hE_, hb_, h⟩ := h
    rw [hE_]
    exact cg_throw2 C hlt hne "the machine is not DOWN" ce_X11_116 cei_2 (by decide) dX11_open_7 dX11_open_10 dX11_open_11 dX11_open_13 dX11_open_16 (by decide) (Nat.le_of_ble_eq_true rfl) hb_ hb_ h
def kx_X11_files (E : String) (Q : cS → Prop) (dp : Nat) (mc ms : Nat) (x0 : Nat) (S : cS) : Prop :=
cA S x0 11 ∧ ((((0 ≤ mc ∧ 0 ≤ ms) ∧ (k_X11_checkUp (fun S_3 => 
cA S_3 x0 11 ∧ ((∃ mc4 ms5 : Nat, 0 + mc4 ≤ mc ∧ 0 + ms5 ≤ ms ∧ (k_X11_fileCount (fun r_6 S_6 => 
False) dp mc4 ms5 x0 S_3)))) dp x0 S)) ∨
 (∃ mc1 ms2 : Nat, (0 + mc1 ≤ mc ∧ 0 + ms2 ≤ ms) ∧ kx_X11_checkUp E Q dp mc1 ms2 x0 S)))
set_option maxHeartbeats 1000000 in
set_option maxRecDepth 20000 in
theorem tx_X11_files (l : Launch) (hlt : l.stackTraces = false) (E : String) (mc ms : Nat) (x0 : Nat) (S : cS) (dp : Nat) {P : cS → Prop} (h : kx_X11_files E P dp mc ms x0 S) : cMetX E P l yX11_files cX11_files 1 (some .int) 7 mc ms 155 [.ref x0] S dp := by
  intro D Y tp sz
  refine cg_bodyX (by decide +kernel) (Nat.le_of_ble_eq_true rfl) ?_
  intro p e s m args below meth c C hne
  generalize va_A (cWd Y S) sz = A at C ⊢
  have C : cC p s m args meth c cX11_files 1 (some .int) A D Y tp dp RX11 := C
  refine cg_lv (lv' := [(0, .ref x0)]) rfl ?_
  unfold kx_X11_files at h
  refine cg_aload_n C (i := 0) rfl 0 rfl dX11_files_0 ?_
  obtain ⟨hc_1, h⟩ := h
  rcases h with h | ⟨mc1, ms2, hm_, h⟩
  · obtain ⟨hb_1, h⟩ := h
    refine cg_callv C (t_X11_checkUp l x0 S dp h) cc_X11_177 hc_1.1 hc_1.2 (by decide) rfl rfl ⟨by decide, by decide⟩ hb_1 rfl (Nat.le_of_ble_eq_true rfl) dX11_files_1 (fun S_3 h => ?_)
    simp only [Nat.add_zero]
    refine cg_aload_n C (i := 0) rfl 0 rfl dX11_files_4 ?_
    obtain ⟨hc_5, h⟩ := h
    obtain ⟨mc4, ms5, hm_1, hm_2, h⟩ := h
    refine cg_calli C (t_X11_fileCount l mc4 ms5 x0 S_3 dp h) cc_X11_251 hc_5.1 hc_5.2 (by decide) rfl rfl ⟨by decide, by decide⟩ ⟨hm_1, hm_2⟩ rfl (Nat.le_of_ble_eq_true rfl) dX11_files_5 (fun r_6 S_6 h => ?_)
    exact h.elim
  · exact cg_callx C hne (tx_X11_checkUp l hlt E mc1 ms2 x0 S dp h) cc_X11_177 hc_1.1 hc_1.2 (by decide) rfl rfl ⟨by decide, by decide⟩ hm_ rfl (Nat.le_of_ble_eq_true rfl) dX11_files_1 hm_ (fun _ z => z)
def kx_X11_segments (E : String) (Q : cS → Prop) (dp : Nat) (mc ms : Nat) (x0 : Nat) (S : cS) : Prop :=
cA S x0 11 ∧ ((((0 ≤ mc ∧ 0 ≤ ms) ∧ (k_X11_checkUp (fun S_3 => 
cA S_3 x0 11 ∧ ((∃ b4 : Nat, cr S_3 355 x0 = some b4 ∧ (cA S_3 b4 10 ∧ ((0 ≤ mc ∧ 0 ≤ ms) ∧ (k_X10_size (fun r_5 S_5 => 
False) dp b4 S_3)))))) dp x0 S)) ∨
 (∃ mc1 ms2 : Nat, (0 + mc1 ≤ mc ∧ 0 + ms2 ≤ ms) ∧ kx_X11_checkUp E Q dp mc1 ms2 x0 S)))
set_option maxHeartbeats 1000000 in
set_option maxRecDepth 20000 in
theorem tx_X11_segments (l : Launch) (hlt : l.stackTraces = false) (E : String) (mc ms : Nat) (x0 : Nat) (S : cS) (dp : Nat) {P : cS → Prop} (h : kx_X11_segments E P dp mc ms x0 S) : cMetX E P l yX11_segments cX11_segments 1 (some .int) 7 mc ms 102 [.ref x0] S dp := by
  intro D Y tp sz
  refine cg_bodyX (by decide +kernel) (Nat.le_of_ble_eq_true rfl) ?_
  intro p e s m args below meth c C hne
  generalize va_A (cWd Y S) sz = A at C ⊢
  have C : cC p s m args meth c cX11_segments 1 (some .int) A D Y tp dp RX11 := C
  refine cg_lv (lv' := [(0, .ref x0)]) rfl ?_
  unfold kx_X11_segments at h
  refine cg_aload_n C (i := 0) rfl 0 rfl dX11_segments_0 ?_
  obtain ⟨hc_1, h⟩ := h
  rcases h with h | ⟨mc1, ms2, hm_, h⟩
  · obtain ⟨hb_1, h⟩ := h
    refine cg_callv C (t_X11_checkUp l x0 S dp h) cc_X11_177 hc_1.1 hc_1.2 (by decide) rfl rfl ⟨by decide, by decide⟩ hb_1 rfl (Nat.le_of_ble_eq_true rfl) dX11_segments_1 (fun S_3 h => ?_)
    simp only [Nat.add_zero]
    refine cg_aload_n C (i := 0) rfl 0 rfl dX11_segments_4 ?_
    obtain ⟨hc_5, h⟩ := h
    obtain ⟨b4, hb_b4, h⟩ := h
    refine cg_get C (k := 11) (j := 3) (.ref b4) hc_5.1 hc_5.2 (by decide) rfl (by decide) rfl (show cV _ 11 3 x0 = _ from congrArg va_rf hb_b4) cWs_wsX110 cl_X11_35 rfl dX11_segments_5 ?_
    obtain ⟨hc_8, h⟩ := h
    obtain ⟨hb_8, h⟩ := h
    refine cg_calli C (t_X10_size l b4 S_3 dp h) cc_X11_240 hc_8.1 hc_8.2 (by decide) rfl rfl ⟨by decide, by decide⟩ hb_8 rfl (Nat.le_of_ble_eq_true rfl) dX11_segments_8 (fun r_5 S_5 h => ?_)
    simp only [Nat.add_zero]
    exact h.elim
  · exact cg_callx C hne (tx_X11_checkUp l hlt E mc1 ms2 x0 S dp h) cc_X11_177 hc_1.1 hc_1.2 (by decide) rfl rfl ⟨by decide, by decide⟩ hm_ rfl (Nat.le_of_ble_eq_true rfl) dX11_segments_1 hm_ (fun _ z => z)
def kx_X11_holdingAt (E : String) (Q : cS → Prop) (dp : Nat) (mc ms : Nat) (x0 : Nat) (x1 : Int32) (S : cS) : Prop :=
cA S x0 11 ∧ ((∃ b1 : Nat, cr S 355 x0 = some b1 ∧ (cA S b1 10 ∧ ((0 ≤ mc ∧ 0 ≤ ms) ∧ (k_X10_at (fun r_2 S_2 => 
((r_2 = none →
  cA S_2 x0 11 ∧ (((¬ ((ci S_2 370 x0)) = 0 →
    E = "java/lang/IndexOutOfBoundsException" ∧ (0 + 1 ≤ mc ∧ 0 + 6 ≤ ms) ∧ Q S_2) ∧
   (((ci S_2 370 x0)) = 0 →
    E = "java/lang/IndexOutOfBoundsException" ∧ (0 + 1 ≤ mc ∧ 0 + 6 ≤ ms) ∧ Q S_2)))) ∧
 (∀ b3 : Nat, r_2 = some b3 →
  cA S_2 x0 11 ∧ (((¬ ((ci S_2 370 x0)) = 0 →
    E = "java/lang/IndexOutOfBoundsException" ∧ (0 + 1 ≤ mc ∧ 0 + 6 ≤ ms) ∧ Q S_2) ∧
   (((ci S_2 370 x0)) = 0 →
    False)))))) dp b1 x1 S)))))
set_option maxHeartbeats 1000000 in
set_option maxRecDepth 20000 in
theorem tx_X11_holdingAt (l : Launch) (hlt : l.stackTraces = false) (E : String) (mc ms : Nat) (x0 : Nat) (x1 : Int32) (S : cS) (dp : Nat) {P : cS → Prop} (h : kx_X11_holdingAt E P dp mc ms x0 x1 S) : cMetX E P l yX11_holdingAt cX11_holdingAt 3 (some (.object "SearchMill$Holding")) 6 mc ms 85 [.ref x0, .int x1] S dp := by
  intro D Y tp sz
  refine cg_bodyX (by decide +kernel) (Nat.le_of_ble_eq_true rfl) ?_
  intro p e s m args below meth c C hne
  generalize va_A (cWd Y S) sz = A at C ⊢
  have C : cC p s m args meth c cX11_holdingAt 3 (some (.object "SearchMill$Holding")) A D Y tp dp RX11 := C
  refine cg_lv (lv' := [(0, .ref x0), (1, .int x1)]) rfl ?_
  unfold kx_X11_holdingAt at h
  refine cg_aload_n C (i := 0) rfl 0 rfl dX11_holdingAt_0 ?_
  obtain ⟨hc_1, h⟩ := h
  obtain ⟨b1, hb_b1, h⟩ := h
  refine cg_get C (k := 11) (j := 3) (.ref b1) hc_1.1 hc_1.2 (by decide) rfl (by decide) rfl (show cV _ 11 3 x0 = _ from congrArg va_rf hb_b1) cWs_wsX110 cl_X11_35 rfl dX11_holdingAt_1 ?_
  refine cg_iload_n C (i := 1) rfl 1 rfl dX11_holdingAt_4 ?_
  obtain ⟨hc_5, h⟩ := h
  obtain ⟨hb_5, h⟩ := h
  refine cg_callq C (t_X10_at l b1 x1 S dp h) cc_X11_478 hc_5.1 hc_5.2 (by decide) rfl rfl ⟨by decide, by decide⟩ hb_5 rfl (Nat.le_of_ble_eq_true rfl) dX11_holdingAt_5 (fun r_2 S_2 h => ?_)
  simp only [Nat.add_zero]
  obtain ho | ⟨b3, ho⟩ := c_opt r_2
  · replace h := h.1 ho
    subst ho
    refine cg_cast (.null) rfl ?_
    refine cg_astoreN_n (lv' := [(2, .null), (0, .ref x0), (1, .int x1)]) C (i := 2) rfl (Nat.le_of_ble_eq_true rfl) rfl dX11_holdingAt_8 ?_
    refine cg_aload_n C (i := 0) rfl 1 rfl dX11_holdingAt_9 ?_
    obtain ⟨hc_10, h⟩ := h
    refine cg_get C (k := 11) (j := 18) (.int (ci S_2 370 x0)) hc_10.1 hc_10.2 (by decide) rfl (by decide) rfl rfl cWs_wsX110 cl_X11_96 rfl dX11_holdingAt_10 ?_
    refine cg_if_ne C 20 (by decide) dX11_holdingAt_13 (fun c_ => ?_) (fun c_ => ?_)
    · have h := h.1 c_
      obtain ⟨hE_, hb_, h⟩ := h
      rw [hE_]
      exact cg_throw3W C hlt hne "there is no such place" ce_X11_269 cei_3 (by decide) dX11_holdingAt_20 dX11_holdingAt_23 dX11_holdingAt_24 dX11_holdingAt_27 dX11_holdingAt_30 (by decide) (Nat.le_of_ble_eq_true rfl) hb_ hb_ h
    · have h := h.2 c_
      refine cg_aloadN_n C (i := 2) rfl 0 rfl dX11_holdingAt_16 ?_
      refine cg_ifnonnullN C dX11_holdingAt_17 ?_
      obtain ⟨hE_, hb_, h⟩ := h
      rw [hE_]
      exact cg_throw3W C hlt hne "there is no such place" ce_X11_269 cei_3 (by decide) dX11_holdingAt_20 dX11_holdingAt_23 dX11_holdingAt_24 dX11_holdingAt_27 dX11_holdingAt_30 (by decide) (Nat.le_of_ble_eq_true rfl) hb_ hb_ h
  · replace h := h.2 b3 ho
    subst ho
    refine cg_cast (.ref b3) rfl ?_
    refine cg_astore_n (lv' := [(2, .ref b3), (0, .ref x0), (1, .int x1)]) C (i := 2) rfl (Nat.le_of_ble_eq_true rfl) rfl dX11_holdingAt_8 ?_
    refine cg_aload_n C (i := 0) rfl 1 rfl dX11_holdingAt_9 ?_
    obtain ⟨hc_10, h⟩ := h
    refine cg_get C (k := 11) (j := 18) (.int (ci S_2 370 x0)) hc_10.1 hc_10.2 (by decide) rfl (by decide) rfl rfl cWs_wsX110 cl_X11_96 rfl dX11_holdingAt_10 ?_
    refine cg_if_ne C 20 (by decide) dX11_holdingAt_13 (fun c_ => ?_) (fun c_ => ?_)
    · have h := h.1 c_
      obtain ⟨hE_, hb_, h⟩ := h
      rw [hE_]
      exact cg_throw3W C hlt hne "there is no such place" ce_X11_269 cei_3 (by decide) dX11_holdingAt_20 dX11_holdingAt_23 dX11_holdingAt_24 dX11_holdingAt_27 dX11_holdingAt_30 (by decide) (Nat.le_of_ble_eq_true rfl) hb_ hb_ h
    · have h := h.2 c_
      refine cg_aload_n C (i := 2) rfl 0 rfl dX11_holdingAt_16 ?_
      refine cg_ifnonnull C 31 (by decide) dX11_holdingAt_17 ?_
      refine cg_aload_n C (i := 2) rfl 0 rfl dX11_holdingAt_31 ?_
      exact h.elim
def kx_X11_segmentAt (E : String) (Q : cS → Prop) (dp : Nat) (mc ms : Nat) (x0 : Nat) (x1 : Int32) (S : cS) : Prop :=
cA S x0 11 ∧ ((((0 ≤ mc ∧ 0 ≤ ms) ∧ (k_X11_holdingAt (fun r_3 S_3 => 
cA S_3 r_3 2 ∧ ((∃ b4 : Nat, cr S_3 64 r_3 = some b4 ∧ (cA S_3 b4 8 ∧ (False))))) dp x0 x1 S)) ∨
 (∃ mc1 ms2 : Nat, (0 + mc1 ≤ mc ∧ 0 + ms2 ≤ ms) ∧ kx_X11_holdingAt E Q dp mc1 ms2 x0 x1 S)))
set_option maxHeartbeats 1000000 in
set_option maxRecDepth 20000 in
theorem tx_X11_segmentAt (l : Launch) (hlt : l.stackTraces = false) (E : String) (mc ms : Nat) (x0 : Nat) (x1 : Int32) (S : cS) (dp : Nat) {P : cS → Prop} (h : kx_X11_segmentAt E P dp mc ms x0 x1 S) : cMetX E P l yX11_segmentAt cX11_segmentAt 2 (some .int) 7 mc ms 107 [.ref x0, .int x1] S dp := by
  intro D Y tp sz
  refine cg_bodyX (by decide +kernel) (Nat.le_of_ble_eq_true rfl) ?_
  intro p e s m args below meth c C hne
  generalize va_A (cWd Y S) sz = A at C ⊢
  have C : cC p s m args meth c cX11_segmentAt 2 (some .int) A D Y tp dp RX11 := C
  refine cg_lv (lv' := [(0, .ref x0), (1, .int x1)]) rfl ?_
  unfold kx_X11_segmentAt at h
  refine cg_aload_n C (i := 0) rfl 0 rfl dX11_segmentAt_0 ?_
  refine cg_iload_n C (i := 1) rfl 1 rfl dX11_segmentAt_1 ?_
  obtain ⟨hc_2, h⟩ := h
  rcases h with h | ⟨mc1, ms2, hm_, h⟩
  · obtain ⟨hb_2, h⟩ := h
    refine cg_callr C (t_X11_holdingAt l x0 x1 S dp h) cc_X11_254 hc_2.1 hc_2.2 (by decide) rfl rfl ⟨by decide, by decide⟩ hb_2 rfl (Nat.le_of_ble_eq_true rfl) dX11_segmentAt_2 (fun r_3 S_3 h => ?_)
    simp only [Nat.add_zero]
    obtain ⟨hc_5, h⟩ := h
    obtain ⟨b4, hb_b4, h⟩ := h
    refine cg_get C (k := 2) (j := 0) (.ref b4) hc_5.1 hc_5.2 (by decide) rfl (by decide) rfl (show cV _ 2 0 r_3 = _ from congrArg va_rf hb_b4) cWs_wsX20 cl_X11_258 rfl dX11_segmentAt_5 ?_
    obtain ⟨hc_8, h⟩ := h
    refine cg_get C (k := 8) (j := 0) (.int (ci S_3 256 b4)) hc_8.1 hc_8.2 (by decide) rfl (by decide) rfl rfl cWs_wsX80 cl_X11_264 rfl dX11_segmentAt_8 ?_
    exact h.elim
  · exact cg_callx C hne (tx_X11_holdingAt l hlt E mc1 ms2 x0 x1 S dp h) cc_X11_254 hc_2.1 hc_2.2 (by decide) rfl rfl ⟨by decide, by decide⟩ hm_ rfl (Nat.le_of_ble_eq_true rfl) dX11_segmentAt_2 hm_ (fun _ z => z)
def kx_X11_live (E : String) (Q : cS → Prop) (dp : Nat) (mc ms : Nat) (x0 : Nat) (x1 : Int32) (S : cS) : Prop :=
cA S x0 11 ∧ ((((0 ≤ mc ∧ 0 ≤ ms) ∧ (k_X11_holdingAt (fun r_3 S_3 => 
cA S_3 r_3 2 ∧ ((0 ≤ mc ∧ 0 ≤ ms) ∧ (k_X2_liveCount (fun r_4 S_4 => 
False) dp r_3 S_3))) dp x0 x1 S)) ∨
 (∃ mc1 ms2 : Nat, (0 + mc1 ≤ mc ∧ 0 + ms2 ≤ ms) ∧ kx_X11_holdingAt E Q dp mc1 ms2 x0 x1 S)))
set_option maxHeartbeats 1000000 in
set_option maxRecDepth 20000 in
theorem tx_X11_live (l : Launch) (hlt : l.stackTraces = false) (E : String) (mc ms : Nat) (x0 : Nat) (x1 : Int32) (S : cS) (dp : Nat) {P : cS → Prop} (h : kx_X11_live E P dp mc ms x0 x1 S) : cMetX E P l yX11_live cX11_live 2 (some .int) 7 mc ms 107 [.ref x0, .int x1] S dp := by
  intro D Y tp sz
  refine cg_bodyX (by decide +kernel) (Nat.le_of_ble_eq_true rfl) ?_
  intro p e s m args below meth c C hne
  generalize va_A (cWd Y S) sz = A at C ⊢
  have C : cC p s m args meth c cX11_live 2 (some .int) A D Y tp dp RX11 := C
  refine cg_lv (lv' := [(0, .ref x0), (1, .int x1)]) rfl ?_
  unfold kx_X11_live at h
  refine cg_aload_n C (i := 0) rfl 0 rfl dX11_live_0 ?_
  refine cg_iload_n C (i := 1) rfl 1 rfl dX11_live_1 ?_
  obtain ⟨hc_2, h⟩ := h
  rcases h with h | ⟨mc1, ms2, hm_, h⟩
  · obtain ⟨hb_2, h⟩ := h
    refine cg_callr C (t_X11_holdingAt l x0 x1 S dp h) cc_X11_254 hc_2.1 hc_2.2 (by decide) rfl rfl ⟨by decide, by decide⟩ hb_2 rfl (Nat.le_of_ble_eq_true rfl) dX11_live_2 (fun r_3 S_3 h => ?_)
    simp only [Nat.add_zero]
    obtain ⟨hc_5, h⟩ := h
    obtain ⟨hb_5, h⟩ := h
    refine cg_calli C (t_X2_liveCount l r_3 S_3 dp h) cc_X11_267 hc_5.1 hc_5.2 (by decide) rfl rfl ⟨by decide, by decide⟩ hb_5 rfl (Nat.le_of_ble_eq_true rfl) dX11_live_5 (fun r_4 S_4 h => ?_)
    simp only [Nat.add_zero]
    exact h.elim
  · exact cg_callx C hne (tx_X11_holdingAt l hlt E mc1 ms2 x0 x1 S dp h) cc_X11_254 hc_2.1 hc_2.2 (by decide) rfl rfl ⟨by decide, by decide⟩ hm_ rfl (Nat.le_of_ble_eq_true rfl) dX11_live_2 hm_ (fun _ z => z)
def kx_X11_keyAt (E : String) (Q : cS → Prop) (dp : Nat) (mc ms : Nat) (x0 : Nat) (x1 : Int32) (x2 : Int32) (S : cS) : Prop :=
cA S x0 11 ∧ ((((0 ≤ mc ∧ 0 ≤ ms) ∧ (k_X11_holdingAt (fun r_3 S_3 => 
cA S_3 r_3 2 ∧ ((∃ b4 : Nat, cr S_3 64 r_3 = some b4 ∧ (((x2 < 0 →
  E = "java/lang/IndexOutOfBoundsException" ∧ (0 + 1 ≤ mc ∧ 0 + 6 ≤ ms) ∧ Q S_3) ∧
 (¬ x2 < 0 →
  cA S_3 b4 8 ∧ ((0 ≤ mc ∧ 0 ≤ ms) ∧ (k_X8_size (fun r_5 S_5 => 
  ((x2 < r_5 →
    cA S_5 b4 8 ∧ ((∃ b6 : Nat, cr S_5 257 b4 = some b6 ∧ (cA S_5 b6 12 ∧ ((0 ≤ mc ∧ 0 ≤ ms) ∧ (k_Jx4a65c_get_915e3 (fun r_7 S_7 => 
    cA S_7 r_7 0 ∧ (cA S_7 r_7 0 ∧ (False))) dp b6 x2 S_5)))))) ∧
   (¬ x2 < r_5 →
    E = "java/lang/IndexOutOfBoundsException" ∧ (0 + 1 ≤ mc ∧ 0 + 6 ≤ ms) ∧ Q S_5))) dp b4 S_3)))))))) dp x0 x1 S)) ∨
 (∃ mc1 ms2 : Nat, (0 + mc1 ≤ mc ∧ 0 + ms2 ≤ ms) ∧ kx_X11_holdingAt E Q dp mc1 ms2 x0 x1 S)))
set_option maxHeartbeats 1000000 in
set_option maxRecDepth 20000 in
theorem tx_X11_keyAt (l : Launch) (hlt : l.stackTraces = false) (E : String) (mc ms : Nat) (x0 : Nat) (x1 : Int32) (x2 : Int32) (S : cS) (dp : Nat) {P : cS → Prop} (h : kx_X11_keyAt E P dp mc ms x0 x1 x2 S) : cMetX E P l yX11_keyAt cX11_keyAt 4 (some .int) 7 mc ms 107 [.ref x0, .int x1, .int x2] S dp := by
  intro D Y tp sz
  refine cg_bodyX (by decide +kernel) (Nat.le_of_ble_eq_true rfl) ?_
  intro p e s m args below meth c C hne
  generalize va_A (cWd Y S) sz = A at C ⊢
  have C : cC p s m args meth c cX11_keyAt 4 (some .int) A D Y tp dp RX11 := C
  refine cg_lv (lv' := [(0, .ref x0), (1, .int x1), (2, .int x2)]) rfl ?_
  unfold kx_X11_keyAt at h
  refine cg_aload_n C (i := 0) rfl 0 rfl dX11_keyAt_0 ?_
  refine cg_iload_n C (i := 1) rfl 1 rfl dX11_keyAt_1 ?_
  obtain ⟨hc_2, h⟩ := h
  rcases h with h | ⟨mc1, ms2, hm_, h⟩
  · obtain ⟨hb_2, h⟩ := h
    refine cg_callr C (t_X11_holdingAt l x0 x1 S dp h) cc_X11_254 hc_2.1 hc_2.2 (by decide) rfl rfl ⟨by decide, by decide⟩ hb_2 rfl (Nat.le_of_ble_eq_true rfl) dX11_keyAt_2 (fun r_3 S_3 h => ?_)
    simp only [Nat.add_zero]
    obtain ⟨hc_5, h⟩ := h
    obtain ⟨b4, hb_b4, h⟩ := h
    refine cg_get C (k := 2) (j := 0) (.ref b4) hc_5.1 hc_5.2 (by decide) rfl (by decide) rfl (show cV _ 2 0 r_3 = _ from congrArg va_rf hb_b4) cWs_wsX20 cl_X11_258 rfl dX11_keyAt_5 ?_
    refine cg_astore_n (lv' := [(3, .ref b4), (0, .ref x0), (1, .int x1), (2, .int x2)]) C (i := 3) rfl (Nat.le_of_ble_eq_true rfl) rfl dX11_keyAt_8 ?_
    refine cg_iload_n C (i := 2) rfl 3 rfl dX11_keyAt_9 ?_
    refine cg_if_lt C 21 (by decide) dX11_keyAt_10 (fun c_ => ?_) (fun c_ => ?_)
    · have h := h.1 c_
      obtain ⟨hE_, hb_, h⟩ := h
      rw [hE_]
      exact cg_throw3W C hlt hne "there is no such document" ce_X11_269 cei_3 (by decide) dX11_keyAt_21 dX11_keyAt_24 dX11_keyAt_25 dX11_keyAt_28 dX11_keyAt_31 (by decide) (Nat.le_of_ble_eq_true rfl) hb_ hb_ h
    · have h := h.2 c_
      refine cg_iload_n C (i := 2) rfl 3 rfl dX11_keyAt_13 ?_
      refine cg_aload_n C (i := 3) rfl 0 rfl dX11_keyAt_14 ?_
      obtain ⟨hc_15, h⟩ := h
      obtain ⟨hb_15, h⟩ := h
      refine cg_calli C (t_X8_size l b4 S_3 dp h) cc_X11_268 hc_15.1 hc_15.2 (by decide) rfl rfl ⟨by decide, by decide⟩ hb_15 rfl (Nat.le_of_ble_eq_true rfl) dX11_keyAt_15 (fun r_5 S_5 h => ?_)
      simp only [Nat.add_zero]
      refine cg_icmp_lt C 32 (by decide) dX11_keyAt_18 (fun c_ => ?_) (fun c_ => ?_)
      · have h := h.1 c_
        refine cg_aload_n C (i := 3) rfl 0 rfl dX11_keyAt_32 ?_
        obtain ⟨hc_33, h⟩ := h
        obtain ⟨b6, hb_b6, h⟩ := h
        refine cg_get C (k := 8) (j := 1) (.ref b6) hc_33.1 hc_33.2 (by decide) rfl (by decide) rfl (show cV _ 8 1 b4 = _ from congrArg va_rf hb_b6) cWs_wsX80 cl_X11_274 rfl dX11_keyAt_33 ?_
        refine cg_iload_n C (i := 2) rfl 3 rfl dX11_keyAt_36 ?_
        obtain ⟨hc_37, h⟩ := h
        obtain ⟨hb_37, h⟩ := h
        refine cg_callr C (t_Jx4a65c_get_915e3 l b6 x2 S_5 dp h) cc_X11_277 hc_37.1 hc_37.2 (by decide) rfl rfl ⟨by decide, by decide⟩ hb_37 rfl (Nat.le_of_ble_eq_true rfl) dX11_keyAt_37 (fun r_7 S_7 h => ?_)
        simp only [Nat.add_zero]
        obtain ⟨hc_40, h⟩ := h
        refine cg_ccast C (k := 0) hc_40.1 hc_40.2 (by decide) rfl cnc_X11_16 dX11_keyAt_40 ?_
        obtain ⟨hc_43, h⟩ := h
        refine cg_get C (k := 0) (j := 0) (.int (ci S_7 0 r_7)) hc_43.1 hc_43.2 (by decide) rfl (by decide) rfl rfl cWs_wsX00 cl_X11_193 rfl dX11_keyAt_43 ?_
        exact h.elim
      · have h := h.2 c_
        obtain ⟨hE_, hb_, h⟩ := h
        rw [hE_]
        exact cg_throw3W C hlt hne "there is no such document" ce_X11_269 cei_3 (by decide) dX11_keyAt_21 dX11_keyAt_24 dX11_keyAt_25 dX11_keyAt_28 dX11_keyAt_31 (by decide) (Nat.le_of_ble_eq_true rfl) hb_ hb_ h
  · exact cg_callx C hne (tx_X11_holdingAt l hlt E mc1 ms2 x0 x1 S dp h) cc_X11_254 hc_2.1 hc_2.2 (by decide) rfl rfl ⟨by decide, by decide⟩ hm_ rfl (Nat.le_of_ble_eq_true rfl) dX11_keyAt_2 hm_ (fun _ z => z)
def kx_X11_look_52 (E : String) (Q : cS → Prop) (dp : Nat) (mc ms : Nat)  (x0 : Nat) (t0 : Nat) (cd dd : Nat) (S : cS) : Prop :=
cA S x0 11 ∧ (cA S t0 10 ∧ (∀ S9 : cS, S9 = cSi S 320 t0 ((ci S 361 x0)) → cA S9 x0 11 ∧ ((∃ b10 : Nat, cr S9 360 x0 = some b10 ∧ (cA S9 b10 12 ∧ ((∃ mc11 ms12 : Nat, cd + mc11 ≤ mc ∧ dd + ms12 ≤ ms ∧ (k_Jx4a65c_add_9ea2d (fun r_13 S_13 => 
cA S_13 x0 11 ∧ (cA S_13 x0 11 ∧ (∀ S14 : cS, S14 = cSi S_13 361 x0 ((((ci S_13 361 x0)) + ((nI 1)))) → cA S14 t0 10 ∧ (False)))) dp mc11 ms12 b10 t0 S9))))))))
def kx_X11_look (E : String) (Q : cS → Prop) (dp : Nat) (mc ms : Nat) (x0 : Nat) (x1 : Int32) (S : cS) : Prop :=
cA S x0 11 ∧ ((((0 ≤ mc ∧ 0 ≤ ms) ∧ (k_X11_checkUp (fun S_3 => 
cA S_3 x0 11 ∧ ((∃ b4 : Nat, cr S_3 360 x0 = some b4 ∧ (cA S_3 b4 12 ∧ ((0 ≤ mc ∧ 0 ≤ ms) ∧ (k_Jx4a65c_size_8abf5 (fun r_5 S_5 => 
((r_5 < ((nI 5)) →
  ((x1 = 0 →
    cA S_5 x0 11 ∧ ((∃ mc6 ms7 : Nat, 0 + mc6 ≤ mc ∧ 0 + ms7 ≤ ms ∧ (k_X11_committed (fun r_8 S_8 => 
    kx_X11_look_52 E Q dp mc ms  x0 r_8 (0 + mc6) (0 + ms7) S_8) dp mc6 ms7 x0 S_5)))) ∧
   (¬ x1 = 0 →
    cA S_5 x0 11 ∧ ((∃ b15 : Nat, cr S_5 355 x0 = some b15 ∧ (cA S_5 x0 11 ∧ ((∃ b16 : Nat, cr S_5 355 x0 = some b16 ∧ (cA S_5 b16 10 ∧ ((0 ≤ mc ∧ 0 ≤ ms) ∧ (k_X10_size (fun r_17 S_17 => 
    cA S_17 b15 10 ∧ ((∃ mc18 ms19 : Nat, 0 + mc18 ≤ mc ∧ 0 + ms19 ≤ ms ∧ (k_X10_copyOf (fun r_20 S_20 => 
    kx_X11_look_52 E Q dp mc ms  x0 r_20 (0 + mc18) (0 + ms19) S_20) dp mc18 ms19 b15 ((nI 0)) r_17 S_17)))) dp b16 S_5))))))))))) ∧
 (¬ r_5 < ((nI 5)) →
  E = "java/lang/IllegalStateException" ∧ (0 + 1 ≤ mc ∧ 0 + 6 ≤ ms) ∧ Q S_5))) dp b4 S_3)))))) dp x0 S)) ∨
 (∃ mc1 ms2 : Nat, (0 + mc1 ≤ mc ∧ 0 + ms2 ≤ ms) ∧ kx_X11_checkUp E Q dp mc1 ms2 x0 S)))
section Sx_X11_look
variable {p : Program} {l : Launch} {e : Env} {s : State} {m : MethodId} {args : Array Value} {below : List Frame} {meth : Method} {c : Code} {A : Nat → Prop} {D : va_G} {Y : cY} {tp dp : Nat}
set_option maxRecDepth 20000 in
theorem tbx_X11_look_52 {E : String} {mc ms : Nat} (C : cC p s m args meth c cX11_look 3 (some .int) A D Y tp dp RX11) (hlt : l.stackTraces = false) (hne : ∀ x ∈ c.exceptionTable.toList, False) {post : cS → Prop}   (x0 : Nat) (t0 : Nat) (cd dd : Nat) (S : cS) (h : kx_X11_look_52 E post dp mc ms  x0 t0 cd dd S) : cG p l e (cRm 10 mc ms 233) s m args below meth c A D Y 3 (vx_MQ below (fun _ _ _ _ => False) (cXB E post D Y A) args s mc ms A) cd dd 52 [(0, .ref x0)] [.ref t0] S := by
  unfold kx_X11_look_52 at h
  refine cg_astore_n (lv' := [(2, .ref t0), (0, .ref x0)]) C (i := 2) rfl (Nat.le_of_ble_eq_true rfl) rfl dX11_look_52 ?_
  refine cg_aload_n C (i := 2) rfl 0 rfl dX11_look_53 ?_
  refine cg_aload_n C (i := 0) rfl 1 rfl dX11_look_54 ?_
  obtain ⟨hc_55, h⟩ := h
  refine cg_get C (k := 11) (j := 9) (.int (ci S 361 x0)) hc_55.1 hc_55.2 (by decide) rfl (by decide) rfl rfl cWs_wsX110 cl_X11_55 rfl dX11_look_55 ?_
  obtain ⟨hc_58, h⟩ := h
  refine cg_puti C (k := 10) (j := 0) (ty := tyX10) (fty := .int) hc_58.1 hc_58.2 (by decide) rfl (by decide) rfl (by decide) rfl cWs_wsX100 tyX10_ok nmX10 cl_X11_316 rfl rfl rfl rfl rfl dX11_look_58 ?_
  refine cg_nm (fun S9 e_S9 => ?_)
  have h := h S9 e_S9
  refine cg_aload_n C (i := 0) rfl 1 rfl dX11_look_61 ?_
  obtain ⟨hc_62, h⟩ := h
  obtain ⟨b10, hb_b10, h⟩ := h
  refine cg_get C (k := 11) (j := 8) (.ref b10) hc_62.1 hc_62.2 (by decide) rfl (by decide) rfl (show cV _ 11 8 x0 = _ from congrArg va_rf hb_b10) cWs_wsX110 cl_X11_52 rfl dX11_look_62 ?_
  refine cg_aload_n C (i := 2) rfl 0 rfl dX11_look_65 ?_
  obtain ⟨hc_66, h⟩ := h
  obtain ⟨mc11, ms12, hm_1, hm_2, h⟩ := h
  refine cg_calli C (t_Jx4a65c_add_9ea2d l mc11 ms12 b10 t0 S9 dp h) cc_X11_200 hc_66.1 hc_66.2 (by decide) rfl rfl ⟨by decide, by decide⟩ ⟨hm_1, hm_2⟩ rfl (Nat.le_of_ble_eq_true rfl) dX11_look_66 (fun r_13 S_13 h => ?_)
  refine cg_pop C rfl dX11_look_69 ?_
  refine cg_aload_n C (i := 0) rfl 1 rfl dX11_look_70 ?_
  refine cg_dup C rfl dX11_look_71 ?_
  obtain ⟨hc_72, h⟩ := h
  refine cg_get C (k := 11) (j := 9) (.int (ci S_13 361 x0)) hc_72.1 hc_72.2 (by decide) rfl (by decide) rfl rfl cWs_wsX110 cl_X11_55 rfl dX11_look_72 ?_
  refine cg_iconst C (x := nI 1) rfl dX11_look_75 ?_
  refine cg_iadd C dX11_look_76 ?_
  obtain ⟨hc_77, h⟩ := h
  refine cg_puti C (k := 11) (j := 9) (ty := tyX11) (fty := .int) hc_77.1 hc_77.2 (by decide) rfl (by decide) rfl (by decide) rfl cWs_wsX110 tyX11_ok nmX11 cl_X11_55 rfl rfl rfl rfl rfl dX11_look_77 ?_
  refine cg_nm (fun S14 e_S14 => ?_)
  have h := h S14 e_S14
  refine cg_aload_n C (i := 2) rfl 0 rfl dX11_look_80 ?_
  obtain ⟨hc_81, h⟩ := h
  refine cg_get C (k := 10) (j := 0) (.int (ci S14 320 t0)) hc_81.1 hc_81.2 (by decide) rfl (by decide) rfl rfl cWs_wsX100 cl_X11_316 rfl dX11_look_81 ?_
  exact h.elim
end Sx_X11_look
set_option maxHeartbeats 1000000 in
set_option maxRecDepth 20000 in
theorem tx_X11_look (l : Launch) (hlt : l.stackTraces = false) (E : String) (mc ms : Nat) (x0 : Nat) (x1 : Int32) (S : cS) (dp : Nat) {P : cS → Prop} (h : kx_X11_look E P dp mc ms x0 x1 S) : cMetX E P l yX11_look cX11_look 3 (some .int) 10 mc ms 233 [.ref x0, .int x1] S dp := by
  intro D Y tp sz
  refine cg_bodyX (by decide +kernel) (Nat.le_of_ble_eq_true rfl) ?_
  intro p e s m args below meth c C hne
  generalize va_A (cWd Y S) sz = A at C ⊢
  have C : cC p s m args meth c cX11_look 3 (some .int) A D Y tp dp RX11 := C
  refine cg_lv (lv' := [(0, .ref x0), (1, .int x1)]) rfl ?_
  unfold kx_X11_look at h
  refine cg_aload_n C (i := 0) rfl 0 rfl dX11_look_0 ?_
  obtain ⟨hc_1, h⟩ := h
  rcases h with h | ⟨mc1, ms2, hm_, h⟩
  · obtain ⟨hb_1, h⟩ := h
    refine cg_callv C (t_X11_checkUp l x0 S dp h) cc_X11_177 hc_1.1 hc_1.2 (by decide) rfl rfl ⟨by decide, by decide⟩ hb_1 rfl (Nat.le_of_ble_eq_true rfl) dX11_look_1 (fun S_3 h => ?_)
    simp only [Nat.add_zero]
    refine cg_aload_n C (i := 0) rfl 0 rfl dX11_look_4 ?_
    obtain ⟨hc_5, h⟩ := h
    obtain ⟨b4, hb_b4, h⟩ := h
    refine cg_get C (k := 11) (j := 8) (.ref b4) hc_5.1 hc_5.2 (by decide) rfl (by decide) rfl (show cV _ 11 8 x0 = _ from congrArg va_rf hb_b4) cWs_wsX110 cl_X11_52 rfl dX11_look_5 ?_
    obtain ⟨hc_8, h⟩ := h
    obtain ⟨hb_8, h⟩ := h
    refine cg_calli C (t_Jx4a65c_size_8abf5 l b4 S_3 dp h) cc_X11_180 hc_8.1 hc_8.2 (by decide) rfl rfl ⟨by decide, by decide⟩ hb_8 rfl (Nat.le_of_ble_eq_true rfl) dX11_look_8 (fun r_5 S_5 h => ?_)
    simp only [Nat.add_zero]
    refine cg_iconst C (x := nI 5) rfl dX11_look_11 ?_
    refine cg_icmp_lt C 26 (by decide) dX11_look_12 (fun c_ => ?_) (fun c_ => ?_)
    · have h := h.1 c_
      refine cg_iload_n C (i := 1) rfl 1 rfl dX11_look_26 ?_
      refine cg_if_eq C 48 (by decide) dX11_look_27 (fun c_ => ?_) (fun c_ => ?_)
      · have h := h.1 c_
        refine cg_aload_n C (i := 0) rfl 0 rfl dX11_look_48 ?_
        obtain ⟨hc_49, h⟩ := h
        obtain ⟨mc6, ms7, hm_1, hm_2, h⟩ := h
        refine cg_callr C (t_X11_committed l mc6 ms7 x0 S_5 dp h) cc_X11_247 hc_49.1 hc_49.2 (by decide) rfl rfl ⟨by decide, by decide⟩ ⟨hm_1, hm_2⟩ rfl (Nat.le_of_ble_eq_true rfl) dX11_look_49 (fun r_8 S_8 h => ?_)
        exact cg_sub [0] rfl (tbx_X11_look_52 C hlt hne  x0 r_8 (0 + mc6) (0 + ms7) S_8 h)
      · have h := h.2 c_
        refine cg_aload_n C (i := 0) rfl 0 rfl dX11_look_30 ?_
        obtain ⟨hc_31, h⟩ := h
        obtain ⟨b15, hb_b15, h⟩ := h
        refine cg_get C (k := 11) (j := 3) (.ref b15) hc_31.1 hc_31.2 (by decide) rfl (by decide) rfl (show cV _ 11 3 x0 = _ from congrArg va_rf hb_b15) cWs_wsX110 cl_X11_35 rfl dX11_look_31 ?_
        refine cg_iconst C (x := nI 0) rfl dX11_look_34 ?_
        refine cg_aload_n C (i := 0) rfl 0 rfl dX11_look_35 ?_
        obtain ⟨hc_36, h⟩ := h
        obtain ⟨b16, hb_b16, h⟩ := h
        refine cg_get C (k := 11) (j := 3) (.ref b16) hc_36.1 hc_36.2 (by decide) rfl (by decide) rfl (show cV _ 11 3 x0 = _ from congrArg va_rf hb_b16) cWs_wsX110 cl_X11_35 rfl dX11_look_36 ?_
        obtain ⟨hc_39, h⟩ := h
        obtain ⟨hb_39, h⟩ := h
        refine cg_calli C (t_X10_size l b16 S_5 dp h) cc_X11_240 hc_39.1 hc_39.2 (by decide) rfl rfl ⟨by decide, by decide⟩ hb_39 rfl (Nat.le_of_ble_eq_true rfl) dX11_look_39 (fun r_17 S_17 h => ?_)
        simp only [Nat.add_zero]
        obtain ⟨hc_42, h⟩ := h
        obtain ⟨mc18, ms19, hm_1, hm_2, h⟩ := h
        refine cg_callr C (t_X10_copyOf l mc18 ms19 b15 ((nI 0)) r_17 S_17 dp h) cc_X11_218 hc_42.1 hc_42.2 (by decide) rfl rfl ⟨by decide, by decide⟩ ⟨hm_1, hm_2⟩ rfl (Nat.le_of_ble_eq_true rfl) dX11_look_42 (fun r_20 S_20 h => ?_)
        refine cg_goto C 52 (by decide) dX11_look_45 ?_
        exact cg_sub [0] rfl (tbx_X11_look_52 C hlt hne  x0 r_20 (0 + mc18) (0 + ms19) S_20 h)
    · have h := h.2 c_
      obtain ⟨hE_, hb_, h⟩ := h
      rw [hE_]
      exact cg_throw2W C hlt hne "too many snapshots are open" ce_X11_116 cei_2 (by decide) dX11_look_15 dX11_look_18 dX11_look_19 dX11_look_22 dX11_look_25 (by decide) (Nat.le_of_ble_eq_true rfl) hb_ hb_ h
  · exact cg_callx C hne (tx_X11_checkUp l hlt E mc1 ms2 x0 S dp h) cc_X11_177 hc_1.1 hc_1.2 (by decide) rfl rfl ⟨by decide, by decide⟩ hm_ rfl (Nat.le_of_ble_eq_true rfl) dX11_look_1 hm_ (fun _ z => z)
def kx_X11_snapshotOf_2 (E : String) (Q : cS → Prop) (dp : Nat) (mc ms : Nat) (R2 : Nat → Int32 → Int32 → Nat → Nat → cS → Prop) (x0 : Nat) (x1 : Int32) (x2 : Int32) (cd dd : Nat) (S : cS) : Prop :=
cA S x0 11 ∧ ((∃ b1 : Nat, cr S 360 x0 = some b1 ∧ (cA S b1 12 ∧ ((cd ≤ mc ∧ dd ≤ ms) ∧ (k_Jx4a65c_size_8abf5 (fun r_2 S_2 => 
((r_2 ≤ x2 →
  E = "java/lang/IndexOutOfBoundsException" ∧ (cd + 1 ≤ mc ∧ dd + 6 ≤ ms) ∧ Q S_2) ∧
 (¬ r_2 ≤ x2 →
  cA S_2 x0 11 ∧ ((∃ b3 : Nat, cr S_2 360 x0 = some b3 ∧ (cA S_2 b3 12 ∧ ((cd ≤ mc ∧ dd ≤ ms) ∧ (k_Jx4a65c_get_915e3 (fun r_4 S_4 => 
  cA S_4 r_4 10 ∧ (cA S_4 r_4 10 ∧ (((¬ ((ci S_4 320 r_4)) = x1 →
    ∀ x2_5 : Int32, x2_5 = x2 + nI 1 → R2 x0 x1 x2_5 cd dd S_4) ∧
   (((ci S_4 320 r_4)) = x1 →
    cA S_4 x0 11 ∧ ((∃ b6 : Nat, cr S_4 360 x0 = some b6 ∧ (cA S_4 b6 12 ∧ ((cd ≤ mc ∧ dd ≤ ms) ∧ (k_Jx4a65c_get_915e3 (fun r_7 S_7 => 
    cA S_7 r_7 10 ∧ (False)) dp b6 x2 S_4)))))))))) dp b3 x2 S_2)))))))) dp b1 S)))))
def kx_X11_snapshotOf_2L (E : String) (Q : cS → Prop) (dp : Nat) (mc ms : Nat)  (x0 : Nat) (x1 : Int32) (x2 : Int32) (cd dd : Nat) (S : cS) : Prop :=
  lfp (X := Nat × Int32 × Int32 × Nat × Nat × cS) (fun P y => kx_X11_snapshotOf_2 E Q dp mc ms  (fun b0 b1 b2 b3 b4 S => P (b0, b1, b2, b3, b4, S)) y.1 y.2.1 y.2.2.1 y.2.2.2.1 y.2.2.2.2.1 y.2.2.2.2.2) (x0, x1, x2, cd, dd, S)
def kx_X11_snapshotOf (E : String) (Q : cS → Prop) (dp : Nat) (mc ms : Nat) (x0 : Nat) (x1 : Int32) (S : cS) : Prop :=
kx_X11_snapshotOf_2L E Q dp mc ms  x0 x1 (((nI 0))) 0 0 S
section Sx_X11_snapshotOf
variable {p : Program} {l : Launch} {e : Env} {s : State} {m : MethodId} {args : Array Value} {below : List Frame} {meth : Method} {c : Code} {A : Nat → Prop} {D : va_G} {Y : cY} {tp dp : Nat}
set_option maxRecDepth 20000 in
theorem tbx_X11_snapshotOf_2 {E : String} {mc ms : Nat} (C : cC p s m args meth c cX11_snapshotOf 3 (some (.object "SearchMill$View")) A D Y tp dp RX11) (hlt : l.stackTraces = false) (hne : ∀ x ∈ c.exceptionTable.toList, False) {post : cS → Prop} {R2 : Nat → Int32 → Int32 → Nat → Nat → cS → Prop} (hR2 : ∀ (x0 : Nat) (x1 : Int32) (x2 : Int32) (cd dd : Nat) (S : cS), R2 x0 x1 x2 cd dd S → cG p l e (cRm 6 mc ms 82) s m args below meth c A D Y 3 (vx_MQ below (fun _ _ _ _ => False) (cXB E post D Y A) args s mc ms A) cd dd 2 [(0, .ref x0), (1, .int x1), (2, .int x2)] [] S) (x0 : Nat) (x1 : Int32) (x2 : Int32) (cd dd : Nat) (S : cS) (h : kx_X11_snapshotOf_2 E post dp mc ms R2 x0 x1 x2 cd dd S) : cG p l e (cRm 6 mc ms 82) s m args below meth c A D Y 3 (vx_MQ below (fun _ _ _ _ => False) (cXB E post D Y A) args s mc ms A) cd dd 2 [(0, .ref x0), (1, .int x1), (2, .int x2)] [] S := by
  unfold kx_X11_snapshotOf_2 at h
  refine cg_iload_n C (i := 2) rfl 2 rfl dX11_snapshotOf_2 ?_
  refine cg_aload_n C (i := 0) rfl 0 rfl dX11_snapshotOf_3 ?_
  obtain ⟨hc_4, h⟩ := h
  obtain ⟨b1, hb_b1, h⟩ := h
  refine cg_get C (k := 11) (j := 8) (.ref b1) hc_4.1 hc_4.2 (by decide) rfl (by decide) rfl (show cV _ 11 8 x0 = _ from congrArg va_rf hb_b1) cWs_wsX110 cl_X11_52 rfl dX11_snapshotOf_4 ?_
  obtain ⟨hc_7, h⟩ := h
  obtain ⟨hb_7, h⟩ := h
  refine cg_calli C (t_Jx4a65c_size_8abf5 l b1 S dp h) cc_X11_180 hc_7.1 hc_7.2 (by decide) rfl rfl ⟨by decide, by decide⟩ hb_7 rfl (Nat.le_of_ble_eq_true rfl) dX11_snapshotOf_7 (fun r_2 S_2 h => ?_)
  simp only [Nat.add_zero]
  refine cg_icmp_ge C 49 (by decide) dX11_snapshotOf_10 (fun c_ => ?_) (fun c_ => ?_)
  · have h := h.1 c_
    obtain ⟨hE_, hb_, h⟩ := h
    rw [hE_]
    exact cg_throw3W C hlt hne "there is no such snapshot" ce_X11_269 cei_3 (by decide) dX11_snapshotOf_49 dX11_snapshotOf_52 dX11_snapshotOf_53 dX11_snapshotOf_56 dX11_snapshotOf_59 (by decide) (Nat.le_of_ble_eq_true rfl) hb_ hb_ h
  · have h := h.2 c_
    refine cg_aload_n C (i := 0) rfl 0 rfl dX11_snapshotOf_13 ?_
    obtain ⟨hc_14, h⟩ := h
    obtain ⟨b3, hb_b3, h⟩ := h
    refine cg_get C (k := 11) (j := 8) (.ref b3) hc_14.1 hc_14.2 (by decide) rfl (by decide) rfl (show cV _ 11 8 x0 = _ from congrArg va_rf hb_b3) cWs_wsX110 cl_X11_52 rfl dX11_snapshotOf_14 ?_
    refine cg_iload_n C (i := 2) rfl 2 rfl dX11_snapshotOf_17 ?_
    obtain ⟨hc_18, h⟩ := h
    obtain ⟨hb_18, h⟩ := h
    refine cg_callr C (t_Jx4a65c_get_915e3 l b3 x2 S_2 dp h) cc_X11_277 hc_18.1 hc_18.2 (by decide) rfl rfl ⟨by decide, by decide⟩ hb_18 rfl (Nat.le_of_ble_eq_true rfl) dX11_snapshotOf_18 (fun r_4 S_4 h => ?_)
    simp only [Nat.add_zero]
    obtain ⟨hc_21, h⟩ := h
    refine cg_ccast C (k := 10) hc_21.1 hc_21.2 (by decide) rfl cnc_X11_30 dX11_snapshotOf_21 ?_
    obtain ⟨hc_24, h⟩ := h
    refine cg_get C (k := 10) (j := 0) (.int (ci S_4 320 r_4)) hc_24.1 hc_24.2 (by decide) rfl (by decide) rfl rfl cWs_wsX100 cl_X11_316 rfl dX11_snapshotOf_24 ?_
    refine cg_iload_n C (i := 1) rfl 1 rfl dX11_snapshotOf_27 ?_
    refine cg_icmp_ne C 43 (by decide) dX11_snapshotOf_28 (fun c_ => ?_) (fun c_ => ?_)
    · have h := h.1 c_
      obtain ⟨x2_5, e_x2_5⟩ : ∃ z : Int32, z = x2 + nI 1 := ⟨_, rfl⟩
      have h := h x2_5 e_x2_5
      refine cg_iinc C (lv' := [(2, .int x2_5), (0, .ref x0), (1, .int x1)]) 2 rfl (by rw [e_x2_5]; rfl) (Nat.le_of_ble_eq_true rfl) rfl dX11_snapshotOf_43 ?_
      refine cg_goto C 2 (by decide) dX11_snapshotOf_46 ?_
      exact cg_sub [1, 2, 0] rfl (hR2 x0 x1 x2_5 cd dd S_4 h)
    · have h := h.2 c_
      refine cg_aload_n C (i := 0) rfl 0 rfl dX11_snapshotOf_31 ?_
      obtain ⟨hc_32, h⟩ := h
      obtain ⟨b6, hb_b6, h⟩ := h
      refine cg_get C (k := 11) (j := 8) (.ref b6) hc_32.1 hc_32.2 (by decide) rfl (by decide) rfl (show cV _ 11 8 x0 = _ from congrArg va_rf hb_b6) cWs_wsX110 cl_X11_52 rfl dX11_snapshotOf_32 ?_
      refine cg_iload_n C (i := 2) rfl 2 rfl dX11_snapshotOf_35 ?_
      obtain ⟨hc_36, h⟩ := h
      obtain ⟨hb_36, h⟩ := h
      refine cg_callr C (t_Jx4a65c_get_915e3 l b6 x2 S_4 dp h) cc_X11_277 hc_36.1 hc_36.2 (by decide) rfl rfl ⟨by decide, by decide⟩ hb_36 rfl (Nat.le_of_ble_eq_true rfl) dX11_snapshotOf_36 (fun r_7 S_7 h => ?_)
      simp only [Nat.add_zero]
      obtain ⟨hc_39, h⟩ := h
      refine cg_ccast C (k := 10) hc_39.1 hc_39.2 (by decide) rfl cnc_X11_30 dX11_snapshotOf_39 ?_
      exact h.elim
set_option maxRecDepth 20000 in
theorem tlx_X11_snapshotOf_2 {E : String} {mc ms : Nat} (C : cC p s m args meth c cX11_snapshotOf 3 (some (.object "SearchMill$View")) A D Y tp dp RX11) (hlt : l.stackTraces = false) (hne : ∀ x ∈ c.exceptionTable.toList, False) {post : cS → Prop}   (x0 : Nat) (x1 : Int32) (x2 : Int32) (cd dd : Nat) (S : cS) (h : kx_X11_snapshotOf_2L E post dp mc ms  x0 x1 x2 cd dd S) : cG p l e (cRm 6 mc ms 82) s m args below meth c A D Y 3 (vx_MQ below (fun _ _ _ _ => False) (cXB E post D Y A) args s mc ms A) cd dd 2 [(0, .ref x0), (1, .int x1), (2, .int x2)] [] S :=
  h (fun y => cG p l e (cRm 6 mc ms 82) s m args below meth c A D Y 3 (vx_MQ below (fun _ _ _ _ => False) (cXB E post D Y A) args s mc ms A) (y.2.2.2.1) (y.2.2.2.2.1) 2 [(0, .ref (y.1)), (1, .int (y.2.1)), (2, .int (y.2.2.1))] [] (y.2.2.2.2.2)) (fun y hy => tbx_X11_snapshotOf_2 C hlt hne  (fun b0 b1 b2 b3 b4 S z => z) (y.1) (y.2.1) (y.2.2.1) (y.2.2.2.1) (y.2.2.2.2.1) (y.2.2.2.2.2) hy)
end Sx_X11_snapshotOf
set_option maxHeartbeats 1000000 in
set_option maxRecDepth 20000 in
theorem tx_X11_snapshotOf (l : Launch) (hlt : l.stackTraces = false) (E : String) (mc ms : Nat) (x0 : Nat) (x1 : Int32) (S : cS) (dp : Nat) {P : cS → Prop} (h : kx_X11_snapshotOf E P dp mc ms x0 x1 S) : cMetX E P l yX11_snapshotOf cX11_snapshotOf 3 (some (.object "SearchMill$View")) 6 mc ms 82 [.ref x0, .int x1] S dp := by
  intro D Y tp sz
  refine cg_bodyX (by decide +kernel) (Nat.le_of_ble_eq_true rfl) ?_
  intro p e s m args below meth c C hne
  generalize va_A (cWd Y S) sz = A at C ⊢
  have C : cC p s m args meth c cX11_snapshotOf 3 (some (.object "SearchMill$View")) A D Y tp dp RX11 := C
  refine cg_lv (lv' := [(0, .ref x0), (1, .int x1)]) rfl ?_
  unfold kx_X11_snapshotOf at h
  refine cg_iconst C (x := nI 0) rfl dX11_snapshotOf_0 ?_
  refine cg_istore_n C (i := 2) (lv' := [(2, .int ((nI 0))), (0, .ref x0), (1, .int x1)]) rfl (Nat.le_of_ble_eq_true rfl) rfl dX11_snapshotOf_1 ?_
  exact cg_sub [1, 2, 0] rfl (tlx_X11_snapshotOf_2 C hlt hne  x0 x1 (((nI 0))) 0 0 S h)
def kx_X11_shut_41 (E : String) (Q : cS → Prop) (dp : Nat) (mc ms : Nat) (R16 : Nat → Nat → Int32 → Nat → Nat → cS → Prop) (x0 : Nat) (x2 : Nat) (x3 : Int32) (cd dd : Nat) (S : cS) : Prop :=
∀ x3_12 : Int32, x3_12 = x3 + (-1) → R16 x0 x2 x3_12 cd dd S
def kx_X11_shut_16 (E : String) (Q : cS → Prop) (dp : Nat) (mc ms : Nat) (R16 : Nat → Nat → Int32 → Nat → Nat → cS → Prop) (x0 : Nat) (x2 : Nat) (x3 : Int32) (cd dd : Nat) (S : cS) : Prop :=
((x3 < 0 →
  cA S x0 11 ∧ ((∃ mc7 ms8 : Nat, cd + mc7 ≤ mc ∧ dd + ms8 ≤ ms ∧ (k_X11_fileCount (fun r_9 S_9 => 
  False) dp mc7 ms8 x0 S)))) ∧
 (¬ x3 < 0 →
  cA S x0 11 ∧ ((∃ b10 : Nat, cr S 360 x0 = some b10 ∧ (cA S b10 12 ∧ ((cd ≤ mc ∧ dd ≤ ms) ∧ (k_Jx4a65c_get_915e3 (fun r_11 S_11 => 
  ((¬ r_11 = x2 →
    kx_X11_shut_41 E Q dp mc ms R16 x0 x2 x3 cd dd S_11) ∧
   (r_11 = x2 →
    cA S_11 x0 11 ∧ ((∃ b13 : Nat, cr S_11 360 x0 = some b13 ∧ (cA S_11 b13 12 ∧ ((cd ≤ mc ∧ dd ≤ ms) ∧ (k_Jx4a65c_remove_915e3 (fun r_14 S_14 => 
    kx_X11_shut_41 E Q dp mc ms R16 x0 x2 x3 cd dd S_14) dp b13 x3 S_11)))))))) dp b10 x3 S)))))))
def kx_X11_shut_16L (E : String) (Q : cS → Prop) (dp : Nat) (mc ms : Nat)  (x0 : Nat) (x2 : Nat) (x3 : Int32) (cd dd : Nat) (S : cS) : Prop :=
  lfp (X := Nat × Nat × Int32 × Nat × Nat × cS) (fun P y => kx_X11_shut_16 E Q dp mc ms  (fun b0 b1 b2 b3 b4 S => P (b0, b1, b2, b3, b4, S)) y.1 y.2.1 y.2.2.1 y.2.2.2.1 y.2.2.2.2.1 y.2.2.2.2.2) (x0, x2, x3, cd, dd, S)
def kx_X11_shut (E : String) (Q : cS → Prop) (dp : Nat) (mc ms : Nat) (x0 : Nat) (x1 : Int32) (S : cS) : Prop :=
cA S x0 11 ∧ ((((0 ≤ mc ∧ 0 ≤ ms) ∧ (k_X11_snapshotOf (fun r_3 S_3 => 
cA S_3 x0 11 ∧ ((∃ b4 : Nat, cr S_3 360 x0 = some b4 ∧ (cA S_3 b4 12 ∧ ((0 ≤ mc ∧ 0 ≤ ms) ∧ (k_Jx4a65c_size_8abf5 (fun r_5 S_5 => 
∀ x3_6 : Int32, x3_6 = (r_5 - ((nI 1))) → kx_X11_shut_16L E Q dp mc ms  x0 r_3 x3_6 0 0 S_5) dp b4 S_3)))))) dp x0 x1 S)) ∨
 (∃ mc1 ms2 : Nat, (0 + mc1 ≤ mc ∧ 0 + ms2 ≤ ms) ∧ kx_X11_snapshotOf E Q dp mc1 ms2 x0 x1 S)))
section Sx_X11_shut
variable {p : Program} {l : Launch} {e : Env} {s : State} {m : MethodId} {args : Array Value} {below : List Frame} {meth : Method} {c : Code} {A : Nat → Prop} {D : va_G} {Y : cY} {tp dp : Nat}
set_option maxRecDepth 20000 in
theorem tbx_X11_shut_41 {E : String} {mc ms : Nat} (C : cC p s m args meth c cX11_shut 4 (some .int) A D Y tp dp RX11) (hlt : l.stackTraces = false) (hne : ∀ x ∈ c.exceptionTable.toList, False) {post : cS → Prop} {R16 : Nat → Nat → Int32 → Nat → Nat → cS → Prop} (hR16 : ∀ (x0 : Nat) (x2 : Nat) (x3 : Int32) (cd dd : Nat) (S : cS), R16 x0 x2 x3 cd dd S → cG p l e (cRm 7 mc ms 155) s m args below meth c A D Y 4 (vx_MQ below (fun _ _ _ _ => False) (cXB E post D Y A) args s mc ms A) cd dd 16 [(0, .ref x0), (2, .ref x2), (3, .int x3)] [] S) (x0 : Nat) (x2 : Nat) (x3 : Int32) (cd dd : Nat) (S : cS) (h : kx_X11_shut_41 E post dp mc ms R16 x0 x2 x3 cd dd S) : cG p l e (cRm 7 mc ms 155) s m args below meth c A D Y 4 (vx_MQ below (fun _ _ _ _ => False) (cXB E post D Y A) args s mc ms A) cd dd 41 [(0, .ref x0), (2, .ref x2), (3, .int x3)] [] S := by
  unfold kx_X11_shut_41 at h
  obtain ⟨x3_12, e_x3_12⟩ : ∃ z : Int32, z = x3 + (-1) := ⟨_, rfl⟩
  have h := h x3_12 e_x3_12
  refine cg_iinc C (lv' := [(3, .int x3_12), (0, .ref x0), (2, .ref x2)]) 2 rfl (by rw [e_x3_12]; rfl) (Nat.le_of_ble_eq_true rfl) rfl dX11_shut_41 ?_
  refine cg_goto C 16 (by decide) dX11_shut_44 ?_
  exact cg_sub [1, 2, 0] rfl (hR16 x0 x2 x3_12 cd dd S h)
set_option maxRecDepth 20000 in
theorem tbx_X11_shut_16 {E : String} {mc ms : Nat} (C : cC p s m args meth c cX11_shut 4 (some .int) A D Y tp dp RX11) (hlt : l.stackTraces = false) (hne : ∀ x ∈ c.exceptionTable.toList, False) {post : cS → Prop} {R16 : Nat → Nat → Int32 → Nat → Nat → cS → Prop} (hR16 : ∀ (x0 : Nat) (x2 : Nat) (x3 : Int32) (cd dd : Nat) (S : cS), R16 x0 x2 x3 cd dd S → cG p l e (cRm 7 mc ms 155) s m args below meth c A D Y 4 (vx_MQ below (fun _ _ _ _ => False) (cXB E post D Y A) args s mc ms A) cd dd 16 [(0, .ref x0), (2, .ref x2), (3, .int x3)] [] S) (x0 : Nat) (x2 : Nat) (x3 : Int32) (cd dd : Nat) (S : cS) (h : kx_X11_shut_16 E post dp mc ms R16 x0 x2 x3 cd dd S) : cG p l e (cRm 7 mc ms 155) s m args below meth c A D Y 4 (vx_MQ below (fun _ _ _ _ => False) (cXB E post D Y A) args s mc ms A) cd dd 16 [(0, .ref x0), (2, .ref x2), (3, .int x3)] [] S := by
  unfold kx_X11_shut_16 at h
  refine cg_iload_n C (i := 3) rfl 2 rfl dX11_shut_16 ?_
  refine cg_if_lt C 47 (by decide) dX11_shut_17 (fun c_ => ?_) (fun c_ => ?_)
  · have h := h.1 c_
    refine cg_aload_n C (i := 0) rfl 0 rfl dX11_shut_47 ?_
    obtain ⟨hc_48, h⟩ := h
    obtain ⟨mc7, ms8, hm_1, hm_2, h⟩ := h
    refine cg_calli C (t_X11_fileCount l mc7 ms8 x0 S dp h) cc_X11_251 hc_48.1 hc_48.2 (by decide) rfl rfl ⟨by decide, by decide⟩ ⟨hm_1, hm_2⟩ rfl (Nat.le_of_ble_eq_true rfl) dX11_shut_48 (fun r_9 S_9 h => ?_)
    exact h.elim
  · have h := h.2 c_
    refine cg_aload_n C (i := 0) rfl 0 rfl dX11_shut_20 ?_
    obtain ⟨hc_21, h⟩ := h
    obtain ⟨b10, hb_b10, h⟩ := h
    refine cg_get C (k := 11) (j := 8) (.ref b10) hc_21.1 hc_21.2 (by decide) rfl (by decide) rfl (show cV _ 11 8 x0 = _ from congrArg va_rf hb_b10) cWs_wsX110 cl_X11_52 rfl dX11_shut_21 ?_
    refine cg_iload_n C (i := 3) rfl 2 rfl dX11_shut_24 ?_
    obtain ⟨hc_25, h⟩ := h
    obtain ⟨hb_25, h⟩ := h
    refine cg_callr C (t_Jx4a65c_get_915e3 l b10 x3 S dp h) cc_X11_277 hc_25.1 hc_25.2 (by decide) rfl rfl ⟨by decide, by decide⟩ hb_25 rfl (Nat.le_of_ble_eq_true rfl) dX11_shut_25 (fun r_11 S_11 h => ?_)
    simp only [Nat.add_zero]
    refine cg_aload_n C (i := 2) rfl 1 rfl dX11_shut_28 ?_
    refine cg_acmp_ne C 41 (by decide) dX11_shut_29 (fun c_ => ?_) (fun c_ => ?_)
    · have h := h.1 c_
      exact cg_sub [0, 1, 2] rfl (tbx_X11_shut_41 C hlt hne hR16 x0 x2 x3 cd dd S_11 h)
    · have h := h.2 c_
      refine cg_aload_n C (i := 0) rfl 0 rfl dX11_shut_32 ?_
      obtain ⟨hc_33, h⟩ := h
      obtain ⟨b13, hb_b13, h⟩ := h
      refine cg_get C (k := 11) (j := 8) (.ref b13) hc_33.1 hc_33.2 (by decide) rfl (by decide) rfl (show cV _ 11 8 x0 = _ from congrArg va_rf hb_b13) cWs_wsX110 cl_X11_52 rfl dX11_shut_33 ?_
      refine cg_iload_n C (i := 3) rfl 2 rfl dX11_shut_36 ?_
      obtain ⟨hc_37, h⟩ := h
      obtain ⟨hb_37, h⟩ := h
      refine cg_callr C (t_Jx4a65c_remove_915e3 l b13 x3 S_11 dp h) cc_X11_321 hc_37.1 hc_37.2 (by decide) rfl rfl ⟨by decide, by decide⟩ hb_37 rfl (Nat.le_of_ble_eq_true rfl) dX11_shut_37 (fun r_14 S_14 h => ?_)
      simp only [Nat.add_zero]
      refine cg_pop C rfl dX11_shut_40 ?_
      exact cg_sub [0, 1, 2] rfl (tbx_X11_shut_41 C hlt hne hR16 x0 x2 x3 cd dd S_14 h)
set_option maxRecDepth 20000 in
theorem tlx_X11_shut_16 {E : String} {mc ms : Nat} (C : cC p s m args meth c cX11_shut 4 (some .int) A D Y tp dp RX11) (hlt : l.stackTraces = false) (hne : ∀ x ∈ c.exceptionTable.toList, False) {post : cS → Prop}   (x0 : Nat) (x2 : Nat) (x3 : Int32) (cd dd : Nat) (S : cS) (h : kx_X11_shut_16L E post dp mc ms  x0 x2 x3 cd dd S) : cG p l e (cRm 7 mc ms 155) s m args below meth c A D Y 4 (vx_MQ below (fun _ _ _ _ => False) (cXB E post D Y A) args s mc ms A) cd dd 16 [(0, .ref x0), (2, .ref x2), (3, .int x3)] [] S :=
  h (fun y => cG p l e (cRm 7 mc ms 155) s m args below meth c A D Y 4 (vx_MQ below (fun _ _ _ _ => False) (cXB E post D Y A) args s mc ms A) (y.2.2.2.1) (y.2.2.2.2.1) 16 [(0, .ref (y.1)), (2, .ref (y.2.1)), (3, .int (y.2.2.1))] [] (y.2.2.2.2.2)) (fun y hy => tbx_X11_shut_16 C hlt hne  (fun b0 b1 b2 b3 b4 S z => z) (y.1) (y.2.1) (y.2.2.1) (y.2.2.2.1) (y.2.2.2.2.1) (y.2.2.2.2.2) hy)
end Sx_X11_shut
set_option maxHeartbeats 1000000 in
set_option maxRecDepth 20000 in
theorem tx_X11_shut (l : Launch) (hlt : l.stackTraces = false) (E : String) (mc ms : Nat) (x0 : Nat) (x1 : Int32) (S : cS) (dp : Nat) {P : cS → Prop} (h : kx_X11_shut E P dp mc ms x0 x1 S) : cMetX E P l yX11_shut cX11_shut 4 (some .int) 7 mc ms 155 [.ref x0, .int x1] S dp := by
  intro D Y tp sz
  refine cg_bodyX (by decide +kernel) (Nat.le_of_ble_eq_true rfl) ?_
  intro p e s m args below meth c C hne
  generalize va_A (cWd Y S) sz = A at C ⊢
  have C : cC p s m args meth c cX11_shut 4 (some .int) A D Y tp dp RX11 := C
  refine cg_lv (lv' := [(0, .ref x0), (1, .int x1)]) rfl ?_
  unfold kx_X11_shut at h
  refine cg_aload_n C (i := 0) rfl 0 rfl dX11_shut_0 ?_
  refine cg_iload_n C (i := 1) rfl 1 rfl dX11_shut_1 ?_
  obtain ⟨hc_2, h⟩ := h
  rcases h with h | ⟨mc1, ms2, hm_, h⟩
  · obtain ⟨hb_2, h⟩ := h
    refine cg_callr C (t_X11_snapshotOf l x0 x1 S dp h) cc_X11_317 hc_2.1 hc_2.2 (by decide) rfl rfl ⟨by decide, by decide⟩ hb_2 rfl (Nat.le_of_ble_eq_true rfl) dX11_shut_2 (fun r_3 S_3 h => ?_)
    simp only [Nat.add_zero]
    refine cg_astore_n (lv' := [(2, .ref r_3), (0, .ref x0), (1, .int x1)]) C (i := 2) rfl (Nat.le_of_ble_eq_true rfl) rfl dX11_shut_5 ?_
    refine cg_aload_n C (i := 0) rfl 1 rfl dX11_shut_6 ?_
    obtain ⟨hc_7, h⟩ := h
    obtain ⟨b4, hb_b4, h⟩ := h
    refine cg_get C (k := 11) (j := 8) (.ref b4) hc_7.1 hc_7.2 (by decide) rfl (by decide) rfl (show cV _ 11 8 x0 = _ from congrArg va_rf hb_b4) cWs_wsX110 cl_X11_52 rfl dX11_shut_7 ?_
    obtain ⟨hc_10, h⟩ := h
    obtain ⟨hb_10, h⟩ := h
    refine cg_calli C (t_Jx4a65c_size_8abf5 l b4 S_3 dp h) cc_X11_180 hc_10.1 hc_10.2 (by decide) rfl rfl ⟨by decide, by decide⟩ hb_10 rfl (Nat.le_of_ble_eq_true rfl) dX11_shut_10 (fun r_5 S_5 h => ?_)
    simp only [Nat.add_zero]
    refine cg_iconst C (x := nI 1) rfl dX11_shut_13 ?_
    refine cg_isub C dX11_shut_14 ?_
    refine cg_nmI (fun x3_6 e_x3_6 => ?_)
    have h := h x3_6 e_x3_6
    refine cg_istore_n C (i := 3) (lv' := [(3, .int x3_6), (2, .ref r_3), (0, .ref x0), (1, .int x1)]) rfl (Nat.le_of_ble_eq_true rfl) rfl dX11_shut_15 ?_
    exact cg_sub [2, 1, 0] rfl (tlx_X11_shut_16 C hlt hne  x0 r_3 x3_6 0 0 S_5 h)
  · exact cg_callx C hne (tx_X11_snapshotOf l hlt E mc1 ms2 x0 x1 S dp h) cc_X11_317 hc_2.1 hc_2.2 (by decide) rfl rfl ⟨by decide, by decide⟩ hm_ rfl (Nat.le_of_ble_eq_true rfl) dX11_shut_2 hm_ (fun _ z => z)
def kx_X11_documents (E : String) (Q : cS → Prop) (dp : Nat) (mc ms : Nat) (x0 : Nat) (x1 : Int32) (S : cS) : Prop :=
cA S x0 11 ∧ ((((0 ≤ mc ∧ 0 ≤ ms) ∧ (k_X11_snapshotOf (fun r_3 S_3 => 
cA S_3 r_3 10 ∧ ((0 ≤ mc ∧ 0 ≤ ms) ∧ (k_X10_liveCount (fun r_4 S_4 => 
False) dp r_3 S_3))) dp x0 x1 S)) ∨
 (∃ mc1 ms2 : Nat, (0 + mc1 ≤ mc ∧ 0 + ms2 ≤ ms) ∧ kx_X11_snapshotOf E Q dp mc1 ms2 x0 x1 S)))
set_option maxHeartbeats 1000000 in
set_option maxRecDepth 20000 in
theorem tx_X11_documents (l : Launch) (hlt : l.stackTraces = false) (E : String) (mc ms : Nat) (x0 : Nat) (x1 : Int32) (S : cS) (dp : Nat) {P : cS → Prop} (h : kx_X11_documents E P dp mc ms x0 x1 S) : cMetX E P l yX11_documents cX11_documents 2 (some .int) 7 mc ms 104 [.ref x0, .int x1] S dp := by
  intro D Y tp sz
  refine cg_bodyX (by decide +kernel) (Nat.le_of_ble_eq_true rfl) ?_
  intro p e s m args below meth c C hne
  generalize va_A (cWd Y S) sz = A at C ⊢
  have C : cC p s m args meth c cX11_documents 2 (some .int) A D Y tp dp RX11 := C
  refine cg_lv (lv' := [(0, .ref x0), (1, .int x1)]) rfl ?_
  unfold kx_X11_documents at h
  refine cg_aload_n C (i := 0) rfl 0 rfl dX11_documents_0 ?_
  refine cg_iload_n C (i := 1) rfl 1 rfl dX11_documents_1 ?_
  obtain ⟨hc_2, h⟩ := h
  rcases h with h | ⟨mc1, ms2, hm_, h⟩
  · obtain ⟨hb_2, h⟩ := h
    refine cg_callr C (t_X11_snapshotOf l x0 x1 S dp h) cc_X11_317 hc_2.1 hc_2.2 (by decide) rfl rfl ⟨by decide, by decide⟩ hb_2 rfl (Nat.le_of_ble_eq_true rfl) dX11_documents_2 (fun r_3 S_3 h => ?_)
    simp only [Nat.add_zero]
    obtain ⟨hc_5, h⟩ := h
    obtain ⟨hb_5, h⟩ := h
    refine cg_calli C (t_X10_liveCount l r_3 S_3 dp h) cc_X11_222 hc_5.1 hc_5.2 (by decide) rfl rfl ⟨by decide, by decide⟩ hb_5 rfl (Nat.le_of_ble_eq_true rfl) dX11_documents_5 (fun r_4 S_4 h => ?_)
    simp only [Nat.add_zero]
    exact h.elim
  · exact cg_callx C hne (tx_X11_snapshotOf l hlt E mc1 ms2 x0 x1 S dp h) cc_X11_317 hc_2.1 hc_2.2 (by decide) rfl rfl ⟨by decide, by decide⟩ hm_ rfl (Nat.le_of_ble_eq_true rfl) dX11_documents_2 hm_ (fun _ z => z)
def kx_X11_checkLeaf (E : String) (Q : cS → Prop) (dp : Nat) (mc ms : Nat) (x0 : Nat) (x1 : Int32) (S : cS) : Prop :=
((x1 = 0 →
  E = "java/lang/IllegalStateException" ∧ (0 + 1 ≤ mc ∧ 0 + 6 ≤ ms) ∧ Q S) ∧
 (¬ x1 = 0 →
  cA S x0 11 ∧ ((∃ b1 : Nat, cr S 362 x0 = some b1 ∧ (cA S b1 6 ∧ (((((nI 8)) ≤ ((ci S 195 b1)) →
    E = "java/lang/IllegalStateException" ∧ (0 + 1 ≤ mc ∧ 0 + 6 ≤ ms) ∧ Q S) ∧
   (¬ ((nI 8)) ≤ ((ci S 195 b1)) →
    cA S x0 11 ∧ ((∃ b2 : Nat, cr S 362 x0 = some b2 ∧ (cA S b2 6 ∧ ((∃ b3 : Nat, cr S 193 b2 = some b3 ∧ (cA S b3 12 ∧ ((0 ≤ mc ∧ 0 ≤ ms) ∧ (k_Jx4a65c_size_8abf5 (fun r_4 S_4 => 
    ((r_4 < ((nI 24)) →
      False) ∧
     (¬ r_4 < ((nI 24)) →
      E = "java/lang/IllegalStateException" ∧ (0 + 1 ≤ mc ∧ 0 + 6 ≤ ms) ∧ Q S_4))) dp b3 S))))))))))))))))
set_option maxHeartbeats 1000000 in
set_option maxRecDepth 20000 in
theorem tx_X11_checkLeaf (l : Launch) (hlt : l.stackTraces = false) (E : String) (mc ms : Nat) (x0 : Nat) (x1 : Int32) (S : cS) (dp : Nat) {P : cS → Prop} (h : kx_X11_checkLeaf E P dp mc ms x0 x1 S) : cMetX E P l yX11_checkLeaf cX11_checkLeaf 2 none 6 mc ms 82 [.ref x0, .int x1] S dp := by
  intro D Y tp sz
  refine cg_bodyX (by decide +kernel) (Nat.le_of_ble_eq_true rfl) ?_
  intro p e s m args below meth c C hne
  generalize va_A (cWd Y S) sz = A at C ⊢
  have C : cC p s m args meth c cX11_checkLeaf 2 none A D Y tp dp RX11 := C
  refine cg_lv (lv' := [(0, .ref x0), (1, .int x1)]) rfl ?_
  unfold kx_X11_checkLeaf at h
  refine cg_iload_n C (i := 1) rfl 1 rfl dX11_checkLeaf_0 ?_
  refine cg_if_eq C 31 (by decide) dX11_checkLeaf_1 (fun c_ => ?_) (fun c_ => ?_)
  · have h := h.1 c_
    obtain ⟨hE_, hb_, h⟩ := h
    rw [hE_]
    exact cg_throw2W C hlt hne "no such leaf can be put now" ce_X11_116 cei_2 (by decide) dX11_checkLeaf_31 dX11_checkLeaf_34 dX11_checkLeaf_35 dX11_checkLeaf_38 dX11_checkLeaf_41 (by decide) (Nat.le_of_ble_eq_true rfl) hb_ hb_ h
  · have h := h.2 c_
    refine cg_aload_n C (i := 0) rfl 0 rfl dX11_checkLeaf_4 ?_
    obtain ⟨hc_5, h⟩ := h
    obtain ⟨b1, hb_b1, h⟩ := h
    refine cg_get C (k := 11) (j := 10) (.ref b1) hc_5.1 hc_5.2 (by decide) rfl (by decide) rfl (show cV _ 11 10 x0 = _ from congrArg va_rf hb_b1) cWs_wsX110 cl_X11_61 rfl dX11_checkLeaf_5 ?_
    obtain ⟨hc_8, h⟩ := h
    refine cg_get C (k := 6) (j := 3) (.int (ci S 195 b1)) hc_8.1 hc_8.2 (by decide) rfl (by decide) rfl rfl cWs_wsX60 cl_X11_385 rfl dX11_checkLeaf_8 ?_
    refine cg_bipush C (x := nI 8) rfl dX11_checkLeaf_11 ?_
    refine cg_icmp_ge C 31 (by decide) dX11_checkLeaf_13 (fun c_ => ?_) (fun c_ => ?_)
    · have h := h.1 c_
      obtain ⟨hE_, hb_, h⟩ := h
      rw [hE_]
      exact cg_throw2W C hlt hne "no such leaf can be put now" ce_X11_116 cei_2 (by decide) dX11_checkLeaf_31 dX11_checkLeaf_34 dX11_checkLeaf_35 dX11_checkLeaf_38 dX11_checkLeaf_41 (by decide) (Nat.le_of_ble_eq_true rfl) hb_ hb_ h
    · have h := h.2 c_
      refine cg_aload_n C (i := 0) rfl 0 rfl dX11_checkLeaf_16 ?_
      obtain ⟨hc_17, h⟩ := h
      obtain ⟨b2, hb_b2, h⟩ := h
      refine cg_get C (k := 11) (j := 10) (.ref b2) hc_17.1 hc_17.2 (by decide) rfl (by decide) rfl (show cV _ 11 10 x0 = _ from congrArg va_rf hb_b2) cWs_wsX110 cl_X11_61 rfl dX11_checkLeaf_17 ?_
      obtain ⟨hc_20, h⟩ := h
      obtain ⟨b3, hb_b3, h⟩ := h
      refine cg_get C (k := 6) (j := 1) (.ref b3) hc_20.1 hc_20.2 (by decide) rfl (by decide) rfl (show cV _ 6 1 b2 = _ from congrArg va_rf hb_b3) cWs_wsX60 cl_X11_466 rfl dX11_checkLeaf_20 ?_
      obtain ⟨hc_23, h⟩ := h
      obtain ⟨hb_23, h⟩ := h
      refine cg_calli C (t_Jx4a65c_size_8abf5 l b3 S dp h) cc_X11_180 hc_23.1 hc_23.2 (by decide) rfl rfl ⟨by decide, by decide⟩ hb_23 rfl (Nat.le_of_ble_eq_true rfl) dX11_checkLeaf_23 (fun r_4 S_4 h => ?_)
      simp only [Nat.add_zero]
      refine cg_bipush C (x := nI 24) rfl dX11_checkLeaf_26 ?_
      refine cg_icmp_lt C 42 (by decide) dX11_checkLeaf_28 (fun c_ => ?_) (fun c_ => ?_)
      · have h := h.1 c_
        exact h.elim
      · have h := h.2 c_
        obtain ⟨hE_, hb_, h⟩ := h
        rw [hE_]
        exact cg_throw2W C hlt hne "no such leaf can be put now" ce_X11_116 cei_2 (by decide) dX11_checkLeaf_31 dX11_checkLeaf_34 dX11_checkLeaf_35 dX11_checkLeaf_38 dX11_checkLeaf_41 (by decide) (Nat.le_of_ble_eq_true rfl) hb_ hb_ h
def kx_X11_term_21 (E : String) (Q : cS → Prop) (dp : Nat) (mc ms : Nat)  (x0 : Nat) (x1 : Int32) (t0 : Int32) (t1 : Nat) (cd dd : Nat) (S : cS) : Prop :=
cA S t1 11 ∧ ((((cd ≤ mc ∧ dd ≤ ms) ∧ (k_X11_checkLeaf (fun S_10 => 
cA S_10 x0 11 ∧ ((∃ b11 : Nat, cr S_10 362 x0 = some b11 ∧ (cA S_10 x0 11 ∧ ((∃ b12 : Nat, cr S_10 352 x0 = some b12 ∧ (cA S_10 b12 3 ∧ ((∃ mc13 ms14 : Nat, cd + mc13 ≤ mc ∧ dd + ms14 ≤ ms ∧ (k_X3_takePad (fun r_15 S_15 => 
(∃ mc16 ms17 : Nat, cd + mc13 + mc16 ≤ mc ∧ dd + ms14 + ms17 ≤ ms ∧ (k_X4_ofTokens (fun r_18 S_18 => 
cA S_18 b11 6 ∧ ((∃ mc19 ms20 : Nat, cd + mc13 + mc16 + mc19 ≤ mc ∧ dd + ms14 + ms17 + ms20 ≤ ms ∧ (k_X6_putLeaf (fun r_21 S_21 => 
False) dp mc19 ms20 b11 r_18 S_18)))) dp mc16 ms17 ((nI 0)) x1 ((nI 0)) r_15 S_15))) dp mc13 ms14 b12 S_10)))))))))) dp t1 t0 S)) ∨
 (∃ mc8 ms9 : Nat, (cd + mc8 ≤ mc ∧ dd + ms9 ≤ ms) ∧ kx_X11_checkLeaf E Q dp mc8 ms9 t1 t0 S)))
def kx_X11_term (E : String) (Q : cS → Prop) (dp : Nat) (mc ms : Nat) (x0 : Nat) (x1 : Int32) (S : cS) : Prop :=
(((0 ≤ mc ∧ 0 ≤ ms) ∧ (k_X11_checkField (fun S_3 => 
cA S_3 x0 11 ∧ ((∃ b4 : Nat, cr S_3 352 x0 = some b4 ∧ (cA S_3 b4 3 ∧ ((∃ mc5 ms6 : Nat, 0 + mc5 ≤ mc ∧ 0 + ms6 ≤ ms ∧ (k_X3_readPadTokens (fun r_7 S_7 => 
((¬ r_7 = ((nI 1)) →
  kx_X11_term_21 E Q dp mc ms  x0 x1 ((nI 0)) x0 (0 + mc5) (0 + ms6) S_7) ∧
 (r_7 = ((nI 1)) →
  kx_X11_term_21 E Q dp mc ms  x0 x1 ((nI 1)) x0 (0 + mc5) (0 + ms6) S_7))) dp mc5 ms6 b4 S_3))))))) dp x1 S)) ∨
 (∃ mc1 ms2 : Nat, (0 + mc1 ≤ mc ∧ 0 + ms2 ≤ ms) ∧ kx_X11_checkField E Q dp mc1 ms2 x1 S))
section Sx_X11_term
variable {p : Program} {l : Launch} {e : Env} {s : State} {m : MethodId} {args : Array Value} {below : List Frame} {meth : Method} {c : Code} {A : Nat → Prop} {D : va_G} {Y : cY} {tp dp : Nat}
set_option maxRecDepth 20000 in
theorem tbx_X11_term_21 {E : String} {mc ms : Nat} (C : cC p s m args meth c cX11_term 2 (some .int) A D Y tp dp RX11) (hlt : l.stackTraces = false) (hne : ∀ x ∈ c.exceptionTable.toList, False) {post : cS → Prop}   (x0 : Nat) (x1 : Int32) (t0 : Int32) (t1 : Nat) (cd dd : Nat) (S : cS) (h : kx_X11_term_21 E post dp mc ms  x0 x1 t0 t1 cd dd S) : cG p l e (cRm 9 mc ms 209) s m args below meth c A D Y 2 (vx_MQ below (fun _ _ _ _ => False) (cXB E post D Y A) args s mc ms A) cd dd 21 [(0, .ref x0), (1, .int x1)] [.int t0, .ref t1] S := by
  unfold kx_X11_term_21 at h
  obtain ⟨hc_21, h⟩ := h
  rcases h with h | ⟨mc8, ms9, hm_, h⟩
  · obtain ⟨hb_21, h⟩ := h
    refine cg_callv C (t_X11_checkLeaf l t1 t0 S dp h) cc_X11_327 hc_21.1 hc_21.2 (by decide) rfl rfl ⟨by decide, by decide⟩ hb_21 rfl (Nat.le_of_ble_eq_true rfl) dX11_term_21 (fun S_10 h => ?_)
    simp only [Nat.add_zero]
    refine cg_aload_n C (i := 0) rfl 0 rfl dX11_term_24 ?_
    obtain ⟨hc_25, h⟩ := h
    obtain ⟨b11, hb_b11, h⟩ := h
    refine cg_get C (k := 11) (j := 10) (.ref b11) hc_25.1 hc_25.2 (by decide) rfl (by decide) rfl (show cV _ 11 10 x0 = _ from congrArg va_rf hb_b11) cWs_wsX110 cl_X11_61 rfl dX11_term_25 ?_
    refine cg_iconst C (x := nI 0) rfl dX11_term_28 ?_
    refine cg_iload_n C (i := 1) rfl 1 rfl dX11_term_29 ?_
    refine cg_iconst C (x := nI 0) rfl dX11_term_30 ?_
    refine cg_aload_n C (i := 0) rfl 0 rfl dX11_term_31 ?_
    obtain ⟨hc_32, h⟩ := h
    obtain ⟨b12, hb_b12, h⟩ := h
    refine cg_get C (k := 11) (j := 0) (.ref b12) hc_32.1 hc_32.2 (by decide) rfl (by decide) rfl (show cV _ 11 0 x0 = _ from congrArg va_rf hb_b12) cWs_wsX110 cl_X11_10 rfl dX11_term_32 ?_
    obtain ⟨hc_35, h⟩ := h
    obtain ⟨mc13, ms14, hm_1, hm_2, h⟩ := h
    refine cg_callr C (t_X3_takePad l mc13 ms14 b12 S_10 dp h) cc_X11_125 hc_35.1 hc_35.2 (by decide) rfl rfl ⟨by decide, by decide⟩ ⟨hm_1, hm_2⟩ rfl (Nat.le_of_ble_eq_true rfl) dX11_term_35 (fun r_15 S_15 h => ?_)
    obtain ⟨mc16, ms17, hm_1, hm_2, h⟩ := h
    refine cg_callsr C (t_X4_ofTokens l mc16 ms17 ((nI 0)) x1 ((nI 0)) r_15 S_15 dp h) cc_X11_333 rfl ⟨by decide, by decide⟩ ⟨hm_1, hm_2⟩ rfl (Nat.le_of_ble_eq_true rfl) dX11_term_38 (fun r_18 S_18 h => ?_)
    obtain ⟨hc_41, h⟩ := h
    obtain ⟨mc19, ms20, hm_1, hm_2, h⟩ := h
    refine cg_calli C (t_X6_putLeaf l mc19 ms20 b11 r_18 S_18 dp h) cc_X11_337 hc_41.1 hc_41.2 (by decide) rfl rfl ⟨by decide, by decide⟩ ⟨hm_1, hm_2⟩ rfl (Nat.le_of_ble_eq_true rfl) dX11_term_41 (fun r_21 S_21 h => ?_)
    exact h.elim
  · exact cg_callx C hne (tx_X11_checkLeaf l hlt E mc8 ms9 t1 t0 S dp h) cc_X11_327 hc_21.1 hc_21.2 (by decide) rfl rfl ⟨by decide, by decide⟩ hm_ rfl (Nat.le_of_ble_eq_true rfl) dX11_term_21 hm_ (fun _ z => z)
end Sx_X11_term
set_option maxHeartbeats 1000000 in
set_option maxRecDepth 20000 in
theorem tx_X11_term (l : Launch) (hlt : l.stackTraces = false) (E : String) (mc ms : Nat) (x0 : Nat) (x1 : Int32) (S : cS) (dp : Nat) {P : cS → Prop} (h : kx_X11_term E P dp mc ms x0 x1 S) : cMetX E P l yX11_term cX11_term 2 (some .int) 9 mc ms 209 [.ref x0, .int x1] S dp := by
  intro D Y tp sz
  refine cg_bodyX (by decide +kernel) (Nat.le_of_ble_eq_true rfl) ?_
  intro p e s m args below meth c C hne
  generalize va_A (cWd Y S) sz = A at C ⊢
  have C : cC p s m args meth c cX11_term 2 (some .int) A D Y tp dp RX11 := C
  refine cg_lv (lv' := [(0, .ref x0), (1, .int x1)]) rfl ?_
  unfold kx_X11_term at h
  refine cg_iload_n C (i := 1) rfl 1 rfl dX11_term_0 ?_
  rcases h with h | ⟨mc1, ms2, hm_, h⟩
  · obtain ⟨hb_1, h⟩ := h
    refine cg_callsv C (t_X11_checkField l x1 S dp h) cc_X11_152 rfl ⟨by decide, by decide⟩ hb_1 rfl (Nat.le_of_ble_eq_true rfl) dX11_term_1 (fun S_3 h => ?_)
    simp only [Nat.add_zero]
    refine cg_aload_n C (i := 0) rfl 0 rfl dX11_term_4 ?_
    refine cg_aload_n C (i := 0) rfl 0 rfl dX11_term_5 ?_
    obtain ⟨hc_6, h⟩ := h
    obtain ⟨b4, hb_b4, h⟩ := h
    refine cg_get C (k := 11) (j := 0) (.ref b4) hc_6.1 hc_6.2 (by decide) rfl (by decide) rfl (show cV _ 11 0 x0 = _ from congrArg va_rf hb_b4) cWs_wsX110 cl_X11_10 rfl dX11_term_6 ?_
    obtain ⟨hc_9, h⟩ := h
    obtain ⟨mc5, ms6, hm_1, hm_2, h⟩ := h
    refine cg_calli C (t_X3_readPadTokens l mc5 ms6 b4 S_3 dp h) cc_X11_324 hc_9.1 hc_9.2 (by decide) rfl rfl ⟨by decide, by decide⟩ ⟨hm_1, hm_2⟩ rfl (Nat.le_of_ble_eq_true rfl) dX11_term_9 (fun r_7 S_7 h => ?_)
    refine cg_iconst C (x := nI 1) rfl dX11_term_12 ?_
    refine cg_icmp_ne C 20 (by decide) dX11_term_13 (fun c_ => ?_) (fun c_ => ?_)
    · have h := h.1 c_
      refine cg_iconst C (x := nI 0) rfl dX11_term_20 ?_
      exact cg_sub [0, 1] rfl (tbx_X11_term_21 C hlt hne  x0 x1 ((nI 0)) x0 (0 + mc5) (0 + ms6) S_7 h)
    · have h := h.2 c_
      refine cg_iconst C (x := nI 1) rfl dX11_term_16 ?_
      refine cg_goto C 21 (by decide) dX11_term_17 ?_
      exact cg_sub [0, 1] rfl (tbx_X11_term_21 C hlt hne  x0 x1 ((nI 1)) x0 (0 + mc5) (0 + ms6) S_7 h)
  · exact cg_callsx C hne (tx_X11_checkField l hlt E mc1 ms2 x1 S dp h) cc_X11_152 rfl ⟨by decide, by decide⟩ hm_ rfl (Nat.le_of_ble_eq_true rfl) dX11_term_1 hm_ (fun _ z => z)
def kx_X11_phrase_50 (E : String) (Q : cS → Prop) (dp : Nat) (mc ms : Nat)  (x0 : Nat) (x1 : Int32) (x2 : Int32) (t0 : Int32) (t1 : Nat) (cd dd : Nat) (S : cS) : Prop :=
cA S t1 11 ∧ ((((cd ≤ mc ∧ dd ≤ ms) ∧ (k_X11_checkLeaf (fun S_10 => 
cA S_10 x0 11 ∧ ((∃ b11 : Nat, cr S_10 362 x0 = some b11 ∧ (cA S_10 x0 11 ∧ ((∃ b12 : Nat, cr S_10 352 x0 = some b12 ∧ (cA S_10 b12 3 ∧ ((∃ mc13 ms14 : Nat, cd + mc13 ≤ mc ∧ dd + ms14 ≤ ms ∧ (k_X3_takePad (fun r_15 S_15 => 
(∃ mc16 ms17 : Nat, cd + mc13 + mc16 ≤ mc ∧ dd + ms14 + ms17 ≤ ms ∧ (k_X4_ofTokens (fun r_18 S_18 => 
cA S_18 b11 6 ∧ ((∃ mc19 ms20 : Nat, cd + mc13 + mc16 + mc19 ≤ mc ∧ dd + ms14 + ms17 + ms20 ≤ ms ∧ (k_X6_putLeaf (fun r_21 S_21 => 
False) dp mc19 ms20 b11 r_18 S_18)))) dp mc16 ms17 ((nI 0)) x1 x2 r_15 S_15))) dp mc13 ms14 b12 S_10)))))))))) dp t1 t0 S)) ∨
 (∃ mc8 ms9 : Nat, (cd + mc8 ≤ mc ∧ dd + ms9 ≤ ms) ∧ kx_X11_checkLeaf E Q dp mc8 ms9 t1 t0 S)))
def kx_X11_phrase_49 (E : String) (Q : cS → Prop) (dp : Nat) (mc ms : Nat)  (x0 : Nat) (x1 : Int32) (x2 : Int32) (t0 : Nat) (cd dd : Nat) (S : cS) : Prop :=
kx_X11_phrase_50 E Q dp mc ms  x0 x1 x2 ((nI 0)) t0 cd dd S
def kx_X11_phrase (E : String) (Q : cS → Prop) (dp : Nat) (mc ms : Nat) (x0 : Nat) (x1 : Int32) (x2 : Int32) (S : cS) : Prop :=
(((0 ≤ mc ∧ 0 ≤ ms) ∧ (k_X11_checkField (fun S_3 => 
((x2 < 0 →
  E = "java/lang/IllegalArgumentException" ∧ (0 + 1 ≤ mc ∧ 0 + 6 ≤ ms) ∧ Q S_3) ∧
 (¬ x2 < 0 →
  ((x2 ≤ ((nI 20)) →
    cA S_3 x0 11 ∧ ((∃ b4 : Nat, cr S_3 352 x0 = some b4 ∧ (cA S_3 b4 3 ∧ ((∃ mc5 ms6 : Nat, 0 + mc5 ≤ mc ∧ 0 + ms6 ≤ ms ∧ (k_X3_readPadTokens (fun r_7 S_7 => 
    ((r_7 < ((nI 1)) →
      kx_X11_phrase_49 E Q dp mc ms  x0 x1 x2 x0 (0 + mc5) (0 + ms6) S_7) ∧
     (¬ r_7 < ((nI 1)) →
      ((((nI 6)) < r_7 →
        kx_X11_phrase_49 E Q dp mc ms  x0 x1 x2 x0 (0 + mc5) (0 + ms6) S_7) ∧
       (¬ ((nI 6)) < r_7 →
        kx_X11_phrase_50 E Q dp mc ms  x0 x1 x2 ((nI 1)) x0 (0 + mc5) (0 + ms6) S_7))))) dp mc5 ms6 b4 S_3))))))) ∧
   (¬ x2 ≤ ((nI 20)) →
    E = "java/lang/IllegalArgumentException" ∧ (0 + 1 ≤ mc ∧ 0 + 6 ≤ ms) ∧ Q S_3))))) dp x1 S)) ∨
 (∃ mc1 ms2 : Nat, (0 + mc1 ≤ mc ∧ 0 + ms2 ≤ ms) ∧ kx_X11_checkField E Q dp mc1 ms2 x1 S))
section Sx_X11_phrase
variable {p : Program} {l : Launch} {e : Env} {s : State} {m : MethodId} {args : Array Value} {below : List Frame} {meth : Method} {c : Code} {A : Nat → Prop} {D : va_G} {Y : cY} {tp dp : Nat}
set_option maxRecDepth 20000 in
theorem tbx_X11_phrase_50 {E : String} {mc ms : Nat} (C : cC p s m args meth c cX11_phrase 4 (some .int) A D Y tp dp RX11) (hlt : l.stackTraces = false) (hne : ∀ x ∈ c.exceptionTable.toList, False) {post : cS → Prop}   (x0 : Nat) (x1 : Int32) (x2 : Int32) (t0 : Int32) (t1 : Nat) (cd dd : Nat) (S : cS) (h : kx_X11_phrase_50 E post dp mc ms  x0 x1 x2 t0 t1 cd dd S) : cG p l e (cRm 9 mc ms 209) s m args below meth c A D Y 4 (vx_MQ below (fun _ _ _ _ => False) (cXB E post D Y A) args s mc ms A) cd dd 50 [(0, .ref x0), (1, .int x1), (2, .int x2)] [.int t0, .ref t1] S := by
  unfold kx_X11_phrase_50 at h
  obtain ⟨hc_50, h⟩ := h
  rcases h with h | ⟨mc8, ms9, hm_, h⟩
  · obtain ⟨hb_50, h⟩ := h
    refine cg_callv C (t_X11_checkLeaf l t1 t0 S dp h) cc_X11_327 hc_50.1 hc_50.2 (by decide) rfl rfl ⟨by decide, by decide⟩ hb_50 rfl (Nat.le_of_ble_eq_true rfl) dX11_phrase_50 (fun S_10 h => ?_)
    simp only [Nat.add_zero]
    refine cg_aload_n C (i := 0) rfl 0 rfl dX11_phrase_53 ?_
    obtain ⟨hc_54, h⟩ := h
    obtain ⟨b11, hb_b11, h⟩ := h
    refine cg_get C (k := 11) (j := 10) (.ref b11) hc_54.1 hc_54.2 (by decide) rfl (by decide) rfl (show cV _ 11 10 x0 = _ from congrArg va_rf hb_b11) cWs_wsX110 cl_X11_61 rfl dX11_phrase_54 ?_
    refine cg_iconst C (x := nI 0) rfl dX11_phrase_57 ?_
    refine cg_iload_n C (i := 1) rfl 1 rfl dX11_phrase_58 ?_
    refine cg_iload_n C (i := 2) rfl 2 rfl dX11_phrase_59 ?_
    refine cg_aload_n C (i := 0) rfl 0 rfl dX11_phrase_60 ?_
    obtain ⟨hc_61, h⟩ := h
    obtain ⟨b12, hb_b12, h⟩ := h
    refine cg_get C (k := 11) (j := 0) (.ref b12) hc_61.1 hc_61.2 (by decide) rfl (by decide) rfl (show cV _ 11 0 x0 = _ from congrArg va_rf hb_b12) cWs_wsX110 cl_X11_10 rfl dX11_phrase_61 ?_
    obtain ⟨hc_64, h⟩ := h
    obtain ⟨mc13, ms14, hm_1, hm_2, h⟩ := h
    refine cg_callr C (t_X3_takePad l mc13 ms14 b12 S_10 dp h) cc_X11_125 hc_64.1 hc_64.2 (by decide) rfl rfl ⟨by decide, by decide⟩ ⟨hm_1, hm_2⟩ rfl (Nat.le_of_ble_eq_true rfl) dX11_phrase_64 (fun r_15 S_15 h => ?_)
    obtain ⟨mc16, ms17, hm_1, hm_2, h⟩ := h
    refine cg_callsr C (t_X4_ofTokens l mc16 ms17 ((nI 0)) x1 x2 r_15 S_15 dp h) cc_X11_333 rfl ⟨by decide, by decide⟩ ⟨hm_1, hm_2⟩ rfl (Nat.le_of_ble_eq_true rfl) dX11_phrase_67 (fun r_18 S_18 h => ?_)
    obtain ⟨hc_70, h⟩ := h
    obtain ⟨mc19, ms20, hm_1, hm_2, h⟩ := h
    refine cg_calli C (t_X6_putLeaf l mc19 ms20 b11 r_18 S_18 dp h) cc_X11_337 hc_70.1 hc_70.2 (by decide) rfl rfl ⟨by decide, by decide⟩ ⟨hm_1, hm_2⟩ rfl (Nat.le_of_ble_eq_true rfl) dX11_phrase_70 (fun r_21 S_21 h => ?_)
    exact h.elim
  · exact cg_callx C hne (tx_X11_checkLeaf l hlt E mc8 ms9 t1 t0 S dp h) cc_X11_327 hc_50.1 hc_50.2 (by decide) rfl rfl ⟨by decide, by decide⟩ hm_ rfl (Nat.le_of_ble_eq_true rfl) dX11_phrase_50 hm_ (fun _ z => z)
set_option maxRecDepth 20000 in
theorem tbx_X11_phrase_49 {E : String} {mc ms : Nat} (C : cC p s m args meth c cX11_phrase 4 (some .int) A D Y tp dp RX11) (hlt : l.stackTraces = false) (hne : ∀ x ∈ c.exceptionTable.toList, False) {post : cS → Prop}   (x0 : Nat) (x1 : Int32) (x2 : Int32) (t0 : Nat) (cd dd : Nat) (S : cS) (h : kx_X11_phrase_49 E post dp mc ms  x0 x1 x2 t0 cd dd S) : cG p l e (cRm 9 mc ms 209) s m args below meth c A D Y 4 (vx_MQ below (fun _ _ _ _ => False) (cXB E post D Y A) args s mc ms A) cd dd 49 [(0, .ref x0), (1, .int x1), (2, .int x2)] [.ref t0] S := by
  unfold kx_X11_phrase_49 at h
  refine cg_iconst C (x := nI 0) rfl dX11_phrase_49 ?_
  exact cg_sub [0, 1, 2] rfl (tbx_X11_phrase_50 C hlt hne  x0 x1 x2 ((nI 0)) t0 cd dd S h)
end Sx_X11_phrase
set_option maxHeartbeats 1000000 in
set_option maxRecDepth 20000 in
theorem tx_X11_phrase (l : Launch) (hlt : l.stackTraces = false) (E : String) (mc ms : Nat) (x0 : Nat) (x1 : Int32) (x2 : Int32) (S : cS) (dp : Nat) {P : cS → Prop} (h : kx_X11_phrase E P dp mc ms x0 x1 x2 S) : cMetX E P l yX11_phrase cX11_phrase 4 (some .int) 9 mc ms 209 [.ref x0, .int x1, .int x2] S dp := by
  intro D Y tp sz
  refine cg_bodyX (by decide +kernel) (Nat.le_of_ble_eq_true rfl) ?_
  intro p e s m args below meth c C hne
  generalize va_A (cWd Y S) sz = A at C ⊢
  have C : cC p s m args meth c cX11_phrase 4 (some .int) A D Y tp dp RX11 := C
  refine cg_lv (lv' := [(0, .ref x0), (1, .int x1), (2, .int x2)]) rfl ?_
  unfold kx_X11_phrase at h
  refine cg_iload_n C (i := 1) rfl 1 rfl dX11_phrase_0 ?_
  rcases h with h | ⟨mc1, ms2, hm_, h⟩
  · obtain ⟨hb_1, h⟩ := h
    refine cg_callsv C (t_X11_checkField l x1 S dp h) cc_X11_152 rfl ⟨by decide, by decide⟩ hb_1 rfl (Nat.le_of_ble_eq_true rfl) dX11_phrase_1 (fun S_3 h => ?_)
    simp only [Nat.add_zero]
    refine cg_iload_n C (i := 2) rfl 2 rfl dX11_phrase_4 ?_
    refine cg_if_lt C 14 (by decide) dX11_phrase_5 (fun c_ => ?_) (fun c_ => ?_)
    · have h := h.1 c_
      obtain ⟨hE_, hb_, h⟩ := h
      rw [hE_]
      exact cg_throw1W C hlt hne "the slop is out of range" ce_X11_100 cei_1 (by decide) dX11_phrase_14 dX11_phrase_17 dX11_phrase_18 dX11_phrase_21 dX11_phrase_24 (by decide) (Nat.le_of_ble_eq_true rfl) hb_ hb_ h
    · have h := h.2 c_
      refine cg_iload_n C (i := 2) rfl 2 rfl dX11_phrase_8 ?_
      refine cg_bipush C (x := nI 20) rfl dX11_phrase_9 ?_
      refine cg_icmp_le C 25 (by decide) dX11_phrase_11 (fun c_ => ?_) (fun c_ => ?_)
      · have h := h.1 c_
        refine cg_aload_n C (i := 0) rfl 0 rfl dX11_phrase_25 ?_
        obtain ⟨hc_26, h⟩ := h
        obtain ⟨b4, hb_b4, h⟩ := h
        refine cg_get C (k := 11) (j := 0) (.ref b4) hc_26.1 hc_26.2 (by decide) rfl (by decide) rfl (show cV _ 11 0 x0 = _ from congrArg va_rf hb_b4) cWs_wsX110 cl_X11_10 rfl dX11_phrase_26 ?_
        obtain ⟨hc_29, h⟩ := h
        obtain ⟨mc5, ms6, hm_1, hm_2, h⟩ := h
        refine cg_calli C (t_X3_readPadTokens l mc5 ms6 b4 S_3 dp h) cc_X11_324 hc_29.1 hc_29.2 (by decide) rfl rfl ⟨by decide, by decide⟩ ⟨hm_1, hm_2⟩ rfl (Nat.le_of_ble_eq_true rfl) dX11_phrase_29 (fun r_7 S_7 h => ?_)
        refine cg_istore_n C (i := 3) (lv' := [(3, .int r_7), (0, .ref x0), (1, .int x1), (2, .int x2)]) rfl (Nat.le_of_ble_eq_true rfl) rfl dX11_phrase_32 ?_
        refine cg_aload_n C (i := 0) rfl 1 rfl dX11_phrase_33 ?_
        refine cg_iload_n C (i := 3) rfl 0 rfl dX11_phrase_34 ?_
        refine cg_iconst C (x := nI 1) rfl dX11_phrase_35 ?_
        refine cg_icmp_lt C 49 (by decide) dX11_phrase_36 (fun c_ => ?_) (fun c_ => ?_)
        · have h := h.1 c_
          exact cg_sub [1, 2, 3] rfl (tbx_X11_phrase_49 C hlt hne  x0 x1 x2 x0 (0 + mc5) (0 + ms6) S_7 h)
        · have h := h.2 c_
          refine cg_iload_n C (i := 3) rfl 0 rfl dX11_phrase_39 ?_
          refine cg_bipush C (x := nI 6) rfl dX11_phrase_40 ?_
          refine cg_icmp_gt C 49 (by decide) dX11_phrase_42 (fun c_ => ?_) (fun c_ => ?_)
          · have h := h.1 c_
            exact cg_sub [1, 2, 3] rfl (tbx_X11_phrase_49 C hlt hne  x0 x1 x2 x0 (0 + mc5) (0 + ms6) S_7 h)
          · have h := h.2 c_
            refine cg_iconst C (x := nI 1) rfl dX11_phrase_45 ?_
            refine cg_goto C 50 (by decide) dX11_phrase_46 ?_
            exact cg_sub [1, 2, 3] rfl (tbx_X11_phrase_50 C hlt hne  x0 x1 x2 ((nI 1)) x0 (0 + mc5) (0 + ms6) S_7 h)
      · have h := h.2 c_
        obtain ⟨hE_, hb_, h⟩ := h
        rw [hE_]
        exact cg_throw1W C hlt hne "the slop is out of range" ce_X11_100 cei_1 (by decide) dX11_phrase_14 dX11_phrase_17 dX11_phrase_18 dX11_phrase_21 dX11_phrase_24 (by decide) (Nat.le_of_ble_eq_true rfl) hb_ hb_ h
  · exact cg_callsx C hne (tx_X11_checkField l hlt E mc1 ms2 x1 S dp h) cc_X11_152 rfl ⟨by decide, by decide⟩ hm_ rfl (Nat.le_of_ble_eq_true rfl) dX11_phrase_1 hm_ (fun _ z => z)
