/-! the methods of the class as predicates, and their contracts -/
def k_X9_init (Q : cS → Prop) (dp : Nat) (mc ms : Nat) (x0 : Nat) (S : cS) : Prop :=
(∃ n1 : Nat, (nI 40) = nI n1 ∧ n1 < 2 ^ 20 ∧ 0 + 1 ≤ mc ∧ 0 + n1 ≤ ms ∧ (∀ q2 : Nat, q2 ∉ cL S → ∀ S3 : cS, S3 = cNewA S q2 14 n1 → cA S3 x0 9 ∧ (∀ S4 : cS, S4 = cSr S3 288 x0 ((some q2)) → cA S4 x0 9 ∧ (∀ S5 : cS, S5 = cSi S4 289 x0 ((nI 0)) → (∃ n6 : Nat, (nI 0) = nI n6 ∧ n6 < 2 ^ 20 ∧ 0 + 1 + 1 ≤ mc ∧ 0 + n1 + n6 ≤ ms ∧ (∀ q7 : Nat, q7 ∉ cL S5 → ∀ S8 : cS, S8 = cNewA S5 q7 15 n6 → cA S8 x0 9 ∧ (∀ S9 : cS, S9 = cSr S8 290 x0 ((some q7)) → (∃ n10 : Nat, (nI 0) = nI n10 ∧ n10 < 2 ^ 20 ∧ 0 + 1 + 1 + 1 ≤ mc ∧ 0 + n1 + n6 + n10 ≤ ms ∧ (∀ q11 : Nat, q11 ∉ cL S9 → ∀ S12 : cS, S12 = cNewA S9 q11 14 n10 → cA S12 x0 9 ∧ (∀ S13 : cS, S13 = cSr S12 291 x0 ((some q11)) → cA S13 x0 9 ∧ (∀ S14 : cS, S14 = cSi S13 292 x0 ((nI 0)) → (0 + 1 + 1 + 1 ≤ mc ∧ 0 + n1 + n6 + n10 ≤ ms) ∧ (Q S14))))))))))))
set_option maxHeartbeats 1000000 in
set_option maxRecDepth 20000 in
theorem t_X9_init (l : Launch) (mc ms : Nat) (x0 : Nat) (S : cS) (dp : Nat) {P : cS → Prop} (h : k_X9_init P dp mc ms x0 S) : cMet (cQv P) l yX9_init cX9_init 1 none 1 mc ms 32 [.ref x0] S dp := by
  intro D Y tp sz
  refine cg_bodyI (by decide +kernel) (Nat.le_of_ble_eq_true rfl) ?_
  intro p e s m args below meth c C hin
  generalize va_A (cWd Y S) sz = A at C ⊢
  have C : cC p s m args meth c cX9_init 1 none A D Y tp dp RX9 := C
  refine cg_lv (lv' := [(0, .ref x0)]) rfl ?_
  unfold k_X9_init at h
  refine cg_aload_n C (i := 0) rfl 0 rfl dX9_init_0 ?_
  refine cg_objInit C co_X9_3 co_i co_c (by decide) (Nat.le_of_ble_eq_true rfl) dX9_init_1 ?_
  refine cg_aload_n C (i := 0) rfl 0 rfl dX9_init_4 ?_
  refine cg_bipush C (x := nI 40) rfl dX9_init_5 ?_
  obtain ⟨n1, hn_1, hn_2, hn_3, hn_4, h⟩ := h
  refine cg_cast (.int (nI n1)) (congrArg Value.int hn_1) ?_
  refine cg_newI C n1 hn_2 ca_int hn_3 hn_4 dX9_init_7 (fun q2 hf_q2 => ?_)
  have h := h q2 hf_q2
  refine cg_nm (fun S3 e_S3 => ?_)
  have h := h S3 e_S3
  obtain ⟨hc_9, h⟩ := h
  refine cg_putrF C (k := 9) (j := 0) (x := (some q2)) (ty := tyX9) (fty := tyX9 0) hc_9.1 hc_9.2 (by decide) rfl (by decide) rfl (by decide) rfl cWs_wsX90 tyX9_ok nmX9 cl_X9_9 rfl rfl hin rfl rfl rfl rfl dX9_init_9 ?_
  refine cg_nm (fun S4 e_S4 => ?_)
  have h := h S4 e_S4
  refine cg_aload_n C (i := 0) rfl 0 rfl dX9_init_12 ?_
  refine cg_iconst C (x := nI 0) rfl dX9_init_13 ?_
  obtain ⟨hc_14, h⟩ := h
  refine cg_puti C (k := 9) (j := 1) (ty := tyX9) (fty := .int) hc_14.1 hc_14.2 (by decide) rfl (by decide) rfl (by decide) rfl cWs_wsX90 tyX9_ok nmX9 cl_X9_15 rfl rfl rfl rfl rfl dX9_init_14 ?_
  refine cg_nm (fun S5 e_S5 => ?_)
  have h := h S5 e_S5
  refine cg_aload_n C (i := 0) rfl 0 rfl dX9_init_17 ?_
  refine cg_iconst C (x := nI 0) rfl dX9_init_18 ?_
  obtain ⟨n6, hn_1, hn_2, hn_3, hn_4, h⟩ := h
  refine cg_cast (.int (nI n6)) (congrArg Value.int hn_1) ?_
  refine cg_newJ C n6 hn_2 ca_long hn_3 hn_4 dX9_init_19 (fun q7 hf_q7 => ?_)
  have h := h q7 hf_q7
  refine cg_nm (fun S8 e_S8 => ?_)
  have h := h S8 e_S8
  obtain ⟨hc_21, h⟩ := h
  refine cg_putr C (k := 9) (j := 2) (x := (some q7)) (ty := tyX9) (fty := tyX9 2) hc_21.1 hc_21.2 (by decide) rfl (by decide) rfl (by decide) rfl cWs_wsX90 tyX9_ok nmX9 cl_X9_19 rfl rfl rfl rfl rfl dX9_init_21 ?_
  refine cg_nm (fun S9 e_S9 => ?_)
  have h := h S9 e_S9
  refine cg_aload_n C (i := 0) rfl 0 rfl dX9_init_24 ?_
  refine cg_iconst C (x := nI 0) rfl dX9_init_25 ?_
  obtain ⟨n10, hn_1, hn_2, hn_3, hn_4, h⟩ := h
  refine cg_cast (.int (nI n10)) (congrArg Value.int hn_1) ?_
  refine cg_newI C n10 hn_2 ca_int hn_3 hn_4 dX9_init_26 (fun q11 hf_q11 => ?_)
  have h := h q11 hf_q11
  refine cg_nm (fun S12 e_S12 => ?_)
  have h := h S12 e_S12
  obtain ⟨hc_28, h⟩ := h
  refine cg_putr C (k := 9) (j := 3) (x := (some q11)) (ty := tyX9) (fty := tyX9 3) hc_28.1 hc_28.2 (by decide) rfl (by decide) rfl (by decide) rfl cWs_wsX90 tyX9_ok nmX9 cl_X9_23 rfl rfl rfl rfl rfl dX9_init_28 ?_
  refine cg_nm (fun S13 e_S13 => ?_)
  have h := h S13 e_S13
  refine cg_aload_n C (i := 0) rfl 0 rfl dX9_init_31 ?_
  refine cg_iconst C (x := nI 0) rfl dX9_init_32 ?_
  obtain ⟨hc_33, h⟩ := h
  refine cg_puti C (k := 9) (j := 4) (ty := tyX9) (fty := .int) hc_33.1 hc_33.2 (by decide) rfl (by decide) rfl (by decide) rfl cWs_wsX90 tyX9_ok nmX9 cl_X9_26 rfl rfl rfl rfl rfl dX9_init_33 ?_
  refine cg_nm (fun S14 e_S14 => ?_)
  have h := h S14 e_S14
  obtain ⟨hb_36, h⟩ := h
  exact cg_vret C h dX9_init_36 hb_36.1 hb_36.2
def k_X0_init (Q : cS → Prop) (dp : Nat) (mc ms : Nat) (x0 : Nat) (S : cS) : Prop :=
cA S x0 0 ∧ (∀ S1 : cS, S1 = cSi S 0 x0 (((-1))) → cA S1 x0 0 ∧ (∀ S2 : cS, S2 = cSi S1 1 x0 ((nI 0)) → cA S2 x0 0 ∧ (∀ S3 : cS, S3 = cSi S2 2 x0 ((nI 0)) → (0 + 1 ≤ mc ∧ 0 + 5 ≤ ms) ∧ (∀ q4 : Nat, q4 ∉ cL S3 → ∀ S5 : cS, S5 = cNew S3 q4 9 → (∃ mc6 ms7 : Nat, 0 + 1 + mc6 ≤ mc ∧ 0 + 5 + ms7 ≤ ms ∧ (k_X9_init (fun S_8 => 
cA S_8 x0 0 ∧ (∀ S9 : cS, S9 = cSr S_8 3 x0 ((some q4)) → (0 + 1 + mc6 + 1 ≤ mc ∧ 0 + 5 + ms7 + 5 ≤ ms) ∧ (∀ q10 : Nat, q10 ∉ cL S9 → ∀ S11 : cS, S11 = cNew S9 q10 9 → (∃ mc12 ms13 : Nat, 0 + 1 + mc6 + 1 + mc12 ≤ mc ∧ 0 + 5 + ms7 + 5 + ms13 ≤ ms ∧ (k_X9_init (fun S_14 => 
cA S_14 x0 0 ∧ (∀ S15 : cS, S15 = cSr S_14 4 x0 ((some q10)) → (0 + 1 + mc6 + 1 + mc12 ≤ mc ∧ 0 + 5 + ms7 + 5 + ms13 ≤ ms) ∧ (Q S15))) dp mc12 ms13 q10 S11))))) dp mc6 ms7 q4 S5))))))
set_option maxHeartbeats 1000000 in
set_option maxRecDepth 20000 in
theorem t_X0_init (l : Launch) (mc ms : Nat) (x0 : Nat) (S : cS) (dp : Nat) {P : cS → Prop} (h : k_X0_init P dp mc ms x0 S) : cMet (cQv P) l yX0_init cX0_init 1 none 2 mc ms 52 [.ref x0] S dp := by
  intro D Y tp sz
  refine cg_bodyI (by decide +kernel) (Nat.le_of_ble_eq_true rfl) ?_
  intro p e s m args below meth c C hin
  generalize va_A (cWd Y S) sz = A at C ⊢
  have C : cC p s m args meth c cX0_init 1 none A D Y tp dp RX0 := C
  refine cg_lv (lv' := [(0, .ref x0)]) rfl ?_
  unfold k_X0_init at h
  refine cg_aload_n C (i := 0) rfl 0 rfl dX0_init_0 ?_
  refine cg_objInit C co_X0_3 co_i co_c (by decide) (Nat.le_of_ble_eq_true rfl) dX0_init_1 ?_
  refine cg_aload_n C (i := 0) rfl 0 rfl dX0_init_4 ?_
  refine cg_iconst C (x := (-1)) rfl dX0_init_5 ?_
  obtain ⟨hc_6, h⟩ := h
  refine cg_puti C (k := 0) (j := 0) (ty := tyX0) (fty := .int) hc_6.1 hc_6.2 (by decide) rfl (by decide) rfl (by decide) rfl cWs_wsX00 tyX0_ok nmX0 cl_X0_9 rfl rfl rfl rfl rfl dX0_init_6 ?_
  refine cg_nm (fun S1 e_S1 => ?_)
  have h := h S1 e_S1
  refine cg_aload_n C (i := 0) rfl 0 rfl dX0_init_9 ?_
  refine cg_iconst C (x := nI 0) rfl dX0_init_10 ?_
  obtain ⟨hc_11, h⟩ := h
  refine cg_puti C (k := 0) (j := 1) (ty := tyX0) (fty := .int) hc_11.1 hc_11.2 (by decide) rfl (by decide) rfl (by decide) rfl cWs_wsX00 tyX0_ok nmX0 cl_X0_15 rfl rfl rfl rfl rfl dX0_init_11 ?_
  refine cg_nm (fun S2 e_S2 => ?_)
  have h := h S2 e_S2
  refine cg_aload_n C (i := 0) rfl 0 rfl dX0_init_14 ?_
  refine cg_iconst C (x := nI 0) rfl dX0_init_15 ?_
  obtain ⟨hc_16, h⟩ := h
  refine cg_puti C (k := 0) (j := 2) (ty := tyX0) (fty := .int) hc_16.1 hc_16.2 (by decide) rfl (by decide) rfl (by decide) rfl cWs_wsX00 tyX0_ok nmX0 cl_X0_18 rfl rfl rfl rfl rfl dX0_init_16 ?_
  refine cg_nm (fun S3 e_S3 => ?_)
  have h := h S3 e_S3
  refine cg_aload_n C (i := 0) rfl 0 rfl dX0_init_19 ?_
  obtain ⟨hc_20, h⟩ := h
  refine cg_new C (k := 9) (N := 5) (fs := [.null, .int 0, .null, .null, .int 0]) (by decide) rfl cWs_wsX90 tyX9_ok cn_X0_21 ci_X9 ct_X9 (fun j_ hj_ => by rcases (show j_ = 0 ∨ j_ = 1 ∨ j_ = 2 ∨ j_ = 3 ∨ j_ = 4 by omega) with rfl | rfl | rfl | rfl | rfl <;> rfl) rfl hc_20.1 hc_20.2 dX0_init_20 (fun q4 hf_q4 => ?_)
  have h := h q4 hf_q4
  refine cg_nm (fun S5 e_S5 => ?_)
  have h := h S5 e_S5
  refine cg_dup C rfl dX0_init_23 ?_
  obtain ⟨mc6, ms7, hm_1, hm_2, h⟩ := h
  refine cg_callIN C (t_X9_init l mc6 ms7 q4 S5 dp h) czn_X0_23 rfl ⟨by decide, by decide⟩ ⟨hm_1, hm_2⟩ rfl (Nat.le_of_ble_eq_true rfl) dX0_init_24 (fun S_8 h => ?_)
  obtain ⟨hc_27, h⟩ := h
  refine cg_putr C (k := 0) (j := 3) (x := (some q4)) (ty := tyX0) (fty := tyX0 3) hc_27.1 hc_27.2 (by decide) rfl (by decide) rfl (by decide) rfl cWs_wsX00 tyX0_ok nmX0 cl_X0_24 rfl rfl rfl rfl rfl dX0_init_27 ?_
  refine cg_nm (fun S9 e_S9 => ?_)
  have h := h S9 e_S9
  refine cg_aload_n C (i := 0) rfl 0 rfl dX0_init_30 ?_
  obtain ⟨hc_31, h⟩ := h
  refine cg_new C (k := 9) (N := 5) (fs := [.null, .int 0, .null, .null, .int 0]) (by decide) rfl cWs_wsX90 tyX9_ok cn_X0_21 ci_X9 ct_X9 (fun j_ hj_ => by rcases (show j_ = 0 ∨ j_ = 1 ∨ j_ = 2 ∨ j_ = 3 ∨ j_ = 4 by omega) with rfl | rfl | rfl | rfl | rfl <;> rfl) rfl hc_31.1 hc_31.2 dX0_init_31 (fun q10 hf_q10 => ?_)
  have h := h q10 hf_q10
  refine cg_nm (fun S11 e_S11 => ?_)
  have h := h S11 e_S11
  refine cg_dup C rfl dX0_init_34 ?_
  obtain ⟨mc12, ms13, hm_1, hm_2, h⟩ := h
  refine cg_callIN C (t_X9_init l mc12 ms13 q10 S11 dp h) czn_X0_23 rfl ⟨by decide, by decide⟩ ⟨hm_1, hm_2⟩ rfl (Nat.le_of_ble_eq_true rfl) dX0_init_35 (fun S_14 h => ?_)
  obtain ⟨hc_38, h⟩ := h
  refine cg_putr C (k := 0) (j := 4) (x := (some q10)) (ty := tyX0) (fty := tyX0 4) hc_38.1 hc_38.2 (by decide) rfl (by decide) rfl (by decide) rfl cWs_wsX00 tyX0_ok nmX0 cl_X0_28 rfl rfl rfl rfl rfl dX0_init_38 ?_
  refine cg_nm (fun S15 e_S15 => ?_)
  have h := h S15 e_S15
  obtain ⟨hb_41, h⟩ := h
  exact cg_vret C h dX0_init_41 hb_41.1 hb_41.2
def k_X0_textOf (Q : Nat → cS → Prop) (dp : Nat) (x0 : Nat) (x1 : Int32) (S : cS) : Prop :=
((¬ x1 = 0 →
  cA S x0 0 ∧ ((∃ b1 : Nat, cr S 4 x0 = some b1 ∧ (Q b1 S)))) ∧
 (x1 = 0 →
  cA S x0 0 ∧ ((∃ b2 : Nat, cr S 3 x0 = some b2 ∧ (Q b2 S)))))
set_option maxHeartbeats 1000000 in
set_option maxRecDepth 20000 in
theorem t_X0_textOf (l : Launch) (x0 : Nat) (x1 : Int32) (S : cS) (dp : Nat) {P : Nat → cS → Prop} (h : k_X0_textOf P dp x0 x1 S) : cMet (cQr P) l yX0_textOf cX0_textOf 2 (some (.object "SearchMill$Text")) 0 0 0 0 [.ref x0, .int x1] S dp := by
  intro D Y tp sz
  refine cg_body (by decide +kernel) (Nat.le_of_ble_eq_true rfl) ?_
  intro p e s m args below meth c C
  generalize va_A (cWd Y S) sz = A at C ⊢
  have C : cC p s m args meth c cX0_textOf 2 (some (.object "SearchMill$Text")) A D Y tp dp RX0 := C
  refine cg_lv (lv' := [(0, .ref x0), (1, .int x1)]) rfl ?_
  unfold k_X0_textOf at h
  refine cg_iload_n C (i := 1) rfl 1 rfl dX0_textOf_0 ?_
  refine cg_if_ne C 11 (by decide) dX0_textOf_1 (fun c_ => ?_) (fun c_ => ?_)
  · have h := h.1 c_
    refine cg_aload_n C (i := 0) rfl 0 rfl dX0_textOf_11 ?_
    obtain ⟨hc_12, h⟩ := h
    obtain ⟨b1, hb_b1, h⟩ := h
    refine cg_get C (k := 0) (j := 4) (.ref b1) hc_12.1 hc_12.2 (by decide) rfl (by decide) rfl (show cV _ 0 4 x0 = _ from congrArg va_rf hb_b1) cWs_wsX00 cl_X0_28 rfl dX0_textOf_12 ?_
    exact cg_aret C rfl (by first | exact Or.inl ⟨_, rfl⟩ | exact Or.inr ⟨_, rfl⟩) h dX0_textOf_15 (by decide) (by decide)
  · have h := h.2 c_
    refine cg_aload_n C (i := 0) rfl 0 rfl dX0_textOf_4 ?_
    obtain ⟨hc_5, h⟩ := h
    obtain ⟨b2, hb_b2, h⟩ := h
    refine cg_get C (k := 0) (j := 3) (.ref b2) hc_5.1 hc_5.2 (by decide) rfl (by decide) rfl (show cV _ 0 3 x0 = _ from congrArg va_rf hb_b2) cWs_wsX00 cl_X0_24 rfl dX0_textOf_5 ?_
    refine cg_goto C 15 (by decide) dX0_textOf_8 ?_
    exact cg_aret C rfl (by first | exact Or.inl ⟨_, rfl⟩ | exact Or.inr ⟨_, rfl⟩) h dX0_textOf_15 (by decide) (by decide)
def k_X0_putText (Q : cS → Prop) (dp : Nat) (x0 : Nat) (x1 : Int32) (x2 : Nat) (S : cS) : Prop :=
((¬ x1 = 0 →
  cA S x0 0 ∧ (∀ S1 : cS, S1 = cSr S 4 x0 ((some x2)) → Q S1)) ∧
 (x1 = 0 →
  cA S x0 0 ∧ (∀ S2 : cS, S2 = cSr S 3 x0 ((some x2)) → Q S2)))
set_option maxHeartbeats 1000000 in
set_option maxRecDepth 20000 in
theorem t_X0_putText (l : Launch) (x0 : Nat) (x1 : Int32) (x2 : Nat) (S : cS) (dp : Nat) {P : cS → Prop} (h : k_X0_putText P dp x0 x1 x2 S) : cMet (cQv P) l yX0_putText cX0_putText 3 none 0 0 0 0 [.ref x0, .int x1, .ref x2] S dp := by
  intro D Y tp sz
  refine cg_body (by decide +kernel) (Nat.le_of_ble_eq_true rfl) ?_
  intro p e s m args below meth c C
  generalize va_A (cWd Y S) sz = A at C ⊢
  have C : cC p s m args meth c cX0_putText 3 none A D Y tp dp RX0 := C
  refine cg_lv (lv' := [(0, .ref x0), (1, .int x1), (2, .ref x2)]) rfl ?_
  unfold k_X0_putText at h
  refine cg_iload_n C (i := 1) rfl 1 rfl dX0_putText_0 ?_
  refine cg_if_ne C 12 (by decide) dX0_putText_1 (fun c_ => ?_) (fun c_ => ?_)
  · have h := h.1 c_
    refine cg_aload_n C (i := 0) rfl 0 rfl dX0_putText_12 ?_
    refine cg_aload_n C (i := 2) rfl 2 rfl dX0_putText_13 ?_
    obtain ⟨hc_14, h⟩ := h
    refine cg_putr C (k := 0) (j := 4) (x := (some x2)) (ty := tyX0) (fty := tyX0 4) hc_14.1 hc_14.2 (by decide) rfl (by decide) rfl (by decide) rfl cWs_wsX00 tyX0_ok nmX0 cl_X0_28 rfl rfl rfl rfl rfl dX0_putText_14 ?_
    refine cg_nm (fun S1 e_S1 => ?_)
    have h := h S1 e_S1
    exact cg_vret C h dX0_putText_17 (by decide) (by decide)
  · have h := h.2 c_
    refine cg_aload_n C (i := 0) rfl 0 rfl dX0_putText_4 ?_
    refine cg_aload_n C (i := 2) rfl 2 rfl dX0_putText_5 ?_
    obtain ⟨hc_6, h⟩ := h
    refine cg_putr C (k := 0) (j := 3) (x := (some x2)) (ty := tyX0) (fty := tyX0 3) hc_6.1 hc_6.2 (by decide) rfl (by decide) rfl (by decide) rfl cWs_wsX00 tyX0_ok nmX0 cl_X0_24 rfl rfl rfl rfl rfl dX0_putText_6 ?_
    refine cg_nm (fun S2 e_S2 => ?_)
    have h := h S2 e_S2
    refine cg_goto C 17 (by decide) dX0_putText_9 ?_
    exact cg_vret C h dX0_putText_17 (by decide) (by decide)
def k_X1_forget (Q : cS → Prop) (dp : Nat) (x0 : Nat) (S : cS) : Prop :=
cA S x0 1 ∧ (∀ S1 : cS, S1 = cSi S 33 x0 ((nI 0)) → cA S1 x0 1 ∧ (∀ S2 : cS, S2 = cSi S1 36 x0 ((nI 0)) → cA S2 x0 1 ∧ (∀ S3 : cS, S3 = cSi S2 37 x0 ((nI 0)) → cA S3 x0 1 ∧ (∀ S4 : cS, S4 = cSi S3 38 x0 ((nI 0)) → Q S4))))
set_option maxHeartbeats 1000000 in
set_option maxRecDepth 20000 in
theorem t_X1_forget (l : Launch) (x0 : Nat) (S : cS) (dp : Nat) {P : cS → Prop} (h : k_X1_forget P dp x0 S) : cMet (cQv P) l yX1_forget cX1_forget 1 none 0 0 0 0 [.ref x0] S dp := by
  intro D Y tp sz
  refine cg_body (by decide +kernel) (Nat.le_of_ble_eq_true rfl) ?_
  intro p e s m args below meth c C
  generalize va_A (cWd Y S) sz = A at C ⊢
  have C : cC p s m args meth c cX1_forget 1 none A D Y tp dp RX1 := C
  refine cg_lv (lv' := [(0, .ref x0)]) rfl ?_
  unfold k_X1_forget at h
  refine cg_aload_n C (i := 0) rfl 0 rfl dX1_forget_0 ?_
  refine cg_iconst C (x := nI 0) rfl dX1_forget_1 ?_
  obtain ⟨hc_2, h⟩ := h
  refine cg_puti C (k := 1) (j := 1) (ty := tyX1) (fty := .int) hc_2.1 hc_2.2 (by decide) rfl (by decide) rfl (by decide) rfl cWs_wsX10 tyX1_ok nmX1 cl_X1_9 rfl rfl rfl rfl rfl dX1_forget_2 ?_
  refine cg_nm (fun S1 e_S1 => ?_)
  have h := h S1 e_S1
  refine cg_aload_n C (i := 0) rfl 0 rfl dX1_forget_5 ?_
  refine cg_iconst C (x := nI 0) rfl dX1_forget_6 ?_
  obtain ⟨hc_7, h⟩ := h
  refine cg_puti C (k := 1) (j := 4) (ty := tyX1) (fty := .int) hc_7.1 hc_7.2 (by decide) rfl (by decide) rfl (by decide) rfl cWs_wsX10 tyX1_ok nmX1 cl_X1_22 rfl rfl rfl rfl rfl dX1_forget_7 ?_
  refine cg_nm (fun S2 e_S2 => ?_)
  have h := h S2 e_S2
  refine cg_aload_n C (i := 0) rfl 0 rfl dX1_forget_10 ?_
  refine cg_iconst C (x := nI 0) rfl dX1_forget_11 ?_
  obtain ⟨hc_12, h⟩ := h
  refine cg_puti C (k := 1) (j := 5) (ty := tyX1) (fty := .int) hc_12.1 hc_12.2 (by decide) rfl (by decide) rfl (by decide) rfl cWs_wsX10 tyX1_ok nmX1 cl_X1_25 rfl rfl rfl rfl rfl dX1_forget_12 ?_
  refine cg_nm (fun S3 e_S3 => ?_)
  have h := h S3 e_S3
  refine cg_aload_n C (i := 0) rfl 0 rfl dX1_forget_15 ?_
  refine cg_iconst C (x := nI 0) rfl dX1_forget_16 ?_
  obtain ⟨hc_17, h⟩ := h
  refine cg_puti C (k := 1) (j := 6) (ty := tyX1) (fty := .int) hc_17.1 hc_17.2 (by decide) rfl (by decide) rfl (by decide) rfl cWs_wsX10 tyX1_ok nmX1 cl_X1_28 rfl rfl rfl rfl rfl dX1_forget_17 ?_
  refine cg_nm (fun S4 e_S4 => ?_)
  have h := h S4 e_S4
  exact cg_vret C h dX1_forget_20 (by decide) (by decide)
def k_Jx4a65c_size_8abf5 (Q : Int32 → cS → Prop) (dp : Nat) (x0 : Nat) (S : cS) : Prop :=
cA S x0 12 ∧ (Q ((ci S 386 x0)) S)
set_option maxHeartbeats 1000000 in
set_option maxRecDepth 20000 in
theorem t_Jx4a65c_size_8abf5 (l : Launch) (x0 : Nat) (S : cS) (dp : Nat) {P : Int32 → cS → Prop} (h : k_Jx4a65c_size_8abf5 P dp x0 S) : cMet (cQi P) l yJx4a65c_size_8abf5 cJx4a65c_size_8abf5 1 (some .int) 0 0 0 0 [.ref x0] S dp := by
  intro D Y tp sz
  refine cg_body (by decide +kernel) (Nat.le_of_ble_eq_true rfl) ?_
  intro p e s m args below meth c C
  generalize va_A (cWd Y S) sz = A at C ⊢
  have C : cC p s m args meth c cJx4a65c_size_8abf5 1 (some .int) A D Y tp dp RJx4a65c := C
  refine cg_lv (lv' := [(0, .ref x0)]) rfl ?_
  unfold k_Jx4a65c_size_8abf5 at h
  refine cg_aload_n C (i := 0) rfl 0 rfl dJx4a65c_size_8abf5_0 ?_
  obtain ⟨hc_1, h⟩ := h
  refine cg_get C (k := 12) (j := 2) (.int (ci S 386 x0)) hc_1.1 hc_1.2 (by decide) rfl (by decide) rfl rfl cWs_wsJx4a65c0 cl_Jx4a65c_48 rfl dJx4a65c_size_8abf5_1 ?_
  exact cg_iret C h dJx4a65c_size_8abf5_4 (by decide) (by decide)
def k_J3_checkIndex_8e157_9 (Q : Int32 → cS → Prop) (dp : Nat)  (x0 : Int32) (x1 : Int32) (x2 : Option Nat) (S : cS) : Prop :=
((x2 = none →
  False) ∧
 (∀ b2 : Nat, x2 = some b2 →
  False))
def k_J3_checkIndex_8e157 (Q : Int32 → cS → Prop) (dp : Nat) (x0 : Int32) (x1 : Int32) (x2 : Option Nat) (S : cS) : Prop :=
((x2 = none →
  ((x0 < 0 →
    k_J3_checkIndex_8e157_9 Q dp  x0 x1 none S) ∧
   (¬ x0 < 0 →
    ((x0 < x1 →
      Q x0 S) ∧
     (¬ x0 < x1 →
      k_J3_checkIndex_8e157_9 Q dp  x0 x1 none S))))) ∧
 (∀ b1 : Nat, x2 = some b1 →
  ((x0 < 0 →
    k_J3_checkIndex_8e157_9 Q dp  x0 x1 (some b1) S) ∧
   (¬ x0 < 0 →
    ((x0 < x1 →
      Q x0 S) ∧
     (¬ x0 < x1 →
      k_J3_checkIndex_8e157_9 Q dp  x0 x1 (some b1) S))))))
section S_J3_checkIndex_8e157
variable {p : Program} {l : Launch} {e : Env} {s : State} {m : MethodId} {args : Array Value} {below : List Frame} {meth : Method} {c : Code} {A : Nat → Prop} {D : va_G} {Y : cY} {tp dp : Nat}
set_option maxRecDepth 20000 in
theorem tb_J3_checkIndex_8e157_9 (C : cC p s m args meth c cJ3_checkIndex_8e157 3 (some .int) A D Y tp dp RJ3) {post : Int32 → cS → Prop}   (x0 : Int32) (x1 : Int32) (x2 : Option Nat) (S : cS) (h : k_J3_checkIndex_8e157_9 post dp  x0 x1 x2 S) : cG p l e (cRm 0 0 0 0) s m args below meth c A D Y 3 (MQ below (cQi post D Y A) args s 0 0 A) 0 0 9 [(0, .int x0), (1, .int x1), (2, va_rf x2)] [] S := by
  unfold k_J3_checkIndex_8e157_9 at h
  obtain ho | ⟨b2, ho⟩ := c_opt x2
  · replace h := h.1 ho
    subst ho
    refine cg_lv (lv' := [(0, .int x0), (1, .int x1), (2, .null)]) rfl ?_
    refine cg_st (st' := []) rfl ?_
    refine cg_aloadN_n C (i := 2) rfl 2 rfl dJ3_checkIndex_8e157_9 ?_
    refine cg_iload_n C (i := 0) rfl 0 rfl dJ3_checkIndex_8e157_10 ?_
    refine cg_iload_n C (i := 1) rfl 1 rfl dJ3_checkIndex_8e157_11 ?_
    exact h.elim
  · replace h := h.2 b2 ho
    subst ho
    refine cg_lv (lv' := [(0, .int x0), (1, .int x1), (2, .ref b2)]) rfl ?_
    refine cg_st (st' := []) rfl ?_
    refine cg_aload_n C (i := 2) rfl 2 rfl dJ3_checkIndex_8e157_9 ?_
    refine cg_iload_n C (i := 0) rfl 0 rfl dJ3_checkIndex_8e157_10 ?_
    refine cg_iload_n C (i := 1) rfl 1 rfl dJ3_checkIndex_8e157_11 ?_
    exact h.elim
end S_J3_checkIndex_8e157
set_option maxHeartbeats 1000000 in
set_option maxRecDepth 20000 in
theorem t_J3_checkIndex_8e157 (l : Launch) (x0 : Int32) (x1 : Int32) (x2 : Option Nat) (S : cS) (dp : Nat) {P : Int32 → cS → Prop} (h : k_J3_checkIndex_8e157 P dp x0 x1 x2 S) : cMet (cQi P) l yJ3_checkIndex_8e157 cJ3_checkIndex_8e157 3 (some .int) 0 0 0 0 [.int x0, .int x1, va_rf x2] S dp := by
  unfold k_J3_checkIndex_8e157 at h
  obtain ho | ⟨b1, ho⟩ := c_opt x2
  · replace h := h.1 ho
    subst ho
    intro D Y tp sz
    refine cg_body (by decide +kernel) (Nat.le_of_ble_eq_true rfl) ?_
    intro p e s m args below meth c C
    generalize va_A (cWd Y S) sz = A at C ⊢
    have C : cC p s m args meth c cJ3_checkIndex_8e157 3 (some .int) A D Y tp dp RJ3 := C
    refine cg_lv (lv' := [(0, .int x0), (1, .int x1), (2, .null)]) rfl ?_
    refine cg_iload_n C (i := 0) rfl 0 rfl dJ3_checkIndex_8e157_0 ?_
    refine cg_if_lt C 9 (by decide) dJ3_checkIndex_8e157_1 (fun c_ => ?_) (fun c_ => ?_)
    · have h := h.1 c_
      exact cg_sub [0, 1, 2] rfl (tb_J3_checkIndex_8e157_9 C   x0 x1 none S h)
    · have h := h.2 c_
      refine cg_iload_n C (i := 0) rfl 0 rfl dJ3_checkIndex_8e157_4 ?_
      refine cg_iload_n C (i := 1) rfl 1 rfl dJ3_checkIndex_8e157_5 ?_
      refine cg_icmp_lt C 16 (by decide) dJ3_checkIndex_8e157_6 (fun c_ => ?_) (fun c_ => ?_)
      · have h := h.1 c_
        refine cg_iload_n C (i := 0) rfl 0 rfl dJ3_checkIndex_8e157_16 ?_
        exact cg_iret C h dJ3_checkIndex_8e157_17 (by decide) (by decide)
      · have h := h.2 c_
        exact cg_sub [0, 1, 2] rfl (tb_J3_checkIndex_8e157_9 C   x0 x1 none S h)
  · replace h := h.2 b1 ho
    subst ho
    intro D Y tp sz
    refine cg_body (by decide +kernel) (Nat.le_of_ble_eq_true rfl) ?_
    intro p e s m args below meth c C
    generalize va_A (cWd Y S) sz = A at C ⊢
    have C : cC p s m args meth c cJ3_checkIndex_8e157 3 (some .int) A D Y tp dp RJ3 := C
    refine cg_lv (lv' := [(0, .int x0), (1, .int x1), (2, .ref b1)]) rfl ?_
    refine cg_iload_n C (i := 0) rfl 0 rfl dJ3_checkIndex_8e157_0 ?_
    refine cg_if_lt C 9 (by decide) dJ3_checkIndex_8e157_1 (fun c_ => ?_) (fun c_ => ?_)
    · have h := h.1 c_
      exact cg_sub [0, 1, 2] rfl (tb_J3_checkIndex_8e157_9 C   x0 x1 (some b1) S h)
    · have h := h.2 c_
      refine cg_iload_n C (i := 0) rfl 0 rfl dJ3_checkIndex_8e157_4 ?_
      refine cg_iload_n C (i := 1) rfl 1 rfl dJ3_checkIndex_8e157_5 ?_
      refine cg_icmp_lt C 16 (by decide) dJ3_checkIndex_8e157_6 (fun c_ => ?_) (fun c_ => ?_)
      · have h := h.1 c_
        refine cg_iload_n C (i := 0) rfl 0 rfl dJ3_checkIndex_8e157_16 ?_
        exact cg_iret C h dJ3_checkIndex_8e157_17 (by decide) (by decide)
      · have h := h.2 c_
        exact cg_sub [0, 1, 2] rfl (tb_J3_checkIndex_8e157_9 C   x0 x1 (some b1) S h)
def k_J15_checkIndex_7cf53 (Q : Int32 → cS → Prop) (dp : Nat) (x0 : Int32) (x1 : Int32) (S : cS) : Prop :=
k_J3_checkIndex_8e157 (fun r_1 S_1 => 
Q r_1 S_1) dp x0 x1 none S
set_option maxHeartbeats 1000000 in
set_option maxRecDepth 20000 in
theorem t_J15_checkIndex_7cf53 (l : Launch) (x0 : Int32) (x1 : Int32) (S : cS) (dp : Nat) {P : Int32 → cS → Prop} (h : k_J15_checkIndex_7cf53 P dp x0 x1 S) : cMet (cQi P) l yJ15_checkIndex_7cf53 cJ15_checkIndex_7cf53 2 (some .int) 1 0 0 22 [.int x0, .int x1] S dp := by
  intro D Y tp sz
  refine cg_body (by decide +kernel) (Nat.le_of_ble_eq_true rfl) ?_
  intro p e s m args below meth c C
  generalize va_A (cWd Y S) sz = A at C ⊢
  have C : cC p s m args meth c cJ15_checkIndex_7cf53 2 (some .int) A D Y tp dp RJ15 := C
  refine cg_lv (lv' := [(0, .int x0), (1, .int x1)]) rfl ?_
  unfold k_J15_checkIndex_7cf53 at h
  refine cg_iload_n C (i := 0) rfl 0 rfl dJ15_checkIndex_7cf53_0 ?_
  refine cg_iload_n C (i := 1) rfl 1 rfl dJ15_checkIndex_7cf53_1 ?_
  refine cg_null C dJ15_checkIndex_7cf53_2 ?_
  refine cg_callsi C (t_J3_checkIndex_8e157 l x0 x1 none S dp h) cc_J15_105 rfl ⟨by decide, by decide⟩ ⟨by decide, by decide⟩ rfl (Nat.le_of_ble_eq_true rfl) dJ15_checkIndex_7cf53_3 (fun r_1 S_1 h => ?_)
  exact cg_iret C h dJ15_checkIndex_7cf53_6 (by decide) (by decide)
def k_Jx4a65c_elementData_915e3 (Q : Nat → cS → Prop) (dp : Nat) (x0 : Nat) (x1 : Int32) (S : cS) : Prop :=
cA S x0 12 ∧ ((∃ b1 : Nat, cr S 385 x0 = some b1 ∧ (((b1 = dp →
  False) ∧
 (¬ b1 = dp →
  cX S b1 17 x1 ∧ ((∃ b2 : Nat, cO S b1 (x1).toNatClampNeg = some b2 ∧ (Q b2 S))))))))
set_option maxHeartbeats 1000000 in
set_option maxRecDepth 20000 in
theorem t_Jx4a65c_elementData_915e3 (l : Launch) (x0 : Nat) (x1 : Int32) (S : cS) (dp : Nat) {P : Nat → cS → Prop} (h : k_Jx4a65c_elementData_915e3 P dp x0 x1 S) : cMet (cQr P) l yJx4a65c_elementData_915e3 cJx4a65c_elementData_915e3 2 (some (.object "java/lang/Object")) 0 0 0 0 [.ref x0, .int x1] S dp := by
  intro D Y tp sz
  refine cg_body (by decide +kernel) (Nat.le_of_ble_eq_true rfl) ?_
  intro p e s m args below meth c C
  generalize va_A (cWd Y S) sz = A at C ⊢
  have C : cC p s m args meth c cJx4a65c_elementData_915e3 2 (some (.object "java/lang/Object")) A D Y tp dp RJx4a65c := C
  refine cg_lv (lv' := [(0, .ref x0), (1, .int x1)]) rfl ?_
  unfold k_Jx4a65c_elementData_915e3 at h
  refine cg_aload_n C (i := 0) rfl 0 rfl dJx4a65c_elementData_915e3_0 ?_
  obtain ⟨hc_1, h⟩ := h
  obtain ⟨b1, hb_b1, h⟩ := h
  by_cases hd : b1 = dp
  · have h := h.1 hd
    refine cg_get C (k := 12) (j := 1) (.ref dp) hc_1.1 hc_1.2 (by decide) rfl (by decide) rfl (show cV _ 12 1 x0 = _ from congrArg va_rf (hb_b1.trans (congrArg some hd))) cWs_wsJx4a65c0 cl_Jx4a65c_9 rfl dJx4a65c_elementData_915e3_1 ?_
    refine cg_iload_n C (i := 1) rfl 1 rfl dJx4a65c_elementData_915e3_4 ?_
    exact h.elim
  · have h := h.2 hd
    refine cg_get C (k := 12) (j := 1) (.ref b1) hc_1.1 hc_1.2 (by decide) rfl (by decide) rfl (show cV _ 12 1 x0 = _ from congrArg va_rf (hb_b1)) cWs_wsJx4a65c0 cl_Jx4a65c_9 rfl dJx4a65c_elementData_915e3_1 ?_
    refine cg_iload_n C (i := 1) rfl 1 rfl dJx4a65c_elementData_915e3_4 ?_
    obtain ⟨hc_5, h⟩ := h
    obtain ⟨b2, hb_b2, h⟩ := h
    refine cg_aaloadR C hc_5 hb_b2 dJx4a65c_elementData_915e3_5 ?_
    exact cg_aret C rfl (by first | exact Or.inl ⟨_, rfl⟩ | exact Or.inr ⟨_, rfl⟩) h dJx4a65c_elementData_915e3_6 (by decide) (by decide)
def k_Jx4a65c_get_915e3 (Q : Nat → cS → Prop) (dp : Nat) (x0 : Nat) (x1 : Int32) (S : cS) : Prop :=
cA S x0 12 ∧ (k_J15_checkIndex_7cf53 (fun r_1 S_1 => 
cA S_1 x0 12 ∧ (k_Jx4a65c_elementData_915e3 (fun r_2 S_2 => 
Q r_2 S_2) dp x0 x1 S_1)) dp x1 ((ci S 386 x0)) S)
set_option maxHeartbeats 1000000 in
set_option maxRecDepth 20000 in
theorem t_Jx4a65c_get_915e3 (l : Launch) (x0 : Nat) (x1 : Int32) (S : cS) (dp : Nat) {P : Nat → cS → Prop} (h : k_Jx4a65c_get_915e3 P dp x0 x1 S) : cMet (cQr P) l yJx4a65c_get_915e3 cJx4a65c_get_915e3 2 (some (.object "java/lang/Object")) 2 0 0 43 [.ref x0, .int x1] S dp := by
  intro D Y tp sz
  refine cg_body (by decide +kernel) (Nat.le_of_ble_eq_true rfl) ?_
  intro p e s m args below meth c C
  generalize va_A (cWd Y S) sz = A at C ⊢
  have C : cC p s m args meth c cJx4a65c_get_915e3 2 (some (.object "java/lang/Object")) A D Y tp dp RJx4a65c := C
  refine cg_lv (lv' := [(0, .ref x0), (1, .int x1)]) rfl ?_
  unfold k_Jx4a65c_get_915e3 at h
  refine cg_iload_n C (i := 1) rfl 1 rfl dJx4a65c_get_915e3_0 ?_
  refine cg_aload_n C (i := 0) rfl 0 rfl dJx4a65c_get_915e3_1 ?_
  obtain ⟨hc_2, h⟩ := h
  refine cg_get C (k := 12) (j := 2) (.int (ci S 386 x0)) hc_2.1 hc_2.2 (by decide) rfl (by decide) rfl rfl cWs_wsJx4a65c0 cl_Jx4a65c_48 rfl dJx4a65c_get_915e3_2 ?_
  refine cg_callsi C (t_J15_checkIndex_7cf53 l x1 ((ci S 386 x0)) S dp h) cc_Jx4a65c_118 rfl ⟨by decide, by decide⟩ ⟨by decide, by decide⟩ rfl (Nat.le_of_ble_eq_true rfl) dJx4a65c_get_915e3_5 (fun r_1 S_1 h => ?_)
  refine cg_pop C rfl dJx4a65c_get_915e3_8 ?_
  refine cg_aload_n C (i := 0) rfl 0 rfl dJx4a65c_get_915e3_9 ?_
  refine cg_iload_n C (i := 1) rfl 1 rfl dJx4a65c_get_915e3_10 ?_
  obtain ⟨hc_11, h⟩ := h
  refine cg_callr C (t_Jx4a65c_elementData_915e3 l x0 x1 S_1 dp h) cc_Jx4a65c_123 hc_11.1 hc_11.2 (by decide) rfl rfl ⟨by decide, by decide⟩ ⟨by decide, by decide⟩ rfl (Nat.le_of_ble_eq_true rfl) dJx4a65c_get_915e3_11 (fun r_2 S_2 h => ?_)
  exact cg_aret C rfl (by first | exact Or.inl ⟨_, rfl⟩ | exact Or.inr ⟨_, rfl⟩) h dJx4a65c_get_915e3_14 (by decide) (by decide)
def k_X2_liveCount_25 (Q : Int32 → cS → Prop) (dp : Nat) (R4 : Nat → Int32 → Int32 → cS → Prop) (x0 : Nat) (x1 : Int32) (x2 : Int32) (S : cS) : Prop :=
∀ x2_3 : Int32, x2_3 = x2 + nI 1 → R4 x0 x1 x2_3 S
def k_X2_liveCount_4 (Q : Int32 → cS → Prop) (dp : Nat) (R4 : Nat → Int32 → Int32 → cS → Prop) (x0 : Nat) (x1 : Int32) (x2 : Int32) (S : cS) : Prop :=
cA S x0 2 ∧ ((∃ b1 : Nat, cr S 65 x0 = some b1 ∧ (cA S b1 16 ∧ (((((nI (cn S b1))) ≤ x2 →
  Q x1 S) ∧
 (¬ ((nI (cn S b1))) ≤ x2 →
  cA S x0 2 ∧ ((∃ b2 : Nat, cr S 65 x0 = some b2 ∧ (cX S b2 16 x2 ∧ (((¬ ((cI S b2 (x2).toNatClampNeg)) = 0 →
    k_X2_liveCount_25 Q dp R4 x0 x1 x2 S) ∧
   (((cI S b2 (x2).toNatClampNeg)) = 0 →
    ∀ x1_4 : Int32, x1_4 = x1 + nI 1 → k_X2_liveCount_25 Q dp R4 x0 x1_4 x2 S))))))))))))
def k_X2_liveCount_4L (Q : Int32 → cS → Prop) (dp : Nat)  (x0 : Nat) (x1 : Int32) (x2 : Int32) (S : cS) : Prop :=
  lfp (X := Nat × Int32 × Int32 × cS) (fun P y => k_X2_liveCount_4 Q dp  (fun b0 b1 b2 S => P (b0, b1, b2, S)) y.1 y.2.1 y.2.2.1 y.2.2.2) (x0, x1, x2, S)
def k_X2_liveCount (Q : Int32 → cS → Prop) (dp : Nat) (x0 : Nat) (S : cS) : Prop :=
k_X2_liveCount_4L Q dp  x0 (((nI 0))) (((nI 0))) S
section S_X2_liveCount
variable {p : Program} {l : Launch} {e : Env} {s : State} {m : MethodId} {args : Array Value} {below : List Frame} {meth : Method} {c : Code} {A : Nat → Prop} {D : va_G} {Y : cY} {tp dp : Nat}
set_option maxRecDepth 20000 in
theorem tb_X2_liveCount_25 (C : cC p s m args meth c cX2_liveCount 3 (some .int) A D Y tp dp RX2) {post : Int32 → cS → Prop} {R4 : Nat → Int32 → Int32 → cS → Prop} (hR4 : ∀ (x0 : Nat) (x1 : Int32) (x2 : Int32) (S : cS), R4 x0 x1 x2 S → cG p l e (cRm 0 0 0 0) s m args below meth c A D Y 3 (MQ below (cQi post D Y A) args s 0 0 A) 0 0 4 [(0, .ref x0), (1, .int x1), (2, .int x2)] [] S) (x0 : Nat) (x1 : Int32) (x2 : Int32) (S : cS) (h : k_X2_liveCount_25 post dp R4 x0 x1 x2 S) : cG p l e (cRm 0 0 0 0) s m args below meth c A D Y 3 (MQ below (cQi post D Y A) args s 0 0 A) 0 0 25 [(0, .ref x0), (1, .int x1), (2, .int x2)] [] S := by
  unfold k_X2_liveCount_25 at h
  obtain ⟨x2_3, e_x2_3⟩ : ∃ z : Int32, z = x2 + nI 1 := ⟨_, rfl⟩
  have h := h x2_3 e_x2_3
  refine cg_iinc C (lv' := [(2, .int x2_3), (0, .ref x0), (1, .int x1)]) 2 rfl (by rw [e_x2_3]; rfl) (Nat.le_of_ble_eq_true rfl) rfl dX2_liveCount_25 ?_
  refine cg_goto C 4 (by decide) dX2_liveCount_28 ?_
  exact cg_sub [1, 2, 0] rfl (hR4 x0 x1 x2_3 S h)
set_option maxRecDepth 20000 in
theorem tb_X2_liveCount_4 (C : cC p s m args meth c cX2_liveCount 3 (some .int) A D Y tp dp RX2) {post : Int32 → cS → Prop} {R4 : Nat → Int32 → Int32 → cS → Prop} (hR4 : ∀ (x0 : Nat) (x1 : Int32) (x2 : Int32) (S : cS), R4 x0 x1 x2 S → cG p l e (cRm 0 0 0 0) s m args below meth c A D Y 3 (MQ below (cQi post D Y A) args s 0 0 A) 0 0 4 [(0, .ref x0), (1, .int x1), (2, .int x2)] [] S) (x0 : Nat) (x1 : Int32) (x2 : Int32) (S : cS) (h : k_X2_liveCount_4 post dp R4 x0 x1 x2 S) : cG p l e (cRm 0 0 0 0) s m args below meth c A D Y 3 (MQ below (cQi post D Y A) args s 0 0 A) 0 0 4 [(0, .ref x0), (1, .int x1), (2, .int x2)] [] S := by
  unfold k_X2_liveCount_4 at h
  refine cg_iload_n C (i := 2) rfl 2 rfl dX2_liveCount_4 ?_
  refine cg_aload_n C (i := 0) rfl 0 rfl dX2_liveCount_5 ?_
  obtain ⟨hc_6, h⟩ := h
  obtain ⟨b1, hb_b1, h⟩ := h
  refine cg_get C (k := 2) (j := 1) (.ref b1) hc_6.1 hc_6.2 (by decide) rfl (by decide) rfl (show cV _ 2 1 x0 = _ from congrArg va_rf hb_b1) cWs_wsX20 cl_X2_21 rfl dX2_liveCount_6 ?_
  obtain ⟨hc_9, h⟩ := h
  refine cg_alen C hc_9.1 hc_9.2 (by decide) (by decide) dX2_liveCount_9 ?_
  refine cg_icmp_ge C 31 (by decide) dX2_liveCount_10 (fun c_ => ?_) (fun c_ => ?_)
  · have h := h.1 c_
    refine cg_iload_n C (i := 1) rfl 1 rfl dX2_liveCount_31 ?_
    exact cg_iret C h dX2_liveCount_32 (by decide) (by decide)
  · have h := h.2 c_
    refine cg_aload_n C (i := 0) rfl 0 rfl dX2_liveCount_13 ?_
    obtain ⟨hc_14, h⟩ := h
    obtain ⟨b2, hb_b2, h⟩ := h
    refine cg_get C (k := 2) (j := 1) (.ref b2) hc_14.1 hc_14.2 (by decide) rfl (by decide) rfl (show cV _ 2 1 x0 = _ from congrArg va_rf hb_b2) cWs_wsX20 cl_X2_21 rfl dX2_liveCount_14 ?_
    refine cg_iload_n C (i := 2) rfl 2 rfl dX2_liveCount_17 ?_
    obtain ⟨hc_18, h⟩ := h
    refine cg_zaloadR C hc_18 dX2_liveCount_18 ?_
    refine cg_if_ne C 25 (by decide) dX2_liveCount_19 (fun c_ => ?_) (fun c_ => ?_)
    · have h := h.1 c_
      exact cg_sub [0, 1, 2] rfl (tb_X2_liveCount_25 C  hR4 x0 x1 x2 S h)
    · have h := h.2 c_
      obtain ⟨x1_4, e_x1_4⟩ : ∃ z : Int32, z = x1 + nI 1 := ⟨_, rfl⟩
      have h := h x1_4 e_x1_4
      refine cg_iinc C (lv' := [(1, .int x1_4), (0, .ref x0), (2, .int x2)]) 1 rfl (by rw [e_x1_4]; rfl) (Nat.le_of_ble_eq_true rfl) rfl dX2_liveCount_22 ?_
      exact cg_sub [1, 0, 2] rfl (tb_X2_liveCount_25 C  hR4 x0 x1_4 x2 S h)
set_option maxRecDepth 20000 in
theorem tl_X2_liveCount_4 (C : cC p s m args meth c cX2_liveCount 3 (some .int) A D Y tp dp RX2) {post : Int32 → cS → Prop}   (x0 : Nat) (x1 : Int32) (x2 : Int32) (S : cS) (h : k_X2_liveCount_4L post dp  x0 x1 x2 S) : cG p l e (cRm 0 0 0 0) s m args below meth c A D Y 3 (MQ below (cQi post D Y A) args s 0 0 A) 0 0 4 [(0, .ref x0), (1, .int x1), (2, .int x2)] [] S :=
  h (fun y => cG p l e (cRm 0 0 0 0) s m args below meth c A D Y 3 (MQ below (cQi post D Y A) args s 0 0 A) 0 0 4 [(0, .ref (y.1)), (1, .int (y.2.1)), (2, .int (y.2.2.1))] [] (y.2.2.2)) (fun y hy => tb_X2_liveCount_4 C   (fun b0 b1 b2 S z => z) (y.1) (y.2.1) (y.2.2.1) (y.2.2.2) hy)
end S_X2_liveCount
set_option maxHeartbeats 1000000 in
set_option maxRecDepth 20000 in
theorem t_X2_liveCount (l : Launch) (x0 : Nat) (S : cS) (dp : Nat) {P : Int32 → cS → Prop} (h : k_X2_liveCount P dp x0 S) : cMet (cQi P) l yX2_liveCount cX2_liveCount 3 (some .int) 0 0 0 0 [.ref x0] S dp := by
  intro D Y tp sz
  refine cg_body (by decide +kernel) (Nat.le_of_ble_eq_true rfl) ?_
  intro p e s m args below meth c C
  generalize va_A (cWd Y S) sz = A at C ⊢
  have C : cC p s m args meth c cX2_liveCount 3 (some .int) A D Y tp dp RX2 := C
  refine cg_lv (lv' := [(0, .ref x0)]) rfl ?_
  unfold k_X2_liveCount at h
  refine cg_iconst C (x := nI 0) rfl dX2_liveCount_0 ?_
  refine cg_istore_n C (i := 1) (lv' := [(1, .int ((nI 0))), (0, .ref x0)]) rfl (Nat.le_of_ble_eq_true rfl) rfl dX2_liveCount_1 ?_
  refine cg_iconst C (x := nI 0) rfl dX2_liveCount_2 ?_
  refine cg_istore_n C (i := 2) (lv' := [(2, .int ((nI 0))), (1, .int ((nI 0))), (0, .ref x0)]) rfl (Nat.le_of_ble_eq_true rfl) rfl dX2_liveCount_3 ?_
  exact cg_sub [2, 1, 0] rfl (tl_X2_liveCount_4 C   x0 (((nI 0))) (((nI 0))) S h)
def k_X10_liveCount_4 (Q : Int32 → cS → Prop) (dp : Nat) (R4 : Nat → Int32 → Int32 → cS → Prop) (x0 : Nat) (x1 : Int32) (x2 : Int32) (S : cS) : Prop :=
cA S x0 10 ∧ ((∃ b1 : Nat, cr S 321 x0 = some b1 ∧ (cA S b1 12 ∧ (k_Jx4a65c_size_8abf5 (fun r_2 S_2 => 
((r_2 ≤ x2 →
  Q x1 S_2) ∧
 (¬ r_2 ≤ x2 →
  cA S_2 x0 10 ∧ ((∃ b3 : Nat, cr S_2 321 x0 = some b3 ∧ (cA S_2 b3 12 ∧ (k_Jx4a65c_get_915e3 (fun r_4 S_4 => 
  cA S_4 r_4 2 ∧ (cA S_4 r_4 2 ∧ (k_X2_liveCount (fun r_5 S_5 => 
  ∀ x1_6 : Int32, x1_6 = (x1 + r_5) → ∀ x2_7 : Int32, x2_7 = x2 + nI 1 → R4 x0 x1_6 x2_7 S_5) dp r_4 S_4))) dp b3 x2 S_2))))))) dp b1 S))))
def k_X10_liveCount_4L (Q : Int32 → cS → Prop) (dp : Nat)  (x0 : Nat) (x1 : Int32) (x2 : Int32) (S : cS) : Prop :=
  lfp (X := Nat × Int32 × Int32 × cS) (fun P y => k_X10_liveCount_4 Q dp  (fun b0 b1 b2 S => P (b0, b1, b2, S)) y.1 y.2.1 y.2.2.1 y.2.2.2) (x0, x1, x2, S)
def k_X10_liveCount (Q : Int32 → cS → Prop) (dp : Nat) (x0 : Nat) (S : cS) : Prop :=
k_X10_liveCount_4L Q dp  x0 (((nI 0))) (((nI 0))) S
section S_X10_liveCount
variable {p : Program} {l : Launch} {e : Env} {s : State} {m : MethodId} {args : Array Value} {below : List Frame} {meth : Method} {c : Code} {A : Nat → Prop} {D : va_G} {Y : cY} {tp dp : Nat}
set_option maxRecDepth 20000 in
theorem tb_X10_liveCount_4 (C : cC p s m args meth c cX10_liveCount 3 (some .int) A D Y tp dp RX10) {post : Int32 → cS → Prop} {R4 : Nat → Int32 → Int32 → cS → Prop} (hR4 : ∀ (x0 : Nat) (x1 : Int32) (x2 : Int32) (S : cS), R4 x0 x1 x2 S → cG p l e (cRm 3 0 0 64) s m args below meth c A D Y 3 (MQ below (cQi post D Y A) args s 0 0 A) 0 0 4 [(0, .ref x0), (1, .int x1), (2, .int x2)] [] S) (x0 : Nat) (x1 : Int32) (x2 : Int32) (S : cS) (h : k_X10_liveCount_4 post dp R4 x0 x1 x2 S) : cG p l e (cRm 3 0 0 64) s m args below meth c A D Y 3 (MQ below (cQi post D Y A) args s 0 0 A) 0 0 4 [(0, .ref x0), (1, .int x1), (2, .int x2)] [] S := by
  unfold k_X10_liveCount_4 at h
  refine cg_iload_n C (i := 2) rfl 2 rfl dX10_liveCount_4 ?_
  refine cg_aload_n C (i := 0) rfl 0 rfl dX10_liveCount_5 ?_
  obtain ⟨hc_6, h⟩ := h
  obtain ⟨b1, hb_b1, h⟩ := h
  refine cg_get C (k := 10) (j := 1) (.ref b1) hc_6.1 hc_6.2 (by decide) rfl (by decide) rfl (show cV _ 10 1 x0 = _ from congrArg va_rf hb_b1) cWs_wsX100 cl_X10_12 rfl dX10_liveCount_6 ?_
  obtain ⟨hc_9, h⟩ := h
  refine cg_calli C (t_Jx4a65c_size_8abf5 l b1 S dp h) cc_X10_22 hc_9.1 hc_9.2 (by decide) rfl rfl ⟨by decide, by decide⟩ ⟨by decide, by decide⟩ rfl (Nat.le_of_ble_eq_true rfl) dX10_liveCount_9 (fun r_2 S_2 h => ?_)
  refine cg_icmp_ge C 38 (by decide) dX10_liveCount_12 (fun c_ => ?_) (fun c_ => ?_)
  · have h := h.1 c_
    refine cg_iload_n C (i := 1) rfl 1 rfl dX10_liveCount_38 ?_
    exact cg_iret C h dX10_liveCount_39 (by decide) (by decide)
  · have h := h.2 c_
    refine cg_iload_n C (i := 1) rfl 1 rfl dX10_liveCount_15 ?_
    refine cg_aload_n C (i := 0) rfl 0 rfl dX10_liveCount_16 ?_
    obtain ⟨hc_17, h⟩ := h
    obtain ⟨b3, hb_b3, h⟩ := h
    refine cg_get C (k := 10) (j := 1) (.ref b3) hc_17.1 hc_17.2 (by decide) rfl (by decide) rfl (show cV _ 10 1 x0 = _ from congrArg va_rf hb_b3) cWs_wsX100 cl_X10_12 rfl dX10_liveCount_17 ?_
    refine cg_iload_n C (i := 2) rfl 2 rfl dX10_liveCount_20 ?_
    obtain ⟨hc_21, h⟩ := h
    refine cg_callr C (t_Jx4a65c_get_915e3 l b3 x2 S_2 dp h) cc_X10_26 hc_21.1 hc_21.2 (by decide) rfl rfl ⟨by decide, by decide⟩ ⟨by decide, by decide⟩ rfl (Nat.le_of_ble_eq_true rfl) dX10_liveCount_21 (fun r_4 S_4 h => ?_)
    obtain ⟨hc_24, h⟩ := h
    refine cg_ccast C (k := 2) hc_24.1 hc_24.2 (by decide) rfl cnc_X10_30 dX10_liveCount_24 ?_
    obtain ⟨hc_27, h⟩ := h
    refine cg_calli C (t_X2_liveCount l r_4 S_4 dp h) cc_X10_74 hc_27.1 hc_27.2 (by decide) rfl rfl ⟨by decide, by decide⟩ ⟨by decide, by decide⟩ rfl (Nat.le_of_ble_eq_true rfl) dX10_liveCount_27 (fun r_5 S_5 h => ?_)
    refine cg_iadd C dX10_liveCount_30 ?_
    refine cg_nmI (fun x1_6 e_x1_6 => ?_)
    have h := h x1_6 e_x1_6
    refine cg_istore_n C (i := 1) (lv' := [(1, .int x1_6), (0, .ref x0), (2, .int x2)]) rfl (Nat.le_of_ble_eq_true rfl) rfl dX10_liveCount_31 ?_
    obtain ⟨x2_7, e_x2_7⟩ : ∃ z : Int32, z = x2 + nI 1 := ⟨_, rfl⟩
    have h := h x2_7 e_x2_7
    refine cg_iinc C (lv' := [(2, .int x2_7), (1, .int x1_6), (0, .ref x0)]) 2 rfl (by rw [e_x2_7]; rfl) (Nat.le_of_ble_eq_true rfl) rfl dX10_liveCount_32 ?_
    refine cg_goto C 4 (by decide) dX10_liveCount_35 ?_
    exact cg_sub [2, 1, 0] rfl (hR4 x0 x1_6 x2_7 S_5 h)
set_option maxRecDepth 20000 in
theorem tl_X10_liveCount_4 (C : cC p s m args meth c cX10_liveCount 3 (some .int) A D Y tp dp RX10) {post : Int32 → cS → Prop}   (x0 : Nat) (x1 : Int32) (x2 : Int32) (S : cS) (h : k_X10_liveCount_4L post dp  x0 x1 x2 S) : cG p l e (cRm 3 0 0 64) s m args below meth c A D Y 3 (MQ below (cQi post D Y A) args s 0 0 A) 0 0 4 [(0, .ref x0), (1, .int x1), (2, .int x2)] [] S :=
  h (fun y => cG p l e (cRm 3 0 0 64) s m args below meth c A D Y 3 (MQ below (cQi post D Y A) args s 0 0 A) 0 0 4 [(0, .ref (y.1)), (1, .int (y.2.1)), (2, .int (y.2.2.1))] [] (y.2.2.2)) (fun y hy => tb_X10_liveCount_4 C   (fun b0 b1 b2 S z => z) (y.1) (y.2.1) (y.2.2.1) (y.2.2.2) hy)
end S_X10_liveCount
set_option maxHeartbeats 1000000 in
set_option maxRecDepth 20000 in
theorem t_X10_liveCount (l : Launch) (x0 : Nat) (S : cS) (dp : Nat) {P : Int32 → cS → Prop} (h : k_X10_liveCount P dp x0 S) : cMet (cQi P) l yX10_liveCount cX10_liveCount 3 (some .int) 3 0 0 64 [.ref x0] S dp := by
  intro D Y tp sz
  refine cg_body (by decide +kernel) (Nat.le_of_ble_eq_true rfl) ?_
  intro p e s m args below meth c C
  generalize va_A (cWd Y S) sz = A at C ⊢
  have C : cC p s m args meth c cX10_liveCount 3 (some .int) A D Y tp dp RX10 := C
  refine cg_lv (lv' := [(0, .ref x0)]) rfl ?_
  unfold k_X10_liveCount at h
  refine cg_iconst C (x := nI 0) rfl dX10_liveCount_0 ?_
  refine cg_istore_n C (i := 1) (lv' := [(1, .int ((nI 0))), (0, .ref x0)]) rfl (Nat.le_of_ble_eq_true rfl) rfl dX10_liveCount_1 ?_
  refine cg_iconst C (x := nI 0) rfl dX10_liveCount_2 ?_
  refine cg_istore_n C (i := 2) (lv' := [(2, .int ((nI 0))), (1, .int ((nI 0))), (0, .ref x0)]) rfl (Nat.le_of_ble_eq_true rfl) rfl dX10_liveCount_3 ?_
  exact cg_sub [2, 1, 0] rfl (tl_X10_liveCount_4 C   x0 (((nI 0))) (((nI 0))) S h)
def k_X4_tokenCount (Q : Int32 → cS → Prop) (dp : Nat) (x0 : Nat) (S : cS) : Prop :=
cA S x0 4 ∧ ((∃ b1 : Nat, cr S 134 x0 = some b1 ∧ (cA S b1 15 ∧ (Q ((nI (cn S b1))) S))))
set_option maxHeartbeats 1000000 in
set_option maxRecDepth 20000 in
theorem t_X4_tokenCount (l : Launch) (x0 : Nat) (S : cS) (dp : Nat) {P : Int32 → cS → Prop} (h : k_X4_tokenCount P dp x0 S) : cMet (cQi P) l yX4_tokenCount cX4_tokenCount 1 (some .int) 0 0 0 0 [.ref x0] S dp := by
  intro D Y tp sz
  refine cg_body (by decide +kernel) (Nat.le_of_ble_eq_true rfl) ?_
  intro p e s m args below meth c C
  generalize va_A (cWd Y S) sz = A at C ⊢
  have C : cC p s m args meth c cX4_tokenCount 1 (some .int) A D Y tp dp RX4 := C
  refine cg_lv (lv' := [(0, .ref x0)]) rfl ?_
  unfold k_X4_tokenCount at h
  refine cg_aload_n C (i := 0) rfl 0 rfl dX4_tokenCount_0 ?_
  obtain ⟨hc_1, h⟩ := h
  obtain ⟨b1, hb_b1, h⟩ := h
  refine cg_get C (k := 4) (j := 6) (.ref b1) hc_1.1 hc_1.2 (by decide) rfl (by decide) rfl (show cV _ 4 6 x0 = _ from congrArg va_rf hb_b1) cWs_wsX40 cl_X4_22 rfl dX4_tokenCount_1 ?_
  obtain ⟨hc_4, h⟩ := h
  refine cg_alen C hc_4.1 hc_4.2 (by decide) (by decide) dX4_tokenCount_4 ?_
  exact cg_iret C h dX4_tokenCount_5 (by decide) (by decide)
def k_X4_tokenAt_13 (Q : Int64 → cS → Prop) (dp : Nat)   (S : cS) : Prop :=
Q 0 S
def k_X4_tokenAt (Q : Int64 → cS → Prop) (dp : Nat) (x0 : Nat) (x1 : Int32) (S : cS) : Prop :=
((x1 < 0 →
  k_X4_tokenAt_13 Q dp  S) ∧
 (¬ x1 < 0 →
  cA S x0 4 ∧ ((∃ b1 : Nat, cr S 134 x0 = some b1 ∧ (cA S b1 15 ∧ (((x1 < ((nI (cn S b1))) →
    cA S x0 4 ∧ ((∃ b2 : Nat, cr S 134 x0 = some b2 ∧ (cX S b2 15 x1 ∧ (Q (cJ S b2 (x1).toNatClampNeg) S))))) ∧
   (¬ x1 < ((nI (cn S b1))) →
    k_X4_tokenAt_13 Q dp  S))))))))
section S_X4_tokenAt
variable {p : Program} {l : Launch} {e : Env} {s : State} {m : MethodId} {args : Array Value} {below : List Frame} {meth : Method} {c : Code} {A : Nat → Prop} {D : va_G} {Y : cY} {tp dp : Nat}
set_option maxRecDepth 20000 in
theorem tb_X4_tokenAt_13 (C : cC p s m args meth c cX4_tokenAt 2 (some .long) A D Y tp dp RX4) {post : Int64 → cS → Prop}    (S : cS) (h : k_X4_tokenAt_13 post dp   S) : cG p l e (cRm 0 0 0 0) s m args below meth c A D Y 2 (MQ below (cQl post D Y A) args s 0 0 A) 0 0 13 [] [] S := by
  unfold k_X4_tokenAt_13 at h
  refine cg_lconst C (x := 0) rfl dX4_tokenAt_13 ?_
  refine cg_goto C 23 (by decide) dX4_tokenAt_14 ?_
  exact cg_lret C h dX4_tokenAt_23 (by decide) (by decide)
end S_X4_tokenAt
set_option maxHeartbeats 1000000 in
set_option maxRecDepth 20000 in
theorem t_X4_tokenAt (l : Launch) (x0 : Nat) (x1 : Int32) (S : cS) (dp : Nat) {P : Int64 → cS → Prop} (h : k_X4_tokenAt P dp x0 x1 S) : cMet (cQl P) l yX4_tokenAt cX4_tokenAt 2 (some .long) 0 0 0 0 [.ref x0, .int x1] S dp := by
  intro D Y tp sz
  refine cg_body (by decide +kernel) (Nat.le_of_ble_eq_true rfl) ?_
  intro p e s m args below meth c C
  generalize va_A (cWd Y S) sz = A at C ⊢
  have C : cC p s m args meth c cX4_tokenAt 2 (some .long) A D Y tp dp RX4 := C
  refine cg_lv (lv' := [(0, .ref x0), (1, .int x1)]) rfl ?_
  unfold k_X4_tokenAt at h
  refine cg_iload_n C (i := 1) rfl 1 rfl dX4_tokenAt_0 ?_
  refine cg_if_lt C 13 (by decide) dX4_tokenAt_1 (fun c_ => ?_) (fun c_ => ?_)
  · have h := h.1 c_
    exact cg_sub [] rfl (tb_X4_tokenAt_13 C   S h)
  · have h := h.2 c_
    refine cg_iload_n C (i := 1) rfl 1 rfl dX4_tokenAt_4 ?_
    refine cg_aload_n C (i := 0) rfl 0 rfl dX4_tokenAt_5 ?_
    obtain ⟨hc_6, h⟩ := h
    obtain ⟨b1, hb_b1, h⟩ := h
    refine cg_get C (k := 4) (j := 6) (.ref b1) hc_6.1 hc_6.2 (by decide) rfl (by decide) rfl (show cV _ 4 6 x0 = _ from congrArg va_rf hb_b1) cWs_wsX40 cl_X4_22 rfl dX4_tokenAt_6 ?_
    obtain ⟨hc_9, h⟩ := h
    refine cg_alen C hc_9.1 hc_9.2 (by decide) (by decide) dX4_tokenAt_9 ?_
    refine cg_icmp_lt C 17 (by decide) dX4_tokenAt_10 (fun c_ => ?_) (fun c_ => ?_)
    · have h := h.1 c_
      refine cg_aload_n C (i := 0) rfl 0 rfl dX4_tokenAt_17 ?_
      obtain ⟨hc_18, h⟩ := h
      obtain ⟨b2, hb_b2, h⟩ := h
      refine cg_get C (k := 4) (j := 6) (.ref b2) hc_18.1 hc_18.2 (by decide) rfl (by decide) rfl (show cV _ 4 6 x0 = _ from congrArg va_rf hb_b2) cWs_wsX40 cl_X4_22 rfl dX4_tokenAt_18 ?_
      refine cg_iload_n C (i := 1) rfl 1 rfl dX4_tokenAt_21 ?_
      obtain ⟨hc_22, h⟩ := h
      refine cg_laloadR C hc_22 dX4_tokenAt_22 ?_
      exact cg_lret C h dX4_tokenAt_23 (by decide) (by decide)
    · have h := h.2 c_
      exact cg_sub [] rfl (tb_X4_tokenAt_13 C   S h)
def k_X10_size (Q : Int32 → cS → Prop) (dp : Nat) (x0 : Nat) (S : cS) : Prop :=
cA S x0 10 ∧ ((∃ b1 : Nat, cr S 321 x0 = some b1 ∧ (cA S b1 12 ∧ (k_Jx4a65c_size_8abf5 (fun r_2 S_2 => 
Q r_2 S_2) dp b1 S))))
set_option maxHeartbeats 1000000 in
set_option maxRecDepth 20000 in
theorem t_X10_size (l : Launch) (x0 : Nat) (S : cS) (dp : Nat) {P : Int32 → cS → Prop} (h : k_X10_size P dp x0 S) : cMet (cQi P) l yX10_size cX10_size 1 (some .int) 1 0 0 20 [.ref x0] S dp := by
  intro D Y tp sz
  refine cg_body (by decide +kernel) (Nat.le_of_ble_eq_true rfl) ?_
  intro p e s m args below meth c C
  generalize va_A (cWd Y S) sz = A at C ⊢
  have C : cC p s m args meth c cX10_size 1 (some .int) A D Y tp dp RX10 := C
  refine cg_lv (lv' := [(0, .ref x0)]) rfl ?_
  unfold k_X10_size at h
  refine cg_aload_n C (i := 0) rfl 0 rfl dX10_size_0 ?_
  obtain ⟨hc_1, h⟩ := h
  obtain ⟨b1, hb_b1, h⟩ := h
  refine cg_get C (k := 10) (j := 1) (.ref b1) hc_1.1 hc_1.2 (by decide) rfl (by decide) rfl (show cV _ 10 1 x0 = _ from congrArg va_rf hb_b1) cWs_wsX100 cl_X10_12 rfl dX10_size_1 ?_
  obtain ⟨hc_4, h⟩ := h
  refine cg_calli C (t_Jx4a65c_size_8abf5 l b1 S dp h) cc_X10_22 hc_4.1 hc_4.2 (by decide) rfl rfl ⟨by decide, by decide⟩ ⟨by decide, by decide⟩ rfl (Nat.le_of_ble_eq_true rfl) dX10_size_4 (fun r_2 S_2 h => ?_)
  exact cg_iret C h dX10_size_7 (by decide) (by decide)
def k_X10_at (Q : Option Nat → cS → Prop) (dp : Nat) (x0 : Nat) (x1 : Int32) (S : cS) : Prop :=
((x1 < 0 →
  Q none S) ∧
 (¬ x1 < 0 →
  cA S x0 10 ∧ ((∃ b1 : Nat, cr S 321 x0 = some b1 ∧ (cA S b1 12 ∧ (k_Jx4a65c_size_8abf5 (fun r_2 S_2 => 
  ((x1 < r_2 →
    cA S_2 x0 10 ∧ ((∃ b3 : Nat, cr S_2 321 x0 = some b3 ∧ (cA S_2 b3 12 ∧ (k_Jx4a65c_get_915e3 (fun r_4 S_4 => 
    cA S_4 r_4 2 ∧ (Q (some r_4) S_4)) dp b3 x1 S_2))))) ∧
   (¬ x1 < r_2 →
    Q none S_2))) dp b1 S))))))
set_option maxHeartbeats 1000000 in
set_option maxRecDepth 20000 in
theorem t_X10_at (l : Launch) (x0 : Nat) (x1 : Int32) (S : cS) (dp : Nat) {P : Option Nat → cS → Prop} (h : k_X10_at P dp x0 x1 S) : cMet (cQq P) l yX10_at cX10_at 2 (some (.object "SearchMill$Holding")) 3 0 0 64 [.ref x0, .int x1] S dp := by
  intro D Y tp sz
  refine cg_body (by decide +kernel) (Nat.le_of_ble_eq_true rfl) ?_
  intro p e s m args below meth c C
  generalize va_A (cWd Y S) sz = A at C ⊢
  have C : cC p s m args meth c cX10_at 2 (some (.object "SearchMill$Holding")) A D Y tp dp RX10 := C
  refine cg_lv (lv' := [(0, .ref x0), (1, .int x1)]) rfl ?_
  unfold k_X10_at at h
  refine cg_iload_n C (i := 1) rfl 1 rfl dX10_at_0 ?_
  refine cg_if_lt C 15 (by decide) dX10_at_1 (fun c_ => ?_) (fun c_ => ?_)
  · have h := h.1 c_
    refine cg_null C dX10_at_15 ?_
    refine cg_goto C 30 (by decide) dX10_at_16 ?_
    exact cg_anret C rfl (by first | exact Or.inl ⟨_, rfl⟩ | exact Or.inr ⟨_, rfl⟩) h dX10_at_30 (by decide) (by decide)
  · have h := h.2 c_
    refine cg_iload_n C (i := 1) rfl 1 rfl dX10_at_4 ?_
    refine cg_aload_n C (i := 0) rfl 0 rfl dX10_at_5 ?_
    obtain ⟨hc_6, h⟩ := h
    obtain ⟨b1, hb_b1, h⟩ := h
    refine cg_get C (k := 10) (j := 1) (.ref b1) hc_6.1 hc_6.2 (by decide) rfl (by decide) rfl (show cV _ 10 1 x0 = _ from congrArg va_rf hb_b1) cWs_wsX100 cl_X10_12 rfl dX10_at_6 ?_
    obtain ⟨hc_9, h⟩ := h
    refine cg_calli C (t_Jx4a65c_size_8abf5 l b1 S dp h) cc_X10_22 hc_9.1 hc_9.2 (by decide) rfl rfl ⟨by decide, by decide⟩ ⟨by decide, by decide⟩ rfl (Nat.le_of_ble_eq_true rfl) dX10_at_9 (fun r_2 S_2 h => ?_)
    refine cg_icmp_lt C 19 (by decide) dX10_at_12 (fun c_ => ?_) (fun c_ => ?_)
    · have h := h.1 c_
      refine cg_aload_n C (i := 0) rfl 0 rfl dX10_at_19 ?_
      obtain ⟨hc_20, h⟩ := h
      obtain ⟨b3, hb_b3, h⟩ := h
      refine cg_get C (k := 10) (j := 1) (.ref b3) hc_20.1 hc_20.2 (by decide) rfl (by decide) rfl (show cV _ 10 1 x0 = _ from congrArg va_rf hb_b3) cWs_wsX100 cl_X10_12 rfl dX10_at_20 ?_
      refine cg_iload_n C (i := 1) rfl 1 rfl dX10_at_23 ?_
      obtain ⟨hc_24, h⟩ := h
      refine cg_callr C (t_Jx4a65c_get_915e3 l b3 x1 S_2 dp h) cc_X10_26 hc_24.1 hc_24.2 (by decide) rfl rfl ⟨by decide, by decide⟩ ⟨by decide, by decide⟩ rfl (Nat.le_of_ble_eq_true rfl) dX10_at_24 (fun r_4 S_4 h => ?_)
      obtain ⟨hc_27, h⟩ := h
      refine cg_ccast C (k := 2) hc_27.1 hc_27.2 (by decide) rfl cnc_X10_30 dX10_at_27 ?_
      exact cg_asret C rfl (by first | exact Or.inl ⟨_, rfl⟩ | exact Or.inr ⟨_, rfl⟩) h dX10_at_30 (by decide) (by decide)
    · have h := h.2 c_
      refine cg_null C dX10_at_15 ?_
      refine cg_goto C 30 (by decide) dX10_at_16 ?_
      exact cg_anret C rfl (by first | exact Or.inl ⟨_, rfl⟩ | exact Or.inr ⟨_, rfl⟩) h dX10_at_30 (by decide) (by decide)
def k_X8_wordsOf (Q : Nat → cS → Prop) (dp : Nat) (x0 : Nat) (x1 : Int32) (S : cS) : Prop :=
((¬ x1 = 0 →
  cA S x0 8 ∧ ((∃ b1 : Nat, cr S 259 x0 = some b1 ∧ (Q b1 S)))) ∧
 (x1 = 0 →
  cA S x0 8 ∧ ((∃ b2 : Nat, cr S 258 x0 = some b2 ∧ (Q b2 S)))))
set_option maxHeartbeats 1000000 in
set_option maxRecDepth 20000 in
theorem t_X8_wordsOf (l : Launch) (x0 : Nat) (x1 : Int32) (S : cS) (dp : Nat) {P : Nat → cS → Prop} (h : k_X8_wordsOf P dp x0 x1 S) : cMet (cQr P) l yX8_wordsOf cX8_wordsOf 2 (some (.object "java/util/ArrayList")) 0 0 0 0 [.ref x0, .int x1] S dp := by
  intro D Y tp sz
  refine cg_body (by decide +kernel) (Nat.le_of_ble_eq_true rfl) ?_
  intro p e s m args below meth c C
  generalize va_A (cWd Y S) sz = A at C ⊢
  have C : cC p s m args meth c cX8_wordsOf 2 (some (.object "java/util/ArrayList")) A D Y tp dp RX8 := C
  refine cg_lv (lv' := [(0, .ref x0), (1, .int x1)]) rfl ?_
  unfold k_X8_wordsOf at h
  refine cg_iload_n C (i := 1) rfl 1 rfl dX8_wordsOf_0 ?_
  refine cg_if_ne C 11 (by decide) dX8_wordsOf_1 (fun c_ => ?_) (fun c_ => ?_)
  · have h := h.1 c_
    refine cg_aload_n C (i := 0) rfl 0 rfl dX8_wordsOf_11 ?_
    obtain ⟨hc_12, h⟩ := h
    obtain ⟨b1, hb_b1, h⟩ := h
    refine cg_get C (k := 8) (j := 3) (.ref b1) hc_12.1 hc_12.2 (by decide) rfl (by decide) rfl (show cV _ 8 3 x0 = _ from congrArg va_rf hb_b1) cWs_wsX80 cl_X8_19 rfl dX8_wordsOf_12 ?_
    exact cg_aret C rfl (by first | exact Or.inl ⟨_, rfl⟩ | exact Or.inr ⟨_, rfl⟩) h dX8_wordsOf_15 (by decide) (by decide)
  · have h := h.2 c_
    refine cg_aload_n C (i := 0) rfl 0 rfl dX8_wordsOf_4 ?_
    obtain ⟨hc_5, h⟩ := h
    obtain ⟨b2, hb_b2, h⟩ := h
    refine cg_get C (k := 8) (j := 2) (.ref b2) hc_5.1 hc_5.2 (by decide) rfl (by decide) rfl (show cV _ 8 2 x0 = _ from congrArg va_rf hb_b2) cWs_wsX80 cl_X8_16 rfl dX8_wordsOf_5 ?_
    refine cg_goto C 15 (by decide) dX8_wordsOf_8 ?_
    exact cg_aret C rfl (by first | exact Or.inl ⟨_, rfl⟩ | exact Or.inr ⟨_, rfl⟩) h dX8_wordsOf_15 (by decide) (by decide)
def k_X8_placeOf_8 (Q : Int32 → cS → Prop) (dp : Nat) (R8 : Nat → Int64 → Int32 → Int32 → cS → Prop) (x0 : Nat) (x1 : Int64) (x3 : Int32) (x4 : Int32) (S : cS) : Prop :=
((x4 ≤ x3 →
  Q x3 S) ∧
 (¬ x4 ≤ x3 →
  ∀ x5_2 : Int32, x5_2 = (((x3 + x4)) >>> (((nI 1)) &&& 31)) → cA S x0 12 ∧ (k_Jx4a65c_get_915e3 (fun r_3 S_3 => 
  cA S_3 r_3 5 ∧ (cA S_3 r_3 5 ∧ (((x1 ≤ (cw S_3 160 r_3) →
    R8 x0 x1 x3 x5_2 S_3) ∧
   (¬ x1 ≤ (cw S_3 160 r_3) →
    ∀ x3_4 : Int32, x3_4 = (x5_2 + ((nI 1))) → R8 x0 x1 x3_4 x4 S_3))))) dp x0 x5_2 S)))
def k_X8_placeOf_8L (Q : Int32 → cS → Prop) (dp : Nat)  (x0 : Nat) (x1 : Int64) (x3 : Int32) (x4 : Int32) (S : cS) : Prop :=
  lfp (X := Nat × Int64 × Int32 × Int32 × cS) (fun P y => k_X8_placeOf_8 Q dp  (fun b0 b1 b2 b3 S => P (b0, b1, b2, b3, S)) y.1 y.2.1 y.2.2.1 y.2.2.2.1 y.2.2.2.2) (x0, x1, x3, x4, S)
def k_X8_placeOf (Q : Int32 → cS → Prop) (dp : Nat) (x0 : Nat) (x1 : Int64) (S : cS) : Prop :=
cA S x0 12 ∧ (k_Jx4a65c_size_8abf5 (fun r_1 S_1 => 
k_X8_placeOf_8L Q dp  x0 x1 (((nI 0))) r_1 S_1) dp x0 S)
section S_X8_placeOf
variable {p : Program} {l : Launch} {e : Env} {s : State} {m : MethodId} {args : Array Value} {below : List Frame} {meth : Method} {c : Code} {A : Nat → Prop} {D : va_G} {Y : cY} {tp dp : Nat}
set_option maxRecDepth 20000 in
theorem tb_X8_placeOf_8 (C : cC p s m args meth c cX8_placeOf 6 (some .int) A D Y tp dp RX8) {post : Int32 → cS → Prop} {R8 : Nat → Int64 → Int32 → Int32 → cS → Prop} (hR8 : ∀ (x0 : Nat) (x1 : Int64) (x3 : Int32) (x4 : Int32) (S : cS), R8 x0 x1 x3 x4 S → cG p l e (cRm 3 0 0 64) s m args below meth c A D Y 6 (MQ below (cQi post D Y A) args s 0 0 A) 0 0 8 [(0, .ref x0), (1, .long x1), (3, .int x3), (4, .int x4)] [] S) (x0 : Nat) (x1 : Int64) (x3 : Int32) (x4 : Int32) (S : cS) (h : k_X8_placeOf_8 post dp R8 x0 x1 x3 x4 S) : cG p l e (cRm 3 0 0 64) s m args below meth c A D Y 6 (MQ below (cQi post D Y A) args s 0 0 A) 0 0 8 [(0, .ref x0), (1, .long x1), (3, .int x3), (4, .int x4)] [] S := by
  unfold k_X8_placeOf_8 at h
  refine cg_iload_n C (i := 3) rfl 2 rfl dX8_placeOf_8 ?_
  refine cg_iload C 3 rfl dX8_placeOf_9 ?_
  refine cg_icmp_ge C 54 (by decide) dX8_placeOf_11 (fun c_ => ?_) (fun c_ => ?_)
  · have h := h.1 c_
    refine cg_iload_n C (i := 3) rfl 2 rfl dX8_placeOf_54 ?_
    exact cg_iret C h dX8_placeOf_55 (by decide) (by decide)
  · have h := h.2 c_
    refine cg_iload_n C (i := 3) rfl 2 rfl dX8_placeOf_14 ?_
    refine cg_iload C 3 rfl dX8_placeOf_15 ?_
    refine cg_iadd C dX8_placeOf_17 ?_
    refine cg_iconst C (x := nI 1) rfl dX8_placeOf_18 ?_
    refine cg_ishr C dX8_placeOf_19 ?_
    refine cg_nmI (fun x5_2 e_x5_2 => ?_)
    have h := h x5_2 e_x5_2
    refine cg_istore C (lv' := [(5, .int x5_2), (0, .ref x0), (1, .long x1), (3, .int x3), (4, .int x4)]) (Nat.le_of_ble_eq_true rfl) rfl dX8_placeOf_20 ?_
    refine cg_aload_n C (i := 0) rfl 1 rfl dX8_placeOf_22 ?_
    refine cg_iload C 0 rfl dX8_placeOf_23 ?_
    obtain ⟨hc_25, h⟩ := h
    refine cg_callr C (t_Jx4a65c_get_915e3 l x0 x5_2 S dp h) cc_X8_35 hc_25.1 hc_25.2 (by decide) rfl rfl ⟨by decide, by decide⟩ ⟨by decide, by decide⟩ rfl (Nat.le_of_ble_eq_true rfl) dX8_placeOf_25 (fun r_3 S_3 h => ?_)
    obtain ⟨hc_28, h⟩ := h
    refine cg_ccast C (k := 5) hc_28.1 hc_28.2 (by decide) rfl cnc_X8_67 dX8_placeOf_28 ?_
    obtain ⟨hc_31, h⟩ := h
    refine cg_get C (k := 5) (j := 0) (.long (cw S_3 160 r_3)) hc_31.1 hc_31.2 (by decide) rfl (by decide) rfl rfl cWs_wsX50 cl_X8_79 rfl dX8_placeOf_31 ?_
    refine cg_lload_n C (i := 1) rfl 2 rfl dX8_placeOf_34 ?_
    refine cg_lcmp C dX8_placeOf_35 ?_
    refine cg_if_geL C 47 (by decide) dX8_placeOf_36 (fun c_ => ?_) (fun c_ => ?_)
    · have h := h.1 c_
      refine cg_iload C 0 rfl dX8_placeOf_47 ?_
      refine cg_istore C (lv' := [(4, .int x5_2), (5, .int x5_2), (0, .ref x0), (1, .long x1), (3, .int x3)]) (Nat.le_of_ble_eq_true rfl) rfl dX8_placeOf_49 ?_
      refine cg_goto C 8 (by decide) dX8_placeOf_51 ?_
      exact cg_sub [2, 3, 4, 0] rfl (hR8 x0 x1 x3 x5_2 S_3 h)
    · have h := h.2 c_
      refine cg_iload C 0 rfl dX8_placeOf_39 ?_
      refine cg_iconst C (x := nI 1) rfl dX8_placeOf_41 ?_
      refine cg_iadd C dX8_placeOf_42 ?_
      refine cg_nmI (fun x3_4 e_x3_4 => ?_)
      have h := h x3_4 e_x3_4
      refine cg_istore_n C (i := 3) (lv' := [(3, .int x3_4), (5, .int x5_2), (0, .ref x0), (1, .long x1), (4, .int x4)]) rfl (Nat.le_of_ble_eq_true rfl) rfl dX8_placeOf_43 ?_
      refine cg_goto C 51 (by decide) dX8_placeOf_44 ?_
      refine cg_goto C 8 (by decide) dX8_placeOf_51 ?_
      exact cg_sub [2, 3, 0, 4] rfl (hR8 x0 x1 x3_4 x4 S_3 h)
set_option maxRecDepth 20000 in
theorem tl_X8_placeOf_8 (C : cC p s m args meth c cX8_placeOf 6 (some .int) A D Y tp dp RX8) {post : Int32 → cS → Prop}   (x0 : Nat) (x1 : Int64) (x3 : Int32) (x4 : Int32) (S : cS) (h : k_X8_placeOf_8L post dp  x0 x1 x3 x4 S) : cG p l e (cRm 3 0 0 64) s m args below meth c A D Y 6 (MQ below (cQi post D Y A) args s 0 0 A) 0 0 8 [(0, .ref x0), (1, .long x1), (3, .int x3), (4, .int x4)] [] S :=
  h (fun y => cG p l e (cRm 3 0 0 64) s m args below meth c A D Y 6 (MQ below (cQi post D Y A) args s 0 0 A) 0 0 8 [(0, .ref (y.1)), (1, .long (y.2.1)), (3, .int (y.2.2.1)), (4, .int (y.2.2.2.1))] [] (y.2.2.2.2)) (fun y hy => tb_X8_placeOf_8 C   (fun b0 b1 b2 b3 S z => z) (y.1) (y.2.1) (y.2.2.1) (y.2.2.2.1) (y.2.2.2.2) hy)
end S_X8_placeOf
set_option maxHeartbeats 1000000 in
set_option maxRecDepth 20000 in
theorem t_X8_placeOf (l : Launch) (x0 : Nat) (x1 : Int64) (S : cS) (dp : Nat) {P : Int32 → cS → Prop} (h : k_X8_placeOf P dp x0 x1 S) : cMet (cQi P) l yX8_placeOf cX8_placeOf 6 (some .int) 3 0 0 64 [.ref x0, .long x1] S dp := by
  intro D Y tp sz
  refine cg_body (by decide +kernel) (Nat.le_of_ble_eq_true rfl) ?_
  intro p e s m args below meth c C
  generalize va_A (cWd Y S) sz = A at C ⊢
  have C : cC p s m args meth c cX8_placeOf 6 (some .int) A D Y tp dp RX8 := C
  refine cg_lv (lv' := [(0, .ref x0), (1, .long x1)]) rfl ?_
  unfold k_X8_placeOf at h
  refine cg_iconst C (x := nI 0) rfl dX8_placeOf_0 ?_
  refine cg_istore_n C (i := 3) (lv' := [(3, .int ((nI 0))), (0, .ref x0), (1, .long x1)]) rfl (Nat.le_of_ble_eq_true rfl) rfl dX8_placeOf_1 ?_
  refine cg_aload_n C (i := 0) rfl 1 rfl dX8_placeOf_2 ?_
  obtain ⟨hc_3, h⟩ := h
  refine cg_calli C (t_Jx4a65c_size_8abf5 l x0 S dp h) cc_X8_26 hc_3.1 hc_3.2 (by decide) rfl rfl ⟨by decide, by decide⟩ ⟨by decide, by decide⟩ rfl (Nat.le_of_ble_eq_true rfl) dX8_placeOf_3 (fun r_1 S_1 h => ?_)
  refine cg_istore C (lv' := [(4, .int r_1), (3, .int ((nI 0))), (0, .ref x0), (1, .long x1)]) (Nat.le_of_ble_eq_true rfl) rfl dX8_placeOf_6 ?_
  exact cg_sub [2, 3, 1, 0] rfl (tl_X8_placeOf_8 C   x0 x1 (((nI 0))) r_1 S_1 h)
def k_X8_postingsOf (Q : Option Nat → cS → Prop) (dp : Nat) (x0 : Nat) (x1 : Int32) (x2 : Int64) (S : cS) : Prop :=
cA S x0 8 ∧ (k_X8_wordsOf (fun r_1 S_1 => 
k_X8_placeOf (fun r_2 S_2 => 
cA S_2 r_1 12 ∧ (k_Jx4a65c_size_8abf5 (fun r_3 S_3 => 
((r_3 ≤ r_2 →
  Q none S_3) ∧
 (¬ r_3 ≤ r_2 →
  cA S_3 r_1 12 ∧ (k_Jx4a65c_get_915e3 (fun r_4 S_4 => 
  cA S_4 r_4 5 ∧ (cA S_4 r_4 5 ∧ (((¬ (cw S_4 160 r_4) = x2 →
    Q none S_4) ∧
   ((cw S_4 160 r_4) = x2 →
    cA S_4 r_1 12 ∧ (k_Jx4a65c_get_915e3 (fun r_5 S_5 => 
    cA S_5 r_5 5 ∧ (Q (some r_5) S_5)) dp r_1 r_2 S_4)))))) dp r_1 r_2 S_3)))) dp r_1 S_2)) dp r_1 x2 S_1) dp x0 x1 S)
set_option maxHeartbeats 1000000 in
set_option maxRecDepth 20000 in
theorem t_X8_postingsOf (l : Launch) (x0 : Nat) (x1 : Int32) (x2 : Int64) (S : cS) (dp : Nat) {P : Option Nat → cS → Prop} (h : k_X8_postingsOf P dp x0 x1 x2 S) : cMet (cQq P) l yX8_postingsOf cX8_postingsOf 6 (some (.object "SearchMill$Postings")) 4 0 0 89 [.ref x0, .int x1, .long x2] S dp := by
  intro D Y tp sz
  refine cg_body (by decide +kernel) (Nat.le_of_ble_eq_true rfl) ?_
  intro p e s m args below meth c C
  generalize va_A (cWd Y S) sz = A at C ⊢
  have C : cC p s m args meth c cX8_postingsOf 6 (some (.object "SearchMill$Postings")) A D Y tp dp RX8 := C
  refine cg_lv (lv' := [(0, .ref x0), (1, .int x1), (2, .long x2)]) rfl ?_
  unfold k_X8_postingsOf at h
  refine cg_aload_n C (i := 0) rfl 0 rfl dX8_postingsOf_0 ?_
  refine cg_iload_n C (i := 1) rfl 1 rfl dX8_postingsOf_1 ?_
  obtain ⟨hc_2, h⟩ := h
  refine cg_callr C (t_X8_wordsOf l x0 x1 S dp h) cc_X8_31 hc_2.1 hc_2.2 (by decide) rfl rfl ⟨by decide, by decide⟩ ⟨by decide, by decide⟩ rfl (Nat.le_of_ble_eq_true rfl) dX8_postingsOf_2 (fun r_1 S_1 h => ?_)
  refine cg_astore (lv' := [(4, .ref r_1), (0, .ref x0), (1, .int x1), (2, .long x2)]) C (Nat.le_of_ble_eq_true rfl) rfl dX8_postingsOf_5 ?_
  refine cg_aload C 0 rfl dX8_postingsOf_7 ?_
  refine cg_lload_n C (i := 2) rfl 3 rfl dX8_postingsOf_9 ?_
  refine cg_callsi C (t_X8_placeOf l r_1 x2 S_1 dp h) cc_X8_75 rfl ⟨by decide, by decide⟩ ⟨by decide, by decide⟩ rfl (Nat.le_of_ble_eq_true rfl) dX8_postingsOf_10 (fun r_2 S_2 h => ?_)
  refine cg_istore C (lv' := [(5, .int r_2), (4, .ref r_1), (0, .ref x0), (1, .int x1), (2, .long x2)]) (Nat.le_of_ble_eq_true rfl) rfl dX8_postingsOf_13 ?_
  refine cg_iload C 0 rfl dX8_postingsOf_15 ?_
  refine cg_aload C 1 rfl dX8_postingsOf_17 ?_
  obtain ⟨hc_19, h⟩ := h
  refine cg_calli C (t_Jx4a65c_size_8abf5 l r_1 S_2 dp h) cc_X8_26 hc_19.1 hc_19.2 (by decide) rfl rfl ⟨by decide, by decide⟩ ⟨by decide, by decide⟩ rfl (Nat.le_of_ble_eq_true rfl) dX8_postingsOf_19 (fun r_3 S_3 h => ?_)
  refine cg_icmp_ge C 56 (by decide) dX8_postingsOf_22 (fun c_ => ?_) (fun c_ => ?_)
  · have h := h.1 c_
    refine cg_null C dX8_postingsOf_56 ?_
    exact cg_anret C rfl (by first | exact Or.inl ⟨_, rfl⟩ | exact Or.inr ⟨_, rfl⟩) h dX8_postingsOf_57 (by decide) (by decide)
  · have h := h.2 c_
    refine cg_aload C 1 rfl dX8_postingsOf_25 ?_
    refine cg_iload C 0 rfl dX8_postingsOf_27 ?_
    obtain ⟨hc_29, h⟩ := h
    refine cg_callr C (t_Jx4a65c_get_915e3 l r_1 r_2 S_3 dp h) cc_X8_35 hc_29.1 hc_29.2 (by decide) rfl rfl ⟨by decide, by decide⟩ ⟨by decide, by decide⟩ rfl (Nat.le_of_ble_eq_true rfl) dX8_postingsOf_29 (fun r_4 S_4 h => ?_)
    obtain ⟨hc_32, h⟩ := h
    refine cg_ccast C (k := 5) hc_32.1 hc_32.2 (by decide) rfl cnc_X8_67 dX8_postingsOf_32 ?_
    obtain ⟨hc_35, h⟩ := h
    refine cg_get C (k := 5) (j := 0) (.long (cw S_4 160 r_4)) hc_35.1 hc_35.2 (by decide) rfl (by decide) rfl rfl cWs_wsX50 cl_X8_79 rfl dX8_postingsOf_35 ?_
    refine cg_lload_n C (i := 2) rfl 4 rfl dX8_postingsOf_38 ?_
    refine cg_lcmp C dX8_postingsOf_39 ?_
    refine cg_if_neL C 56 (by decide) dX8_postingsOf_40 (fun c_ => ?_) (fun c_ => ?_)
    · have h := h.1 c_
      refine cg_null C dX8_postingsOf_56 ?_
      exact cg_anret C rfl (by first | exact Or.inl ⟨_, rfl⟩ | exact Or.inr ⟨_, rfl⟩) h dX8_postingsOf_57 (by decide) (by decide)
    · have h := h.2 c_
      refine cg_aload C 1 rfl dX8_postingsOf_43 ?_
      refine cg_iload C 0 rfl dX8_postingsOf_45 ?_
      obtain ⟨hc_47, h⟩ := h
      refine cg_callr C (t_Jx4a65c_get_915e3 l r_1 r_2 S_4 dp h) cc_X8_35 hc_47.1 hc_47.2 (by decide) rfl rfl ⟨by decide, by decide⟩ ⟨by decide, by decide⟩ rfl (Nat.le_of_ble_eq_true rfl) dX8_postingsOf_47 (fun r_5 S_5 h => ?_)
      obtain ⟨hc_50, h⟩ := h
      refine cg_ccast C (k := 5) hc_50.1 hc_50.2 (by decide) rfl cnc_X8_67 dX8_postingsOf_50 ?_
      refine cg_goto C 57 (by decide) dX8_postingsOf_53 ?_
      exact cg_asret C rfl (by first | exact Or.inl ⟨_, rfl⟩ | exact Or.inr ⟨_, rfl⟩) h dX8_postingsOf_57 (by decide) (by decide)
def k_J7_fill_53178_5 (Q : cS → Prop) (dp : Nat) (R5 : Nat → Int32 → Int32 → Int32 → cS → Prop) (x0 : Nat) (x1 : Int32) (x2 : Int32) (x3 : Int32) (S : cS) : Prop :=
((x3 ≤ x2 →
  Q S) ∧
 (¬ x3 ≤ x2 →
  cX S x0 14 x2 ∧ (∀ S2 : cS, S2 = cSI S x0 (x2).toNatClampNeg x1 → ∀ x2_3 : Int32, x2_3 = x2 + nI 1 → R5 x0 x1 x2_3 x3 S2)))
def k_J7_fill_53178_5L (Q : cS → Prop) (dp : Nat)  (x0 : Nat) (x1 : Int32) (x2 : Int32) (x3 : Int32) (S : cS) : Prop :=
  lfp (X := Nat × Int32 × Int32 × Int32 × cS) (fun P y => k_J7_fill_53178_5 Q dp  (fun b0 b1 b2 b3 S => P (b0, b1, b2, b3, S)) y.1 y.2.1 y.2.2.1 y.2.2.2.1 y.2.2.2.2) (x0, x1, x2, x3, S)
def k_J7_fill_53178 (Q : cS → Prop) (dp : Nat) (x0 : Nat) (x1 : Int32) (S : cS) : Prop :=
cA S x0 14 ∧ (∀ x3_1 : Int32, x3_1 = (nI (cn S x0)) → k_J7_fill_53178_5L Q dp  x0 x1 (((nI 0))) x3_1 S)
section S_J7_fill_53178
variable {p : Program} {l : Launch} {e : Env} {s : State} {m : MethodId} {args : Array Value} {below : List Frame} {meth : Method} {c : Code} {A : Nat → Prop} {D : va_G} {Y : cY} {tp dp : Nat}
set_option maxRecDepth 20000 in
theorem tb_J7_fill_53178_5 (C : cC p s m args meth c cJ7_fill_53178 4 none A D Y tp dp RJ7) {post : cS → Prop} {R5 : Nat → Int32 → Int32 → Int32 → cS → Prop} (hR5 : ∀ (x0 : Nat) (x1 : Int32) (x2 : Int32) (x3 : Int32) (S : cS), R5 x0 x1 x2 x3 S → cG p l e (cRm 0 0 0 0) s m args below meth c A D Y 4 (MQ below (cQv post D Y A) args s 0 0 A) 0 0 5 [(0, .ref x0), (1, .int x1), (2, .int x2), (3, .int x3)] [] S) (x0 : Nat) (x1 : Int32) (x2 : Int32) (x3 : Int32) (S : cS) (h : k_J7_fill_53178_5 post dp R5 x0 x1 x2 x3 S) : cG p l e (cRm 0 0 0 0) s m args below meth c A D Y 4 (MQ below (cQv post D Y A) args s 0 0 A) 0 0 5 [(0, .ref x0), (1, .int x1), (2, .int x2), (3, .int x3)] [] S := by
  unfold k_J7_fill_53178_5 at h
  refine cg_iload_n C (i := 2) rfl 2 rfl dJ7_fill_53178_5 ?_
  refine cg_iload_n C (i := 3) rfl 3 rfl dJ7_fill_53178_6 ?_
  refine cg_icmp_ge C 20 (by decide) dJ7_fill_53178_7 (fun c_ => ?_) (fun c_ => ?_)
  · have h := h.1 c_
    exact cg_vret C h dJ7_fill_53178_20 (by decide) (by decide)
  · have h := h.2 c_
    refine cg_aload_n C (i := 0) rfl 0 rfl dJ7_fill_53178_10 ?_
    refine cg_iload_n C (i := 2) rfl 2 rfl dJ7_fill_53178_11 ?_
    refine cg_iload_n C (i := 1) rfl 1 rfl dJ7_fill_53178_12 ?_
    obtain ⟨hc_13, h⟩ := h
    refine cg_iastoreR C hc_13 dJ7_fill_53178_13 ?_
    refine cg_nm (fun S2 e_S2 => ?_)
    have h := h S2 e_S2
    obtain ⟨x2_3, e_x2_3⟩ : ∃ z : Int32, z = x2 + nI 1 := ⟨_, rfl⟩
    have h := h x2_3 e_x2_3
    refine cg_iinc C (lv' := [(2, .int x2_3), (0, .ref x0), (1, .int x1), (3, .int x3)]) 2 rfl (by rw [e_x2_3]; rfl) (Nat.le_of_ble_eq_true rfl) rfl dJ7_fill_53178_14 ?_
    refine cg_goto C 5 (by decide) dJ7_fill_53178_17 ?_
    exact cg_sub [1, 2, 0, 3] rfl (hR5 x0 x1 x2_3 x3 S2 h)
set_option maxRecDepth 20000 in
theorem tl_J7_fill_53178_5 (C : cC p s m args meth c cJ7_fill_53178 4 none A D Y tp dp RJ7) {post : cS → Prop}   (x0 : Nat) (x1 : Int32) (x2 : Int32) (x3 : Int32) (S : cS) (h : k_J7_fill_53178_5L post dp  x0 x1 x2 x3 S) : cG p l e (cRm 0 0 0 0) s m args below meth c A D Y 4 (MQ below (cQv post D Y A) args s 0 0 A) 0 0 5 [(0, .ref x0), (1, .int x1), (2, .int x2), (3, .int x3)] [] S :=
  h (fun y => cG p l e (cRm 0 0 0 0) s m args below meth c A D Y 4 (MQ below (cQv post D Y A) args s 0 0 A) 0 0 5 [(0, .ref (y.1)), (1, .int (y.2.1)), (2, .int (y.2.2.1)), (3, .int (y.2.2.2.1))] [] (y.2.2.2.2)) (fun y hy => tb_J7_fill_53178_5 C   (fun b0 b1 b2 b3 S z => z) (y.1) (y.2.1) (y.2.2.1) (y.2.2.2.1) (y.2.2.2.2) hy)
end S_J7_fill_53178
set_option maxHeartbeats 1000000 in
set_option maxRecDepth 20000 in
theorem t_J7_fill_53178 (l : Launch) (x0 : Nat) (x1 : Int32) (S : cS) (dp : Nat) {P : cS → Prop} (h : k_J7_fill_53178 P dp x0 x1 S) : cMet (cQv P) l yJ7_fill_53178 cJ7_fill_53178 4 none 0 0 0 0 [.ref x0, .int x1] S dp := by
  intro D Y tp sz
  refine cg_body (by decide +kernel) (Nat.le_of_ble_eq_true rfl) ?_
  intro p e s m args below meth c C
  generalize va_A (cWd Y S) sz = A at C ⊢
  have C : cC p s m args meth c cJ7_fill_53178 4 none A D Y tp dp RJ7 := C
  refine cg_lv (lv' := [(0, .ref x0), (1, .int x1)]) rfl ?_
  unfold k_J7_fill_53178 at h
  refine cg_iconst C (x := nI 0) rfl dJ7_fill_53178_0 ?_
  refine cg_istore_n C (i := 2) (lv' := [(2, .int ((nI 0))), (0, .ref x0), (1, .int x1)]) rfl (Nat.le_of_ble_eq_true rfl) rfl dJ7_fill_53178_1 ?_
  refine cg_aload_n C (i := 0) rfl 1 rfl dJ7_fill_53178_2 ?_
  obtain ⟨hc_3, h⟩ := h
  refine cg_alen C hc_3.1 hc_3.2 (by decide) (by decide) dJ7_fill_53178_3 ?_
  refine cg_nmI (fun x3_1 e_x3_1 => ?_)
  have h := h x3_1 e_x3_1
  refine cg_istore_n C (i := 3) (lv' := [(3, .int x3_1), (2, .int ((nI 0))), (0, .ref x0), (1, .int x1)]) rfl (Nat.le_of_ble_eq_true rfl) rfl dJ7_fill_53178_4 ?_
  exact cg_sub [2, 3, 1, 0] rfl (tl_J7_fill_53178_5 C   x0 x1 (((nI 0))) x3_1 S h)
def k_X5_nextBits_51 (Q : Int32 → cS → Prop) (dp : Nat) (R4 : Nat → Int32 → Int32 → Int32 → cS → Prop) (x0 : Nat) (x1 : Int32) (x2 : Int32) (x3 : Int32) (t0 : Int32) (S : cS) : Prop :=
∀ x2_3 : Int32, x2_3 = (((x2 <<< (((nI 1)) &&& 31))) ||| t0) → cA S x0 5 ∧ (cA S x0 5 ∧ (∀ S4 : cS, S4 = cSi S 167 x0 ((((ci S 167 x0)) + ((nI 1)))) → ∀ x3_5 : Int32, x3_5 = x3 + nI 1 → R4 x0 x1 x2_3 x3_5 S4))
def k_X5_nextBits_4 (Q : Int32 → cS → Prop) (dp : Nat) (R4 : Nat → Int32 → Int32 → Int32 → cS → Prop) (x0 : Nat) (x1 : Int32) (x2 : Int32) (x3 : Int32) (S : cS) : Prop :=
((x1 ≤ x3 →
  Q x2 S) ∧
 (¬ x1 ≤ x3 →
  cA S x0 5 ∧ (∀ x4_1 : Int32, x4_1 = (((ci S 167 x0)) >>> (((nI 3)) &&& 31)) → cA S x0 5 ∧ ((∃ b2 : Nat, cr S 161 x0 = some b2 ∧ (cA S b2 13 ∧ (((((nI (cn S b2))) ≤ x4_1 →
    k_X5_nextBits_51 Q dp R4 x0 x1 x2 x3 ((nI 0)) S) ∧
   (¬ ((nI (cn S b2))) ≤ x4_1 →
    cA S x0 5 ∧ ((∃ b6 : Nat, cr S 161 x0 = some b6 ∧ (cX S b6 13 x4_1 ∧ (cA S x0 5 ∧ (k_X5_nextBits_51 Q dp R4 x0 x1 x2 x3 ((((((cI S b6 (x4_1).toNatClampNeg)) >>> (((((nI 7)) - ((((ci S 167 x0)) &&& ((nI 7)))))) &&& 31))) &&& ((nI 1)))) S))))))))))))))
def k_X5_nextBits_4L (Q : Int32 → cS → Prop) (dp : Nat)  (x0 : Nat) (x1 : Int32) (x2 : Int32) (x3 : Int32) (S : cS) : Prop :=
  lfp (X := Nat × Int32 × Int32 × Int32 × cS) (fun P y => k_X5_nextBits_4 Q dp  (fun b0 b1 b2 b3 S => P (b0, b1, b2, b3, S)) y.1 y.2.1 y.2.2.1 y.2.2.2.1 y.2.2.2.2) (x0, x1, x2, x3, S)
def k_X5_nextBits (Q : Int32 → cS → Prop) (dp : Nat) (x0 : Nat) (x1 : Int32) (S : cS) : Prop :=
k_X5_nextBits_4L Q dp  x0 x1 (((nI 0))) (((nI 0))) S
section S_X5_nextBits
variable {p : Program} {l : Launch} {e : Env} {s : State} {m : MethodId} {args : Array Value} {below : List Frame} {meth : Method} {c : Code} {A : Nat → Prop} {D : va_G} {Y : cY} {tp dp : Nat}
set_option maxRecDepth 20000 in
theorem tb_X5_nextBits_51 (C : cC p s m args meth c cX5_nextBits 6 (some .int) A D Y tp dp RX5) {post : Int32 → cS → Prop} {R4 : Nat → Int32 → Int32 → Int32 → cS → Prop} (hR4 : ∀ (x0 : Nat) (x1 : Int32) (x2 : Int32) (x3 : Int32) (S : cS), R4 x0 x1 x2 x3 S → cG p l e (cRm 0 0 0 0) s m args below meth c A D Y 6 (MQ below (cQi post D Y A) args s 0 0 A) 0 0 4 [(0, .ref x0), (1, .int x1), (2, .int x2), (3, .int x3)] [] S) (x0 : Nat) (x1 : Int32) (x2 : Int32) (x3 : Int32) (t0 : Int32) (S : cS) (h : k_X5_nextBits_51 post dp R4 x0 x1 x2 x3 t0 S) : cG p l e (cRm 0 0 0 0) s m args below meth c A D Y 6 (MQ below (cQi post D Y A) args s 0 0 A) 0 0 51 [(0, .ref x0), (1, .int x1), (2, .int x2), (3, .int x3)] [.int t0] S := by
  unfold k_X5_nextBits_51 at h
  refine cg_istore C (lv' := [(5, .int t0), (0, .ref x0), (1, .int x1), (2, .int x2), (3, .int x3)]) (Nat.le_of_ble_eq_true rfl) rfl dX5_nextBits_51 ?_
  refine cg_iload_n C (i := 2) rfl 3 rfl dX5_nextBits_53 ?_
  refine cg_iconst C (x := nI 1) rfl dX5_nextBits_54 ?_
  refine cg_ishl C dX5_nextBits_55 ?_
  refine cg_iload C 0 rfl dX5_nextBits_56 ?_
  refine cg_ior C dX5_nextBits_58 ?_
  refine cg_nmI (fun x2_3 e_x2_3 => ?_)
  have h := h x2_3 e_x2_3
  refine cg_istore_n C (i := 2) (lv' := [(2, .int x2_3), (5, .int t0), (0, .ref x0), (1, .int x1), (3, .int x3)]) rfl (Nat.le_of_ble_eq_true rfl) rfl dX5_nextBits_59 ?_
  refine cg_aload_n C (i := 0) rfl 2 rfl dX5_nextBits_60 ?_
  refine cg_dup C rfl dX5_nextBits_61 ?_
  obtain ⟨hc_62, h⟩ := h
  refine cg_get C (k := 5) (j := 7) (.int (ci S 167 x0)) hc_62.1 hc_62.2 (by decide) rfl (by decide) rfl rfl cWs_wsX50 cl_X5_32 rfl dX5_nextBits_62 ?_
  refine cg_iconst C (x := nI 1) rfl dX5_nextBits_65 ?_
  refine cg_iadd C dX5_nextBits_66 ?_
  obtain ⟨hc_67, h⟩ := h
  refine cg_puti C (k := 5) (j := 7) (ty := tyX5) (fty := .int) hc_67.1 hc_67.2 (by decide) rfl (by decide) rfl (by decide) rfl cWs_wsX50 tyX5_ok nmX5 cl_X5_32 rfl rfl rfl rfl rfl dX5_nextBits_67 ?_
  refine cg_nm (fun S4 e_S4 => ?_)
  have h := h S4 e_S4
  obtain ⟨x3_5, e_x3_5⟩ : ∃ z : Int32, z = x3 + nI 1 := ⟨_, rfl⟩
  have h := h x3_5 e_x3_5
  refine cg_iinc C (lv' := [(3, .int x3_5), (2, .int x2_3), (5, .int t0), (0, .ref x0), (1, .int x1)]) 4 rfl (by rw [e_x3_5]; rfl) (Nat.le_of_ble_eq_true rfl) rfl dX5_nextBits_70 ?_
  refine cg_goto C 4 (by decide) dX5_nextBits_73 ?_
  exact cg_sub [3, 4, 1, 0] rfl (hR4 x0 x1 x2_3 x3_5 S4 h)
set_option maxRecDepth 20000 in
theorem tb_X5_nextBits_4 (C : cC p s m args meth c cX5_nextBits 6 (some .int) A D Y tp dp RX5) {post : Int32 → cS → Prop} {R4 : Nat → Int32 → Int32 → Int32 → cS → Prop} (hR4 : ∀ (x0 : Nat) (x1 : Int32) (x2 : Int32) (x3 : Int32) (S : cS), R4 x0 x1 x2 x3 S → cG p l e (cRm 0 0 0 0) s m args below meth c A D Y 6 (MQ below (cQi post D Y A) args s 0 0 A) 0 0 4 [(0, .ref x0), (1, .int x1), (2, .int x2), (3, .int x3)] [] S) (x0 : Nat) (x1 : Int32) (x2 : Int32) (x3 : Int32) (S : cS) (h : k_X5_nextBits_4 post dp R4 x0 x1 x2 x3 S) : cG p l e (cRm 0 0 0 0) s m args below meth c A D Y 6 (MQ below (cQi post D Y A) args s 0 0 A) 0 0 4 [(0, .ref x0), (1, .int x1), (2, .int x2), (3, .int x3)] [] S := by
  unfold k_X5_nextBits_4 at h
  refine cg_iload_n C (i := 3) rfl 3 rfl dX5_nextBits_4 ?_
  refine cg_iload_n C (i := 1) rfl 1 rfl dX5_nextBits_5 ?_
  refine cg_icmp_ge C 76 (by decide) dX5_nextBits_6 (fun c_ => ?_) (fun c_ => ?_)
  · have h := h.1 c_
    refine cg_iload_n C (i := 2) rfl 2 rfl dX5_nextBits_76 ?_
    exact cg_iret C h dX5_nextBits_77 (by decide) (by decide)
  · have h := h.2 c_
    refine cg_aload_n C (i := 0) rfl 0 rfl dX5_nextBits_9 ?_
    obtain ⟨hc_10, h⟩ := h
    refine cg_get C (k := 5) (j := 7) (.int (ci S 167 x0)) hc_10.1 hc_10.2 (by decide) rfl (by decide) rfl rfl cWs_wsX50 cl_X5_32 rfl dX5_nextBits_10 ?_
    refine cg_iconst C (x := nI 3) rfl dX5_nextBits_13 ?_
    refine cg_ishr C dX5_nextBits_14 ?_
    refine cg_nmI (fun x4_1 e_x4_1 => ?_)
    have h := h x4_1 e_x4_1
    refine cg_istore C (lv' := [(4, .int x4_1), (0, .ref x0), (1, .int x1), (2, .int x2), (3, .int x3)]) (Nat.le_of_ble_eq_true rfl) rfl dX5_nextBits_15 ?_
    refine cg_iload C 0 rfl dX5_nextBits_17 ?_
    refine cg_aload_n C (i := 0) rfl 1 rfl dX5_nextBits_19 ?_
    obtain ⟨hc_20, h⟩ := h
    obtain ⟨b2, hb_b2, h⟩ := h
    refine cg_get C (k := 5) (j := 1) (.ref b2) hc_20.1 hc_20.2 (by decide) rfl (by decide) rfl (show cV _ 5 1 x0 = _ from congrArg va_rf hb_b2) cWs_wsX50 cl_X5_9 rfl dX5_nextBits_20 ?_
    obtain ⟨hc_23, h⟩ := h
    refine cg_alen C hc_23.1 hc_23.2 (by decide) (by decide) dX5_nextBits_23 ?_
    refine cg_icmp_ge C 50 (by decide) dX5_nextBits_24 (fun c_ => ?_) (fun c_ => ?_)
    · have h := h.1 c_
      refine cg_iconst C (x := nI 0) rfl dX5_nextBits_50 ?_
      exact cg_sub [1, 2, 3, 4] rfl (tb_X5_nextBits_51 C  hR4 x0 x1 x2 x3 ((nI 0)) S h)
    · have h := h.2 c_
      refine cg_aload_n C (i := 0) rfl 1 rfl dX5_nextBits_27 ?_
      obtain ⟨hc_28, h⟩ := h
      obtain ⟨b6, hb_b6, h⟩ := h
      refine cg_get C (k := 5) (j := 1) (.ref b6) hc_28.1 hc_28.2 (by decide) rfl (by decide) rfl (show cV _ 5 1 x0 = _ from congrArg va_rf hb_b6) cWs_wsX50 cl_X5_9 rfl dX5_nextBits_28 ?_
      refine cg_iload C 0 rfl dX5_nextBits_31 ?_
      obtain ⟨hc_33, h⟩ := h
      refine cg_baloadR C hc_33 dX5_nextBits_33 ?_
      refine cg_bipush C (x := nI 7) rfl dX5_nextBits_34 ?_
      refine cg_aload_n C (i := 0) rfl 1 rfl dX5_nextBits_36 ?_
      obtain ⟨hc_37, h⟩ := h
      refine cg_get C (k := 5) (j := 7) (.int (ci S 167 x0)) hc_37.1 hc_37.2 (by decide) rfl (by decide) rfl rfl cWs_wsX50 cl_X5_32 rfl dX5_nextBits_37 ?_
      refine cg_bipush C (x := nI 7) rfl dX5_nextBits_40 ?_
      refine cg_iand C dX5_nextBits_42 ?_
      refine cg_isub C dX5_nextBits_43 ?_
      refine cg_ishr C dX5_nextBits_44 ?_
      refine cg_iconst C (x := nI 1) rfl dX5_nextBits_45 ?_
      refine cg_iand C dX5_nextBits_46 ?_
      refine cg_goto C 51 (by decide) dX5_nextBits_47 ?_
      exact cg_sub [1, 2, 3, 4] rfl (tb_X5_nextBits_51 C  hR4 x0 x1 x2 x3 ((((((cI S b6 (x4_1).toNatClampNeg)) >>> (((((nI 7)) - ((((ci S 167 x0)) &&& ((nI 7)))))) &&& 31))) &&& ((nI 1)))) S h)
set_option maxRecDepth 20000 in
theorem tl_X5_nextBits_4 (C : cC p s m args meth c cX5_nextBits 6 (some .int) A D Y tp dp RX5) {post : Int32 → cS → Prop}   (x0 : Nat) (x1 : Int32) (x2 : Int32) (x3 : Int32) (S : cS) (h : k_X5_nextBits_4L post dp  x0 x1 x2 x3 S) : cG p l e (cRm 0 0 0 0) s m args below meth c A D Y 6 (MQ below (cQi post D Y A) args s 0 0 A) 0 0 4 [(0, .ref x0), (1, .int x1), (2, .int x2), (3, .int x3)] [] S :=
  h (fun y => cG p l e (cRm 0 0 0 0) s m args below meth c A D Y 6 (MQ below (cQi post D Y A) args s 0 0 A) 0 0 4 [(0, .ref (y.1)), (1, .int (y.2.1)), (2, .int (y.2.2.1)), (3, .int (y.2.2.2.1))] [] (y.2.2.2.2)) (fun y hy => tb_X5_nextBits_4 C   (fun b0 b1 b2 b3 S z => z) (y.1) (y.2.1) (y.2.2.1) (y.2.2.2.1) (y.2.2.2.2) hy)
end S_X5_nextBits
set_option maxHeartbeats 1000000 in
set_option maxRecDepth 20000 in
theorem t_X5_nextBits (l : Launch) (x0 : Nat) (x1 : Int32) (S : cS) (dp : Nat) {P : Int32 → cS → Prop} (h : k_X5_nextBits P dp x0 x1 S) : cMet (cQi P) l yX5_nextBits cX5_nextBits 6 (some .int) 0 0 0 0 [.ref x0, .int x1] S dp := by
  intro D Y tp sz
  refine cg_body (by decide +kernel) (Nat.le_of_ble_eq_true rfl) ?_
  intro p e s m args below meth c C
  generalize va_A (cWd Y S) sz = A at C ⊢
  have C : cC p s m args meth c cX5_nextBits 6 (some .int) A D Y tp dp RX5 := C
  refine cg_lv (lv' := [(0, .ref x0), (1, .int x1)]) rfl ?_
  unfold k_X5_nextBits at h
  refine cg_iconst C (x := nI 0) rfl dX5_nextBits_0 ?_
  refine cg_istore_n C (i := 2) (lv' := [(2, .int ((nI 0))), (0, .ref x0), (1, .int x1)]) rfl (Nat.le_of_ble_eq_true rfl) rfl dX5_nextBits_1 ?_
  refine cg_iconst C (x := nI 0) rfl dX5_nextBits_2 ?_
  refine cg_istore_n C (i := 3) (lv' := [(3, .int ((nI 0))), (2, .int ((nI 0))), (0, .ref x0), (1, .int x1)]) rfl (Nat.le_of_ble_eq_true rfl) rfl dX5_nextBits_3 ?_
  exact cg_sub [2, 3, 1, 0] rfl (tl_X5_nextBits_4 C   x0 x1 (((nI 0))) (((nI 0))) S h)
def k_X5_nextNumber_18 (Q : Int32 → cS → Prop) (dp : Nat)  (x0 : Nat) (S : cS) : Prop :=
cA S x0 5 ∧ (cA S x0 5 ∧ (∀ S1 : cS, S1 = cSi S 168 x0 ((((ci S 168 x0)) + ((nI 1)))) → cA S1 x0 5 ∧ (cA S1 x0 5 ∧ (k_X5_nextBits (fun r_2 S_2 => 
Q r_2 S_2) dp x0 ((ci S1 169 x0)) S1))))
def k_X5_nextNumber (Q : Int32 → cS → Prop) (dp : Nat) (x0 : Nat) (S : cS) : Prop :=
cA S x0 5 ∧ (((¬ ((((ci S 168 x0)) - ((ci S 168 x0)) / ((nI 4)) * ((nI 4)))) = 0 →
  k_X5_nextNumber_18 Q dp  x0 S) ∧
 (((((ci S 168 x0)) - ((ci S 168 x0)) / ((nI 4)) * ((nI 4)))) = 0 →
  cA S x0 5 ∧ (k_X5_nextBits (fun r_3 S_3 => 
  cA S_3 x0 5 ∧ (∀ S4 : cS, S4 = cSi S_3 169 x0 r_3 → k_X5_nextNumber_18 Q dp  x0 S4)) dp x0 ((nI 4)) S))))
section S_X5_nextNumber
variable {p : Program} {l : Launch} {e : Env} {s : State} {m : MethodId} {args : Array Value} {below : List Frame} {meth : Method} {c : Code} {A : Nat → Prop} {D : va_G} {Y : cY} {tp dp : Nat}
set_option maxRecDepth 20000 in
theorem tb_X5_nextNumber_18 (C : cC p s m args meth c cX5_nextNumber 1 (some .int) A D Y tp dp RX5) {post : Int32 → cS → Prop}   (x0 : Nat) (S : cS) (h : k_X5_nextNumber_18 post dp  x0 S) : cG p l e (cRm 1 0 0 25) s m args below meth c A D Y 1 (MQ below (cQi post D Y A) args s 0 0 A) 0 0 18 [(0, .ref x0)] [] S := by
  unfold k_X5_nextNumber_18 at h
  refine cg_aload_n C (i := 0) rfl 0 rfl dX5_nextNumber_18 ?_
  refine cg_dup C rfl dX5_nextNumber_19 ?_
  obtain ⟨hc_20, h⟩ := h
  refine cg_get C (k := 5) (j := 8) (.int (ci S 168 x0)) hc_20.1 hc_20.2 (by decide) rfl (by decide) rfl rfl cWs_wsX50 cl_X5_35 rfl dX5_nextNumber_20 ?_
  refine cg_iconst C (x := nI 1) rfl dX5_nextNumber_23 ?_
  refine cg_iadd C dX5_nextNumber_24 ?_
  obtain ⟨hc_25, h⟩ := h
  refine cg_puti C (k := 5) (j := 8) (ty := tyX5) (fty := .int) hc_25.1 hc_25.2 (by decide) rfl (by decide) rfl (by decide) rfl cWs_wsX50 tyX5_ok nmX5 cl_X5_35 rfl rfl rfl rfl rfl dX5_nextNumber_25 ?_
  refine cg_nm (fun S1 e_S1 => ?_)
  have h := h S1 e_S1
  refine cg_aload_n C (i := 0) rfl 0 rfl dX5_nextNumber_28 ?_
  refine cg_aload_n C (i := 0) rfl 0 rfl dX5_nextNumber_29 ?_
  obtain ⟨hc_30, h⟩ := h
  refine cg_get C (k := 5) (j := 9) (.int (ci S1 169 x0)) hc_30.1 hc_30.2 (by decide) rfl (by decide) rfl rfl cWs_wsX50 cl_X5_38 rfl dX5_nextNumber_30 ?_
  obtain ⟨hc_33, h⟩ := h
  refine cg_calli C (t_X5_nextBits l x0 ((ci S1 169 x0)) S1 dp h) cc_X5_77 hc_33.1 hc_33.2 (by decide) rfl rfl ⟨by decide, by decide⟩ ⟨by decide, by decide⟩ rfl (Nat.le_of_ble_eq_true rfl) dX5_nextNumber_33 (fun r_2 S_2 h => ?_)
  exact cg_iret C h dX5_nextNumber_36 (by decide) (by decide)
end S_X5_nextNumber
set_option maxHeartbeats 1000000 in
set_option maxRecDepth 20000 in
theorem t_X5_nextNumber (l : Launch) (x0 : Nat) (S : cS) (dp : Nat) {P : Int32 → cS → Prop} (h : k_X5_nextNumber P dp x0 S) : cMet (cQi P) l yX5_nextNumber cX5_nextNumber 1 (some .int) 1 0 0 25 [.ref x0] S dp := by
  intro D Y tp sz
  refine cg_body (by decide +kernel) (Nat.le_of_ble_eq_true rfl) ?_
  intro p e s m args below meth c C
  generalize va_A (cWd Y S) sz = A at C ⊢
  have C : cC p s m args meth c cX5_nextNumber 1 (some .int) A D Y tp dp RX5 := C
  refine cg_lv (lv' := [(0, .ref x0)]) rfl ?_
  unfold k_X5_nextNumber at h
  refine cg_aload_n C (i := 0) rfl 0 rfl dX5_nextNumber_0 ?_
  obtain ⟨hc_1, h⟩ := h
  refine cg_get C (k := 5) (j := 8) (.int (ci S 168 x0)) hc_1.1 hc_1.2 (by decide) rfl (by decide) rfl rfl cWs_wsX50 cl_X5_35 rfl dX5_nextNumber_1 ?_
  refine cg_iconst C (x := nI 4) rfl dX5_nextNumber_4 ?_
  refine cg_irem C (by decide) dX5_nextNumber_5 ?_
  refine cg_if_ne C 18 (by decide) dX5_nextNumber_6 (fun c_ => ?_) (fun c_ => ?_)
  · have h := h.1 c_
    exact cg_sub [0] rfl (tb_X5_nextNumber_18 C   x0 S h)
  · have h := h.2 c_
    refine cg_aload_n C (i := 0) rfl 0 rfl dX5_nextNumber_9 ?_
    refine cg_aload_n C (i := 0) rfl 0 rfl dX5_nextNumber_10 ?_
    refine cg_iconst C (x := nI 4) rfl dX5_nextNumber_11 ?_
    obtain ⟨hc_12, h⟩ := h
    refine cg_calli C (t_X5_nextBits l x0 ((nI 4)) S dp h) cc_X5_77 hc_12.1 hc_12.2 (by decide) rfl rfl ⟨by decide, by decide⟩ ⟨by decide, by decide⟩ rfl (Nat.le_of_ble_eq_true rfl) dX5_nextNumber_12 (fun r_3 S_3 h => ?_)
    obtain ⟨hc_15, h⟩ := h
    refine cg_puti C (k := 5) (j := 9) (ty := tyX5) (fty := .int) hc_15.1 hc_15.2 (by decide) rfl (by decide) rfl (by decide) rfl cWs_wsX50 tyX5_ok nmX5 cl_X5_38 rfl rfl rfl rfl rfl dX5_nextNumber_15 ?_
    refine cg_nm (fun S4 e_S4 => ?_)
    have h := h S4 e_S4
    exact cg_sub [0] rfl (tb_X5_nextNumber_18 C   x0 S4 h)
def k_X5_spread_99 (Q : cS → Prop) (dp : Nat) (R14 : Nat → Nat → Int32 → Int32 → cS → Prop) (x0 : Nat) (x1 : Nat) (x2 : Int32) (x3 : Int32) (S : cS) : Prop :=
∀ x3_9 : Int32, x3_9 = x3 + nI 1 → R14 x0 x1 x2 x3_9 S
def k_X5_spread_48 (Q : cS → Prop) (dp : Nat) (R14 : Nat → Nat → Int32 → Int32 → cS → Prop) (R48 : Nat → Nat → Int32 → Int32 → Int32 → Int32 → Int32 → Int32 → cS → Prop) (x0 : Nat) (x1 : Nat) (x2 : Int32) (x3 : Int32) (x4 : Int32) (x5 : Int32) (x6 : Int32) (x7 : Int32) (S : cS) : Prop :=
((x4 ≤ x7 →
  ((x2 < 0 →
    k_X5_spread_99 Q dp R14 x0 x1 x2 x3 S) ∧
   (¬ x2 < 0 →
    cA S x1 14 ∧ (((((nI (cn S x1))) ≤ x2 →
      k_X5_spread_99 Q dp R14 x0 x1 x2 x3 S) ∧
     (¬ ((nI (cn S x1))) ≤ x2 →
      cX S x1 14 x2 ∧ (cX S x1 14 x2 ∧ (∀ S10 : cS, S10 = cSI S x1 (x2).toNatClampNeg ((((cI S x1 (x2).toNatClampNeg)) ||| x6)) → k_X5_spread_99 Q dp R14 x0 x1 x2 x3 S10)))))))) ∧
 (¬ x4 ≤ x7 →
  cA S x0 5 ∧ (k_X5_nextNumber (fun r_11 S_11 => 
  ∀ x5_12 : Int32, x5_12 = (x5 + ((r_11 + ((nI 1))))) → ∀ x6_13 : Int32, x6_13 = (x6 ||| ((((nI 1)) <<< (x5_12 &&& 31)))) → ∀ x7_14 : Int32, x7_14 = x7 + nI 1 → R48 x0 x1 x2 x3 x4 x5_12 x6_13 x7_14 S_11) dp x0 S)))
def k_X5_spread_48L (Q : cS → Prop) (dp : Nat) (R14 : Nat → Nat → Int32 → Int32 → cS → Prop) (x0 : Nat) (x1 : Nat) (x2 : Int32) (x3 : Int32) (x4 : Int32) (x5 : Int32) (x6 : Int32) (x7 : Int32) (S : cS) : Prop :=
  lfp (X := Nat × Nat × Int32 × Int32 × Int32 × Int32 × Int32 × Int32 × cS) (fun P y => k_X5_spread_48 Q dp R14 (fun b0 b1 b2 b3 b4 b5 b6 b7 S => P (b0, b1, b2, b3, b4, b5, b6, b7, S)) y.1 y.2.1 y.2.2.1 y.2.2.2.1 y.2.2.2.2.1 y.2.2.2.2.2.1 y.2.2.2.2.2.2.1 y.2.2.2.2.2.2.2.1 y.2.2.2.2.2.2.2.2) (x0, x1, x2, x3, x4, x5, x6, x7, S)
def k_X5_spread_14 (Q : cS → Prop) (dp : Nat) (R14 : Nat → Nat → Int32 → Int32 → cS → Prop) (x0 : Nat) (x1 : Nat) (x2 : Int32) (x3 : Int32) (S : cS) : Prop :=
cA S x0 5 ∧ (((((ci S 163 x0)) ≤ x3 →
  Q S) ∧
 (¬ ((ci S 163 x0)) ≤ x3 →
  cA S x0 5 ∧ (k_X5_nextNumber (fun r_4 S_4 => 
  ∀ x2_5 : Int32, x2_5 = (x2 + ((r_4 + ((nI 1))))) → cA S_4 x0 5 ∧ (k_X5_nextNumber (fun r_6 S_6 => 
  ∀ x4_7 : Int32, x4_7 = (r_6 + ((nI 1))) → ∀ x5_8 : Int32, x5_8 = ((-1)) → k_X5_spread_48L Q dp R14 x0 x1 x2_5 x3 x4_7 x5_8 (((nI 0))) (((nI 0))) S_6) dp x0 S_4)) dp x0 S))))
def k_X5_spread_14L (Q : cS → Prop) (dp : Nat)  (x0 : Nat) (x1 : Nat) (x2 : Int32) (x3 : Int32) (S : cS) : Prop :=
  lfp (X := Nat × Nat × Int32 × Int32 × cS) (fun P y => k_X5_spread_14 Q dp  (fun b0 b1 b2 b3 S => P (b0, b1, b2, b3, S)) y.1 y.2.1 y.2.2.1 y.2.2.2.1 y.2.2.2.2) (x0, x1, x2, x3, S)
def k_X5_spread (Q : cS → Prop) (dp : Nat) (x0 : Nat) (x1 : Nat) (S : cS) : Prop :=
cA S x0 5 ∧ (∀ S1 : cS, S1 = cSi S 167 x0 ((nI 0)) → cA S1 x0 5 ∧ (∀ S2 : cS, S2 = cSi S1 168 x0 ((nI 0)) → ∀ x2_3 : Int32, x2_3 = ((-1)) → k_X5_spread_14L Q dp  x0 x1 x2_3 (((nI 0))) S2))
section S_X5_spread
variable {p : Program} {l : Launch} {e : Env} {s : State} {m : MethodId} {args : Array Value} {below : List Frame} {meth : Method} {c : Code} {A : Nat → Prop} {D : va_G} {Y : cY} {tp dp : Nat}
set_option maxRecDepth 20000 in
theorem tb_X5_spread_99 (C : cC p s m args meth c cX5_spread 8 none A D Y tp dp RX5) {post : cS → Prop} {R14 : Nat → Nat → Int32 → Int32 → cS → Prop} (hR14 : ∀ (x0 : Nat) (x1 : Nat) (x2 : Int32) (x3 : Int32) (S : cS), R14 x0 x1 x2 x3 S → cG p l e (cRm 2 0 0 45) s m args below meth c A D Y 8 (MQ below (cQv post D Y A) args s 0 0 A) 0 0 14 [(0, .ref x0), (1, .ref x1), (2, .int x2), (3, .int x3)] [] S) (x0 : Nat) (x1 : Nat) (x2 : Int32) (x3 : Int32) (S : cS) (h : k_X5_spread_99 post dp R14 x0 x1 x2 x3 S) : cG p l e (cRm 2 0 0 45) s m args below meth c A D Y 8 (MQ below (cQv post D Y A) args s 0 0 A) 0 0 99 [(0, .ref x0), (1, .ref x1), (2, .int x2), (3, .int x3)] [] S := by
  unfold k_X5_spread_99 at h
  obtain ⟨x3_9, e_x3_9⟩ : ∃ z : Int32, z = x3 + nI 1 := ⟨_, rfl⟩
  have h := h x3_9 e_x3_9
  refine cg_iinc C (lv' := [(3, .int x3_9), (0, .ref x0), (1, .ref x1), (2, .int x2)]) 3 rfl (by rw [e_x3_9]; rfl) (Nat.le_of_ble_eq_true rfl) rfl dX5_spread_99 ?_
  refine cg_goto C 14 (by decide) dX5_spread_102 ?_
  exact cg_sub [1, 2, 3, 0] rfl (hR14 x0 x1 x2 x3_9 S h)
set_option maxRecDepth 20000 in
theorem tb_X5_spread_48 (C : cC p s m args meth c cX5_spread 8 none A D Y tp dp RX5) {post : cS → Prop} {R14 : Nat → Nat → Int32 → Int32 → cS → Prop} {R48 : Nat → Nat → Int32 → Int32 → Int32 → Int32 → Int32 → Int32 → cS → Prop} (hR14 : ∀ (x0 : Nat) (x1 : Nat) (x2 : Int32) (x3 : Int32) (S : cS), R14 x0 x1 x2 x3 S → cG p l e (cRm 2 0 0 45) s m args below meth c A D Y 8 (MQ below (cQv post D Y A) args s 0 0 A) 0 0 14 [(0, .ref x0), (1, .ref x1), (2, .int x2), (3, .int x3)] [] S) (hR48 : ∀ (x0 : Nat) (x1 : Nat) (x2 : Int32) (x3 : Int32) (x4 : Int32) (x5 : Int32) (x6 : Int32) (x7 : Int32) (S : cS), R48 x0 x1 x2 x3 x4 x5 x6 x7 S → cG p l e (cRm 2 0 0 45) s m args below meth c A D Y 8 (MQ below (cQv post D Y A) args s 0 0 A) 0 0 48 [(0, .ref x0), (1, .ref x1), (2, .int x2), (3, .int x3), (4, .int x4), (5, .int x5), (6, .int x6), (7, .int x7)] [] S) (x0 : Nat) (x1 : Nat) (x2 : Int32) (x3 : Int32) (x4 : Int32) (x5 : Int32) (x6 : Int32) (x7 : Int32) (S : cS) (h : k_X5_spread_48 post dp R14 R48 x0 x1 x2 x3 x4 x5 x6 x7 S) : cG p l e (cRm 2 0 0 45) s m args below meth c A D Y 8 (MQ below (cQv post D Y A) args s 0 0 A) 0 0 48 [(0, .ref x0), (1, .ref x1), (2, .int x2), (3, .int x3), (4, .int x4), (5, .int x5), (6, .int x6), (7, .int x7)] [] S := by
  unfold k_X5_spread_48 at h
  refine cg_iload C 7 rfl dX5_spread_48 ?_
  refine cg_iload C 4 rfl dX5_spread_50 ?_
  refine cg_icmp_ge C 81 (by decide) dX5_spread_52 (fun c_ => ?_) (fun c_ => ?_)
  · have h := h.1 c_
    refine cg_iload_n C (i := 2) rfl 2 rfl dX5_spread_81 ?_
    refine cg_if_lt C 99 (by decide) dX5_spread_82 (fun c_ => ?_) (fun c_ => ?_)
    · have h := h.1 c_
      exact cg_sub [0, 1, 2, 3] rfl (tb_X5_spread_99 C  hR14 x0 x1 x2 x3 S h)
    · have h := h.2 c_
      refine cg_iload_n C (i := 2) rfl 2 rfl dX5_spread_85 ?_
      refine cg_aload_n C (i := 1) rfl 1 rfl dX5_spread_86 ?_
      obtain ⟨hc_87, h⟩ := h
      refine cg_alen C hc_87.1 hc_87.2 (by decide) (by decide) dX5_spread_87 ?_
      refine cg_icmp_ge C 99 (by decide) dX5_spread_88 (fun c_ => ?_) (fun c_ => ?_)
      · have h := h.1 c_
        exact cg_sub [0, 1, 2, 3] rfl (tb_X5_spread_99 C  hR14 x0 x1 x2 x3 S h)
      · have h := h.2 c_
        refine cg_aload_n C (i := 1) rfl 1 rfl dX5_spread_91 ?_
        refine cg_iload_n C (i := 2) rfl 2 rfl dX5_spread_92 ?_
        refine cg_dup2 C rfl rfl dX5_spread_93 ?_
        obtain ⟨hc_94, h⟩ := h
        refine cg_ialoadR C hc_94 dX5_spread_94 ?_
        refine cg_iload C 6 rfl dX5_spread_95 ?_
        refine cg_ior C dX5_spread_97 ?_
        obtain ⟨hc_98, h⟩ := h
        refine cg_iastoreR C hc_98 dX5_spread_98 ?_
        refine cg_nm (fun S10 e_S10 => ?_)
        have h := h S10 e_S10
        exact cg_sub [0, 1, 2, 3] rfl (tb_X5_spread_99 C  hR14 x0 x1 x2 x3 S10 h)
  · have h := h.2 c_
    refine cg_iload C 5 rfl dX5_spread_55 ?_
    refine cg_aload_n C (i := 0) rfl 0 rfl dX5_spread_57 ?_
    obtain ⟨hc_58, h⟩ := h
    refine cg_calli C (t_X5_nextNumber l x0 S dp h) cc_X5_73 hc_58.1 hc_58.2 (by decide) rfl rfl ⟨by decide, by decide⟩ ⟨by decide, by decide⟩ rfl (Nat.le_of_ble_eq_true rfl) dX5_spread_58 (fun r_11 S_11 h => ?_)
    refine cg_iconst C (x := nI 1) rfl dX5_spread_61 ?_
    refine cg_iadd C dX5_spread_62 ?_
    refine cg_iadd C dX5_spread_63 ?_
    refine cg_nmI (fun x5_12 e_x5_12 => ?_)
    have h := h x5_12 e_x5_12
    refine cg_istore C (lv' := [(5, .int x5_12), (0, .ref x0), (1, .ref x1), (2, .int x2), (3, .int x3), (4, .int x4), (6, .int x6), (7, .int x7)]) (Nat.le_of_ble_eq_true rfl) rfl dX5_spread_64 ?_
    refine cg_iload C 6 rfl dX5_spread_66 ?_
    refine cg_iconst C (x := nI 1) rfl dX5_spread_68 ?_
    refine cg_iload C 0 rfl dX5_spread_69 ?_
    refine cg_ishl C dX5_spread_71 ?_
    refine cg_ior C dX5_spread_72 ?_
    refine cg_nmI (fun x6_13 e_x6_13 => ?_)
    have h := h x6_13 e_x6_13
    refine cg_istore C (lv' := [(6, .int x6_13), (5, .int x5_12), (0, .ref x0), (1, .ref x1), (2, .int x2), (3, .int x3), (4, .int x4), (7, .int x7)]) (Nat.le_of_ble_eq_true rfl) rfl dX5_spread_73 ?_
    obtain ⟨x7_14, e_x7_14⟩ : ∃ z : Int32, z = x7 + nI 1 := ⟨_, rfl⟩
    have h := h x7_14 e_x7_14
    refine cg_iinc C (lv' := [(7, .int x7_14), (6, .int x6_13), (5, .int x5_12), (0, .ref x0), (1, .ref x1), (2, .int x2), (3, .int x3), (4, .int x4)]) 7 rfl (by rw [e_x7_14]; rfl) (Nat.le_of_ble_eq_true rfl) rfl dX5_spread_75 ?_
    refine cg_goto C 48 (by decide) dX5_spread_78 ?_
    exact cg_sub [3, 4, 5, 6, 7, 2, 1, 0] rfl (hR48 x0 x1 x2 x3 x4 x5_12 x6_13 x7_14 S_11 h)
set_option maxRecDepth 20000 in
theorem tl_X5_spread_48 (C : cC p s m args meth c cX5_spread 8 none A D Y tp dp RX5) {post : cS → Prop} {R14 : Nat → Nat → Int32 → Int32 → cS → Prop} (hR14 : ∀ (x0 : Nat) (x1 : Nat) (x2 : Int32) (x3 : Int32) (S : cS), R14 x0 x1 x2 x3 S → cG p l e (cRm 2 0 0 45) s m args below meth c A D Y 8 (MQ below (cQv post D Y A) args s 0 0 A) 0 0 14 [(0, .ref x0), (1, .ref x1), (2, .int x2), (3, .int x3)] [] S) (x0 : Nat) (x1 : Nat) (x2 : Int32) (x3 : Int32) (x4 : Int32) (x5 : Int32) (x6 : Int32) (x7 : Int32) (S : cS) (h : k_X5_spread_48L post dp R14 x0 x1 x2 x3 x4 x5 x6 x7 S) : cG p l e (cRm 2 0 0 45) s m args below meth c A D Y 8 (MQ below (cQv post D Y A) args s 0 0 A) 0 0 48 [(0, .ref x0), (1, .ref x1), (2, .int x2), (3, .int x3), (4, .int x4), (5, .int x5), (6, .int x6), (7, .int x7)] [] S :=
  h (fun y => cG p l e (cRm 2 0 0 45) s m args below meth c A D Y 8 (MQ below (cQv post D Y A) args s 0 0 A) 0 0 48 [(0, .ref (y.1)), (1, .ref (y.2.1)), (2, .int (y.2.2.1)), (3, .int (y.2.2.2.1)), (4, .int (y.2.2.2.2.1)), (5, .int (y.2.2.2.2.2.1)), (6, .int (y.2.2.2.2.2.2.1)), (7, .int (y.2.2.2.2.2.2.2.1))] [] (y.2.2.2.2.2.2.2.2)) (fun y hy => tb_X5_spread_48 C  hR14 (fun b0 b1 b2 b3 b4 b5 b6 b7 S z => z) (y.1) (y.2.1) (y.2.2.1) (y.2.2.2.1) (y.2.2.2.2.1) (y.2.2.2.2.2.1) (y.2.2.2.2.2.2.1) (y.2.2.2.2.2.2.2.1) (y.2.2.2.2.2.2.2.2) hy)
set_option maxRecDepth 20000 in
theorem tb_X5_spread_14 (C : cC p s m args meth c cX5_spread 8 none A D Y tp dp RX5) {post : cS → Prop} {R14 : Nat → Nat → Int32 → Int32 → cS → Prop} (hR14 : ∀ (x0 : Nat) (x1 : Nat) (x2 : Int32) (x3 : Int32) (S : cS), R14 x0 x1 x2 x3 S → cG p l e (cRm 2 0 0 45) s m args below meth c A D Y 8 (MQ below (cQv post D Y A) args s 0 0 A) 0 0 14 [(0, .ref x0), (1, .ref x1), (2, .int x2), (3, .int x3)] [] S) (x0 : Nat) (x1 : Nat) (x2 : Int32) (x3 : Int32) (S : cS) (h : k_X5_spread_14 post dp R14 x0 x1 x2 x3 S) : cG p l e (cRm 2 0 0 45) s m args below meth c A D Y 8 (MQ below (cQv post D Y A) args s 0 0 A) 0 0 14 [(0, .ref x0), (1, .ref x1), (2, .int x2), (3, .int x3)] [] S := by
  unfold k_X5_spread_14 at h
  refine cg_iload_n C (i := 3) rfl 3 rfl dX5_spread_14 ?_
  refine cg_aload_n C (i := 0) rfl 0 rfl dX5_spread_15 ?_
  obtain ⟨hc_16, h⟩ := h
  refine cg_get C (k := 5) (j := 3) (.int (ci S 163 x0)) hc_16.1 hc_16.2 (by decide) rfl (by decide) rfl rfl cWs_wsX50 cl_X5_19 rfl dX5_spread_16 ?_
  refine cg_icmp_ge C 105 (by decide) dX5_spread_19 (fun c_ => ?_) (fun c_ => ?_)
  · have h := h.1 c_
    exact cg_vret C h dX5_spread_105 (by decide) (by decide)
  · have h := h.2 c_
    refine cg_iload_n C (i := 2) rfl 2 rfl dX5_spread_22 ?_
    refine cg_aload_n C (i := 0) rfl 0 rfl dX5_spread_23 ?_
    obtain ⟨hc_24, h⟩ := h
    refine cg_calli C (t_X5_nextNumber l x0 S dp h) cc_X5_73 hc_24.1 hc_24.2 (by decide) rfl rfl ⟨by decide, by decide⟩ ⟨by decide, by decide⟩ rfl (Nat.le_of_ble_eq_true rfl) dX5_spread_24 (fun r_4 S_4 h => ?_)
    refine cg_iconst C (x := nI 1) rfl dX5_spread_27 ?_
    refine cg_iadd C dX5_spread_28 ?_
    refine cg_iadd C dX5_spread_29 ?_
    refine cg_nmI (fun x2_5 e_x2_5 => ?_)
    have h := h x2_5 e_x2_5
    refine cg_istore_n C (i := 2) (lv' := [(2, .int x2_5), (0, .ref x0), (1, .ref x1), (3, .int x3)]) rfl (Nat.le_of_ble_eq_true rfl) rfl dX5_spread_30 ?_
    refine cg_aload_n C (i := 0) rfl 1 rfl dX5_spread_31 ?_
    obtain ⟨hc_32, h⟩ := h
    refine cg_calli C (t_X5_nextNumber l x0 S_4 dp h) cc_X5_73 hc_32.1 hc_32.2 (by decide) rfl rfl ⟨by decide, by decide⟩ ⟨by decide, by decide⟩ rfl (Nat.le_of_ble_eq_true rfl) dX5_spread_32 (fun r_6 S_6 h => ?_)
    refine cg_iconst C (x := nI 1) rfl dX5_spread_35 ?_
    refine cg_iadd C dX5_spread_36 ?_
    refine cg_nmI (fun x4_7 e_x4_7 => ?_)
    have h := h x4_7 e_x4_7
    refine cg_istore C (lv' := [(4, .int x4_7), (2, .int x2_5), (0, .ref x0), (1, .ref x1), (3, .int x3)]) (Nat.le_of_ble_eq_true rfl) rfl dX5_spread_37 ?_
    refine cg_iconst C (x := (-1)) rfl dX5_spread_39 ?_
    refine cg_nmI (fun x5_8 e_x5_8 => ?_)
    have h := h x5_8 e_x5_8
    refine cg_istore C (lv' := [(5, .int x5_8), (4, .int x4_7), (2, .int x2_5), (0, .ref x0), (1, .ref x1), (3, .int x3)]) (Nat.le_of_ble_eq_true rfl) rfl dX5_spread_40 ?_
    refine cg_iconst C (x := nI 0) rfl dX5_spread_42 ?_
    refine cg_istore C (lv' := [(6, .int ((nI 0))), (5, .int x5_8), (4, .int x4_7), (2, .int x2_5), (0, .ref x0), (1, .ref x1), (3, .int x3)]) (Nat.le_of_ble_eq_true rfl) rfl dX5_spread_43 ?_
    refine cg_iconst C (x := nI 0) rfl dX5_spread_45 ?_
    refine cg_istore C (lv' := [(7, .int ((nI 0))), (6, .int ((nI 0))), (5, .int x5_8), (4, .int x4_7), (2, .int x2_5), (0, .ref x0), (1, .ref x1), (3, .int x3)]) (Nat.le_of_ble_eq_true rfl) rfl dX5_spread_46 ?_
    exact cg_sub [5, 6, 4, 7, 3, 2, 1, 0] rfl (tl_X5_spread_48 C  hR14 x0 x1 x2_5 x3 x4_7 x5_8 (((nI 0))) (((nI 0))) S_6 h)
set_option maxRecDepth 20000 in
theorem tl_X5_spread_14 (C : cC p s m args meth c cX5_spread 8 none A D Y tp dp RX5) {post : cS → Prop}   (x0 : Nat) (x1 : Nat) (x2 : Int32) (x3 : Int32) (S : cS) (h : k_X5_spread_14L post dp  x0 x1 x2 x3 S) : cG p l e (cRm 2 0 0 45) s m args below meth c A D Y 8 (MQ below (cQv post D Y A) args s 0 0 A) 0 0 14 [(0, .ref x0), (1, .ref x1), (2, .int x2), (3, .int x3)] [] S :=
  h (fun y => cG p l e (cRm 2 0 0 45) s m args below meth c A D Y 8 (MQ below (cQv post D Y A) args s 0 0 A) 0 0 14 [(0, .ref (y.1)), (1, .ref (y.2.1)), (2, .int (y.2.2.1)), (3, .int (y.2.2.2.1))] [] (y.2.2.2.2)) (fun y hy => tb_X5_spread_14 C   (fun b0 b1 b2 b3 S z => z) (y.1) (y.2.1) (y.2.2.1) (y.2.2.2.1) (y.2.2.2.2) hy)
end S_X5_spread
set_option maxHeartbeats 1000000 in
set_option maxRecDepth 20000 in
theorem t_X5_spread (l : Launch) (x0 : Nat) (x1 : Nat) (S : cS) (dp : Nat) {P : cS → Prop} (h : k_X5_spread P dp x0 x1 S) : cMet (cQv P) l yX5_spread cX5_spread 8 none 2 0 0 45 [.ref x0, .ref x1] S dp := by
  intro D Y tp sz
  refine cg_body (by decide +kernel) (Nat.le_of_ble_eq_true rfl) ?_
  intro p e s m args below meth c C
  generalize va_A (cWd Y S) sz = A at C ⊢
  have C : cC p s m args meth c cX5_spread 8 none A D Y tp dp RX5 := C
  refine cg_lv (lv' := [(0, .ref x0), (1, .ref x1)]) rfl ?_
  unfold k_X5_spread at h
  refine cg_aload_n C (i := 0) rfl 0 rfl dX5_spread_0 ?_
  refine cg_iconst C (x := nI 0) rfl dX5_spread_1 ?_
  obtain ⟨hc_2, h⟩ := h
  refine cg_puti C (k := 5) (j := 7) (ty := tyX5) (fty := .int) hc_2.1 hc_2.2 (by decide) rfl (by decide) rfl (by decide) rfl cWs_wsX50 tyX5_ok nmX5 cl_X5_32 rfl rfl rfl rfl rfl dX5_spread_2 ?_
  refine cg_nm (fun S1 e_S1 => ?_)
  have h := h S1 e_S1
  refine cg_aload_n C (i := 0) rfl 0 rfl dX5_spread_5 ?_
  refine cg_iconst C (x := nI 0) rfl dX5_spread_6 ?_
  obtain ⟨hc_7, h⟩ := h
  refine cg_puti C (k := 5) (j := 8) (ty := tyX5) (fty := .int) hc_7.1 hc_7.2 (by decide) rfl (by decide) rfl (by decide) rfl cWs_wsX50 tyX5_ok nmX5 cl_X5_35 rfl rfl rfl rfl rfl dX5_spread_7 ?_
  refine cg_nm (fun S2 e_S2 => ?_)
  have h := h S2 e_S2
  refine cg_iconst C (x := (-1)) rfl dX5_spread_10 ?_
  refine cg_nmI (fun x2_3 e_x2_3 => ?_)
  have h := h x2_3 e_x2_3
  refine cg_istore_n C (i := 2) (lv' := [(2, .int x2_3), (0, .ref x0), (1, .ref x1)]) rfl (Nat.le_of_ble_eq_true rfl) rfl dX5_spread_11 ?_
  refine cg_iconst C (x := nI 0) rfl dX5_spread_12 ?_
  refine cg_istore_n C (i := 3) (lv' := [(3, .int ((nI 0))), (2, .int x2_3), (0, .ref x0), (1, .ref x1)]) rfl (Nat.le_of_ble_eq_true rfl) rfl dX5_spread_13 ?_
  exact cg_sub [2, 3, 1, 0] rfl (tl_X5_spread_14 C   x0 x1 x2_3 (((nI 0))) S2 h)
def k_X2_isLive (Q : Int32 → cS → Prop) (dp : Nat) (x0 : Nat) (x1 : Int32) (S : cS) : Prop :=
((x1 < 0 →
  Q ((bI false)) S) ∧
 (¬ x1 < 0 →
  cA S x0 2 ∧ ((∃ b1 : Nat, cr S 65 x0 = some b1 ∧ (cA S b1 16 ∧ (((((nI (cn S b1))) ≤ x1 →
    Q ((bI false)) S) ∧
   (¬ ((nI (cn S b1))) ≤ x1 →
    cA S x0 2 ∧ ((∃ b2 : Nat, cr S 65 x0 = some b2 ∧ (cX S b2 16 x1 ∧ (((¬ ((cI S b2 (x1).toNatClampNeg)) = 0 →
      Q ((bI false)) S) ∧
     (((cI S b2 (x1).toNatClampNeg)) = 0 →
      Q ((bI true)) S))))))))))))))
set_option maxHeartbeats 1000000 in
set_option maxRecDepth 20000 in
theorem t_X2_isLive (l : Launch) (x0 : Nat) (x1 : Int32) (S : cS) (dp : Nat) {P : Int32 → cS → Prop} (h : k_X2_isLive P dp x0 x1 S) : cMet (cQi P) l yX2_isLive cX2_isLive 2 (some .boolean) 0 0 0 0 [.ref x0, .int x1] S dp := by
  intro D Y tp sz
  refine cg_body (by decide +kernel) (Nat.le_of_ble_eq_true rfl) ?_
  intro p e s m args below meth c C
  generalize va_A (cWd Y S) sz = A at C ⊢
  have C : cC p s m args meth c cX2_isLive 2 (some .boolean) A D Y tp dp RX2 := C
  refine cg_lv (lv' := [(0, .ref x0), (1, .int x1)]) rfl ?_
  unfold k_X2_isLive at h
  refine cg_iload_n C (i := 1) rfl 1 rfl dX2_isLive_0 ?_
  refine cg_if_lt C 26 (by decide) dX2_isLive_1 (fun c_ => ?_) (fun c_ => ?_)
  · have h := h.1 c_
    refine cg_iconst C (x := nI 0) rfl dX2_isLive_26 ?_
    refine cg_cast (.int (bI false)) rfl ?_
    exact cg_zret C (bI_nar _) h dX2_isLive_27 (by decide) (by decide)
  · have h := h.2 c_
    refine cg_iload_n C (i := 1) rfl 1 rfl dX2_isLive_4 ?_
    refine cg_aload_n C (i := 0) rfl 0 rfl dX2_isLive_5 ?_
    obtain ⟨hc_6, h⟩ := h
    obtain ⟨b1, hb_b1, h⟩ := h
    refine cg_get C (k := 2) (j := 1) (.ref b1) hc_6.1 hc_6.2 (by decide) rfl (by decide) rfl (show cV _ 2 1 x0 = _ from congrArg va_rf hb_b1) cWs_wsX20 cl_X2_21 rfl dX2_isLive_6 ?_
    obtain ⟨hc_9, h⟩ := h
    refine cg_alen C hc_9.1 hc_9.2 (by decide) (by decide) dX2_isLive_9 ?_
    refine cg_icmp_ge C 26 (by decide) dX2_isLive_10 (fun c_ => ?_) (fun c_ => ?_)
    · have h := h.1 c_
      refine cg_iconst C (x := nI 0) rfl dX2_isLive_26 ?_
      refine cg_cast (.int (bI false)) rfl ?_
      exact cg_zret C (bI_nar _) h dX2_isLive_27 (by decide) (by decide)
    · have h := h.2 c_
      refine cg_aload_n C (i := 0) rfl 0 rfl dX2_isLive_13 ?_
      obtain ⟨hc_14, h⟩ := h
      obtain ⟨b2, hb_b2, h⟩ := h
      refine cg_get C (k := 2) (j := 1) (.ref b2) hc_14.1 hc_14.2 (by decide) rfl (by decide) rfl (show cV _ 2 1 x0 = _ from congrArg va_rf hb_b2) cWs_wsX20 cl_X2_21 rfl dX2_isLive_14 ?_
      refine cg_iload_n C (i := 1) rfl 1 rfl dX2_isLive_17 ?_
      obtain ⟨hc_18, h⟩ := h
      refine cg_zaloadR C hc_18 dX2_isLive_18 ?_
      refine cg_if_ne C 26 (by decide) dX2_isLive_19 (fun c_ => ?_) (fun c_ => ?_)
      · have h := h.1 c_
        refine cg_iconst C (x := nI 0) rfl dX2_isLive_26 ?_
        refine cg_cast (.int (bI false)) rfl ?_
        exact cg_zret C (bI_nar _) h dX2_isLive_27 (by decide) (by decide)
      · have h := h.2 c_
        refine cg_iconst C (x := nI 1) rfl dX2_isLive_22 ?_
        refine cg_goto C 27 (by decide) dX2_isLive_23 ?_
        refine cg_cast (.int (bI true)) rfl ?_
        exact cg_zret C (bI_nar _) h dX2_isLive_27 (by decide) (by decide)
def k_X2_liveIn_27 (Q : Int32 → cS → Prop) (dp : Nat) (R4 : Nat → Nat → Int32 → Int32 → cS → Prop) (x0 : Nat) (x1 : Nat) (x2 : Int32) (x3 : Int32) (S : cS) : Prop :=
∀ x3_1 : Int32, x3_1 = x3 + nI 1 → R4 x0 x1 x2 x3_1 S
def k_X2_liveIn_4 (Q : Int32 → cS → Prop) (dp : Nat) (R4 : Nat → Nat → Int32 → Int32 → cS → Prop) (x0 : Nat) (x1 : Nat) (x2 : Int32) (x3 : Int32) (S : cS) : Prop :=
cA S x1 14 ∧ (((((nI (cn S x1))) ≤ x3 →
  Q x2 S) ∧
 (¬ ((nI (cn S x1))) ≤ x3 →
  cX S x1 14 x3 ∧ (((((cI S x1 (x3).toNatClampNeg)) = 0 →
    k_X2_liveIn_27 Q dp R4 x0 x1 x2 x3 S) ∧
   (¬ ((cI S x1 (x3).toNatClampNeg)) = 0 →
    cA S x0 2 ∧ (k_X2_isLive (fun r_2 S_2 => 
    ((r_2 = 0 →
      k_X2_liveIn_27 Q dp R4 x0 x1 x2 x3 S_2) ∧
     (¬ r_2 = 0 →
      ∀ x2_3 : Int32, x2_3 = x2 + nI 1 → k_X2_liveIn_27 Q dp R4 x0 x1 x2_3 x3 S_2))) dp x0 x3 S)))))))
def k_X2_liveIn_4L (Q : Int32 → cS → Prop) (dp : Nat)  (x0 : Nat) (x1 : Nat) (x2 : Int32) (x3 : Int32) (S : cS) : Prop :=
  lfp (X := Nat × Nat × Int32 × Int32 × cS) (fun P y => k_X2_liveIn_4 Q dp  (fun b0 b1 b2 b3 S => P (b0, b1, b2, b3, S)) y.1 y.2.1 y.2.2.1 y.2.2.2.1 y.2.2.2.2) (x0, x1, x2, x3, S)
def k_X2_liveIn (Q : Int32 → cS → Prop) (dp : Nat) (x0 : Nat) (x1 : Nat) (S : cS) : Prop :=
k_X2_liveIn_4L Q dp  x0 x1 (((nI 0))) (((nI 0))) S
section S_X2_liveIn
variable {p : Program} {l : Launch} {e : Env} {s : State} {m : MethodId} {args : Array Value} {below : List Frame} {meth : Method} {c : Code} {A : Nat → Prop} {D : va_G} {Y : cY} {tp dp : Nat}
set_option maxRecDepth 20000 in
theorem tb_X2_liveIn_27 (C : cC p s m args meth c cX2_liveIn 4 (some .int) A D Y tp dp RX2) {post : Int32 → cS → Prop} {R4 : Nat → Nat → Int32 → Int32 → cS → Prop} (hR4 : ∀ (x0 : Nat) (x1 : Nat) (x2 : Int32) (x3 : Int32) (S : cS), R4 x0 x1 x2 x3 S → cG p l e (cRm 1 0 0 21) s m args below meth c A D Y 4 (MQ below (cQi post D Y A) args s 0 0 A) 0 0 4 [(0, .ref x0), (1, .ref x1), (2, .int x2), (3, .int x3)] [] S) (x0 : Nat) (x1 : Nat) (x2 : Int32) (x3 : Int32) (S : cS) (h : k_X2_liveIn_27 post dp R4 x0 x1 x2 x3 S) : cG p l e (cRm 1 0 0 21) s m args below meth c A D Y 4 (MQ below (cQi post D Y A) args s 0 0 A) 0 0 27 [(0, .ref x0), (1, .ref x1), (2, .int x2), (3, .int x3)] [] S := by
  unfold k_X2_liveIn_27 at h
  obtain ⟨x3_1, e_x3_1⟩ : ∃ z : Int32, z = x3 + nI 1 := ⟨_, rfl⟩
  have h := h x3_1 e_x3_1
  refine cg_iinc C (lv' := [(3, .int x3_1), (0, .ref x0), (1, .ref x1), (2, .int x2)]) 3 rfl (by rw [e_x3_1]; rfl) (Nat.le_of_ble_eq_true rfl) rfl dX2_liveIn_27 ?_
  refine cg_goto C 4 (by decide) dX2_liveIn_30 ?_
  exact cg_sub [1, 2, 3, 0] rfl (hR4 x0 x1 x2 x3_1 S h)
set_option maxRecDepth 20000 in
theorem tb_X2_liveIn_4 (C : cC p s m args meth c cX2_liveIn 4 (some .int) A D Y tp dp RX2) {post : Int32 → cS → Prop} {R4 : Nat → Nat → Int32 → Int32 → cS → Prop} (hR4 : ∀ (x0 : Nat) (x1 : Nat) (x2 : Int32) (x3 : Int32) (S : cS), R4 x0 x1 x2 x3 S → cG p l e (cRm 1 0 0 21) s m args below meth c A D Y 4 (MQ below (cQi post D Y A) args s 0 0 A) 0 0 4 [(0, .ref x0), (1, .ref x1), (2, .int x2), (3, .int x3)] [] S) (x0 : Nat) (x1 : Nat) (x2 : Int32) (x3 : Int32) (S : cS) (h : k_X2_liveIn_4 post dp R4 x0 x1 x2 x3 S) : cG p l e (cRm 1 0 0 21) s m args below meth c A D Y 4 (MQ below (cQi post D Y A) args s 0 0 A) 0 0 4 [(0, .ref x0), (1, .ref x1), (2, .int x2), (3, .int x3)] [] S := by
  unfold k_X2_liveIn_4 at h
  refine cg_iload_n C (i := 3) rfl 3 rfl dX2_liveIn_4 ?_
  refine cg_aload_n C (i := 1) rfl 1 rfl dX2_liveIn_5 ?_
  obtain ⟨hc_6, h⟩ := h
  refine cg_alen C hc_6.1 hc_6.2 (by decide) (by decide) dX2_liveIn_6 ?_
  refine cg_icmp_ge C 33 (by decide) dX2_liveIn_7 (fun c_ => ?_) (fun c_ => ?_)
  · have h := h.1 c_
    refine cg_iload_n C (i := 2) rfl 2 rfl dX2_liveIn_33 ?_
    exact cg_iret C h dX2_liveIn_34 (by decide) (by decide)
  · have h := h.2 c_
    refine cg_aload_n C (i := 1) rfl 1 rfl dX2_liveIn_10 ?_
    refine cg_iload_n C (i := 3) rfl 3 rfl dX2_liveIn_11 ?_
    obtain ⟨hc_12, h⟩ := h
    refine cg_ialoadR C hc_12 dX2_liveIn_12 ?_
    refine cg_if_eq C 27 (by decide) dX2_liveIn_13 (fun c_ => ?_) (fun c_ => ?_)
    · have h := h.1 c_
      exact cg_sub [0, 1, 2, 3] rfl (tb_X2_liveIn_27 C  hR4 x0 x1 x2 x3 S h)
    · have h := h.2 c_
      refine cg_aload_n C (i := 0) rfl 0 rfl dX2_liveIn_16 ?_
      refine cg_iload_n C (i := 3) rfl 3 rfl dX2_liveIn_17 ?_
      obtain ⟨hc_18, h⟩ := h
      refine cg_calli C (t_X2_isLive l x0 x3 S dp h) cc_X2_28 hc_18.1 hc_18.2 (by decide) rfl rfl ⟨by decide, by decide⟩ ⟨by decide, by decide⟩ rfl (Nat.le_of_ble_eq_true rfl) dX2_liveIn_18 (fun r_2 S_2 h => ?_)
      refine cg_if_eq C 27 (by decide) dX2_liveIn_21 (fun c_ => ?_) (fun c_ => ?_)
      · have h := h.1 c_
        exact cg_sub [0, 1, 2, 3] rfl (tb_X2_liveIn_27 C  hR4 x0 x1 x2 x3 S_2 h)
      · have h := h.2 c_
        obtain ⟨x2_3, e_x2_3⟩ : ∃ z : Int32, z = x2 + nI 1 := ⟨_, rfl⟩
        have h := h x2_3 e_x2_3
        refine cg_iinc C (lv' := [(2, .int x2_3), (0, .ref x0), (1, .ref x1), (3, .int x3)]) 2 rfl (by rw [e_x2_3]; rfl) (Nat.le_of_ble_eq_true rfl) rfl dX2_liveIn_24 ?_
        exact cg_sub [1, 2, 0, 3] rfl (tb_X2_liveIn_27 C  hR4 x0 x1 x2_3 x3 S_2 h)
set_option maxRecDepth 20000 in
theorem tl_X2_liveIn_4 (C : cC p s m args meth c cX2_liveIn 4 (some .int) A D Y tp dp RX2) {post : Int32 → cS → Prop}   (x0 : Nat) (x1 : Nat) (x2 : Int32) (x3 : Int32) (S : cS) (h : k_X2_liveIn_4L post dp  x0 x1 x2 x3 S) : cG p l e (cRm 1 0 0 21) s m args below meth c A D Y 4 (MQ below (cQi post D Y A) args s 0 0 A) 0 0 4 [(0, .ref x0), (1, .ref x1), (2, .int x2), (3, .int x3)] [] S :=
  h (fun y => cG p l e (cRm 1 0 0 21) s m args below meth c A D Y 4 (MQ below (cQi post D Y A) args s 0 0 A) 0 0 4 [(0, .ref (y.1)), (1, .ref (y.2.1)), (2, .int (y.2.2.1)), (3, .int (y.2.2.2.1))] [] (y.2.2.2.2)) (fun y hy => tb_X2_liveIn_4 C   (fun b0 b1 b2 b3 S z => z) (y.1) (y.2.1) (y.2.2.1) (y.2.2.2.1) (y.2.2.2.2) hy)
end S_X2_liveIn
set_option maxHeartbeats 1000000 in
set_option maxRecDepth 20000 in
theorem t_X2_liveIn (l : Launch) (x0 : Nat) (x1 : Nat) (S : cS) (dp : Nat) {P : Int32 → cS → Prop} (h : k_X2_liveIn P dp x0 x1 S) : cMet (cQi P) l yX2_liveIn cX2_liveIn 4 (some .int) 1 0 0 21 [.ref x0, .ref x1] S dp := by
  intro D Y tp sz
  refine cg_body (by decide +kernel) (Nat.le_of_ble_eq_true rfl) ?_
  intro p e s m args below meth c C
  generalize va_A (cWd Y S) sz = A at C ⊢
  have C : cC p s m args meth c cX2_liveIn 4 (some .int) A D Y tp dp RX2 := C
  refine cg_lv (lv' := [(0, .ref x0), (1, .ref x1)]) rfl ?_
  unfold k_X2_liveIn at h
  refine cg_iconst C (x := nI 0) rfl dX2_liveIn_0 ?_
  refine cg_istore_n C (i := 2) (lv' := [(2, .int ((nI 0))), (0, .ref x0), (1, .ref x1)]) rfl (Nat.le_of_ble_eq_true rfl) rfl dX2_liveIn_1 ?_
  refine cg_iconst C (x := nI 0) rfl dX2_liveIn_2 ?_
  refine cg_istore_n C (i := 3) (lv' := [(3, .int ((nI 0))), (2, .int ((nI 0))), (0, .ref x0), (1, .ref x1)]) rfl (Nat.le_of_ble_eq_true rfl) rfl dX2_liveIn_3 ?_
  exact cg_sub [2, 3, 1, 0] rfl (tl_X2_liveIn_4 C   x0 x1 (((nI 0))) (((nI 0))) S h)
def k_X7_readCount_86 (Q : Int32 → cS → Prop) (dp : Nat) (R6 : Nat → Nat → Int32 → Int64 → Int32 → Int32 → cS → Prop) (x0 : Nat) (x1 : Nat) (x2 : Int32) (x3 : Int64) (x5 : Int32) (x6 : Int32) (S : cS) : Prop :=
∀ x6_6 : Int32, x6_6 = x6 + nI 1 → R6 x0 x1 x2 x3 x5 x6_6 S
def k_X7_readCount_42 (Q : Int32 → cS → Prop) (dp : Nat) (R6 : Nat → Nat → Int32 → Int64 → Int32 → Int32 → cS → Prop) (x0 : Nat) (x1 : Nat) (x2 : Int32) (x3 : Int64) (x5 : Int32) (x6 : Int32) (x7 : Option Nat) (t0 : Option Nat) (S : cS) : Prop :=
((x7 = none →
  ((t0 = none →
    k_X7_readCount_86 Q dp R6 x0 x1 x2 x3 x5 x6 S) ∧
   (∀ b5 : Nat, t0 = some b5 →
    cA S x0 7 ∧ ((∃ b7 : Nat, cr S 227 x0 = some b7 ∧ (cX S b7 18 ((nI 0)) ∧ ((∃ b8 : Nat, cO S b7 ((nI 0)).toNatClampNeg = some b8 ∧ (k_J7_fill_53178 (fun S_9 => 
    cA S_9 x0 7 ∧ ((∃ b10 : Nat, cr S_9 227 x0 = some b10 ∧ (cX S_9 b10 18 ((nI 0)) ∧ ((∃ b11 : Nat, cO S_9 b10 ((nI 0)).toNatClampNeg = some b11 ∧ (cA S_9 b5 5 ∧ (k_X5_spread (fun S_12 => 
    cA S_12 x0 7 ∧ ((∃ b13 : Nat, cr S_12 227 x0 = some b13 ∧ (cX S_12 b13 18 ((nI 0)) ∧ ((∃ b14 : Nat, cO S_12 b13 ((nI 0)).toNatClampNeg = some b14 ∧ (False))))))) dp b5 b11 S_9)))))))) dp b8 ((nI 0)) S))))))))) ∧
 (∀ b4 : Nat, x7 = some b4 →
  ((t0 = none →
    k_X7_readCount_86 Q dp R6 x0 x1 x2 x3 x5 x6 S) ∧
   (∀ b15 : Nat, t0 = some b15 →
    cA S x0 7 ∧ ((∃ b16 : Nat, cr S 227 x0 = some b16 ∧ (cX S b16 18 ((nI 0)) ∧ ((∃ b17 : Nat, cO S b16 ((nI 0)).toNatClampNeg = some b17 ∧ (k_J7_fill_53178 (fun S_18 => 
    cA S_18 x0 7 ∧ ((∃ b19 : Nat, cr S_18 227 x0 = some b19 ∧ (cX S_18 b19 18 ((nI 0)) ∧ ((∃ b20 : Nat, cO S_18 b19 ((nI 0)).toNatClampNeg = some b20 ∧ (cA S_18 b15 5 ∧ (k_X5_spread (fun S_21 => 
    cA S_21 x0 7 ∧ ((∃ b22 : Nat, cr S_21 227 x0 = some b22 ∧ (cX S_21 b22 18 ((nI 0)) ∧ ((∃ b23 : Nat, cO S_21 b22 ((nI 0)).toNatClampNeg = some b23 ∧ (cA S_21 b4 2 ∧ (k_X2_liveIn (fun r_24 S_24 => 
    ∀ x5_25 : Int32, x5_25 = (x5 + r_24) → k_X7_readCount_86 Q dp R6 x0 x1 x2 x3 x5_25 x6 S_24) dp b4 b23 S_21)))))))) dp b15 b20 S_18)))))))) dp b17 ((nI 0)) S))))))))))
def k_X7_readCount_6 (Q : Int32 → cS → Prop) (dp : Nat) (R6 : Nat → Nat → Int32 → Int64 → Int32 → Int32 → cS → Prop) (x0 : Nat) (x1 : Nat) (x2 : Int32) (x3 : Int64) (x5 : Int32) (x6 : Int32) (S : cS) : Prop :=
cA S x1 10 ∧ (k_X10_size (fun r_1 S_1 => 
((r_1 ≤ x6 →
  Q x5 S_1) ∧
 (¬ r_1 ≤ x6 →
  cA S_1 x1 10 ∧ (k_X10_at (fun r_2 S_2 => 
  ((r_2 = none →
    k_X7_readCount_42 Q dp R6 x0 x1 x2 x3 x5 x6 none none S_2) ∧
   (∀ b3 : Nat, r_2 = some b3 →
    cA S_2 b3 2 ∧ ((∃ b26 : Nat, cr S_2 64 b3 = some b26 ∧ (cA S_2 b26 8 ∧ (k_X8_postingsOf (fun r_27 S_27 => 
    ((r_27 = none →
      k_X7_readCount_42 Q dp R6 x0 x1 x2 x3 x5 x6 (some b3) none S_27) ∧
     (∀ b28 : Nat, r_27 = some b28 →
      k_X7_readCount_42 Q dp R6 x0 x1 x2 x3 x5 x6 (some b3) (some b28) S_27))) dp b26 x2 x3 S_2))))))) dp x1 x6 S_1)))) dp x1 S)
def k_X7_readCount_6L (Q : Int32 → cS → Prop) (dp : Nat)  (x0 : Nat) (x1 : Nat) (x2 : Int32) (x3 : Int64) (x5 : Int32) (x6 : Int32) (S : cS) : Prop :=
  lfp (X := Nat × Nat × Int32 × Int64 × Int32 × Int32 × cS) (fun P y => k_X7_readCount_6 Q dp  (fun b0 b1 b2 b3 b4 b5 S => P (b0, b1, b2, b3, b4, b5, S)) y.1 y.2.1 y.2.2.1 y.2.2.2.1 y.2.2.2.2.1 y.2.2.2.2.2.1 y.2.2.2.2.2.2) (x0, x1, x2, x3, x5, x6, S)
def k_X7_readCount (Q : Int32 → cS → Prop) (dp : Nat) (x0 : Nat) (x1 : Nat) (x2 : Int32) (x3 : Int64) (S : cS) : Prop :=
k_X7_readCount_6L Q dp  x0 x1 x2 x3 (((nI 0))) (((nI 0))) S
section S_X7_readCount
variable {p : Program} {l : Launch} {e : Env} {s : State} {m : MethodId} {args : Array Value} {below : List Frame} {meth : Method} {c : Code} {A : Nat → Prop} {D : va_G} {Y : cY} {tp dp : Nat}
set_option maxRecDepth 20000 in
theorem tb_X7_readCount_86 (C : cC p s m args meth c cX7_readCount 9 (some .int) A D Y tp dp RX7) {post : Int32 → cS → Prop} {R6 : Nat → Nat → Int32 → Int64 → Int32 → Int32 → cS → Prop} (hR6 : ∀ (x0 : Nat) (x1 : Nat) (x2 : Int32) (x3 : Int64) (x5 : Int32) (x6 : Int32) (S : cS), R6 x0 x1 x2 x3 x5 x6 S → cG p l e (cRm 5 0 0 114) s m args below meth c A D Y 9 (MQ below (cQi post D Y A) args s 0 0 A) 0 0 6 [(0, .ref x0), (1, .ref x1), (2, .int x2), (3, .long x3), (5, .int x5), (6, .int x6)] [] S) (x0 : Nat) (x1 : Nat) (x2 : Int32) (x3 : Int64) (x5 : Int32) (x6 : Int32) (S : cS) (h : k_X7_readCount_86 post dp R6 x0 x1 x2 x3 x5 x6 S) : cG p l e (cRm 5 0 0 114) s m args below meth c A D Y 9 (MQ below (cQi post D Y A) args s 0 0 A) 0 0 86 [(0, .ref x0), (1, .ref x1), (2, .int x2), (3, .long x3), (5, .int x5), (6, .int x6)] [] S := by
  unfold k_X7_readCount_86 at h
  obtain ⟨x6_6, e_x6_6⟩ : ∃ z : Int32, z = x6 + nI 1 := ⟨_, rfl⟩
  have h := h x6_6 e_x6_6
  refine cg_iinc C (lv' := [(6, .int x6_6), (0, .ref x0), (1, .ref x1), (2, .int x2), (3, .long x3), (5, .int x5)]) 5 rfl (by rw [e_x6_6]; rfl) (Nat.le_of_ble_eq_true rfl) rfl dX7_readCount_86 ?_
  refine cg_goto C 6 (by decide) dX7_readCount_89 ?_
  exact cg_sub [1, 2, 3, 4, 5, 0] rfl (hR6 x0 x1 x2 x3 x5 x6_6 S h)
set_option maxRecDepth 20000 in
theorem tb_X7_readCount_42 (C : cC p s m args meth c cX7_readCount 9 (some .int) A D Y tp dp RX7) {post : Int32 → cS → Prop} {R6 : Nat → Nat → Int32 → Int64 → Int32 → Int32 → cS → Prop} (hR6 : ∀ (x0 : Nat) (x1 : Nat) (x2 : Int32) (x3 : Int64) (x5 : Int32) (x6 : Int32) (S : cS), R6 x0 x1 x2 x3 x5 x6 S → cG p l e (cRm 5 0 0 114) s m args below meth c A D Y 9 (MQ below (cQi post D Y A) args s 0 0 A) 0 0 6 [(0, .ref x0), (1, .ref x1), (2, .int x2), (3, .long x3), (5, .int x5), (6, .int x6)] [] S) (x0 : Nat) (x1 : Nat) (x2 : Int32) (x3 : Int64) (x5 : Int32) (x6 : Int32) (x7 : Option Nat) (t0 : Option Nat) (S : cS) (h : k_X7_readCount_42 post dp R6 x0 x1 x2 x3 x5 x6 x7 t0 S) : cG p l e (cRm 5 0 0 114) s m args below meth c A D Y 9 (MQ below (cQi post D Y A) args s 0 0 A) 0 0 42 [(0, .ref x0), (1, .ref x1), (2, .int x2), (3, .long x3), (5, .int x5), (6, .int x6), (7, va_rf x7)] [va_rf t0] S := by
  unfold k_X7_readCount_42 at h
  obtain ho | ⟨b4, ho⟩ := c_opt x7
  · replace h := h.1 ho
    subst ho
    refine cg_lv (lv' := [(0, .ref x0), (1, .ref x1), (2, .int x2), (3, .long x3), (5, .int x5), (6, .int x6), (7, .null)]) rfl ?_
    refine cg_st (st' := [va_rf t0]) rfl ?_
    obtain ho | ⟨b5, ho⟩ := c_opt t0
    · replace h := h.1 ho
      subst ho
      refine cg_lv (lv' := [(0, .ref x0), (1, .ref x1), (2, .int x2), (3, .long x3), (5, .int x5), (6, .int x6), (7, .null)]) rfl ?_
      refine cg_st (st' := [.null]) rfl ?_
      refine cg_astoreN (lv' := [(8, .null), (0, .ref x0), (1, .ref x1), (2, .int x2), (3, .long x3), (5, .int x5), (6, .int x6), (7, .null)]) C (Nat.le_of_ble_eq_true rfl) rfl dX7_readCount_42 ?_
      refine cg_aloadN C 0 rfl dX7_readCount_44 ?_
      refine cg_ifnullN C 86 (by decide) dX7_readCount_46 ?_
      exact cg_sub [1, 2, 3, 4, 5, 6] rfl (tb_X7_readCount_86 C  hR6 x0 x1 x2 x3 x5 x6 S h)
    · replace h := h.2 b5 ho
      subst ho
      refine cg_lv (lv' := [(0, .ref x0), (1, .ref x1), (2, .int x2), (3, .long x3), (5, .int x5), (6, .int x6), (7, .null)]) rfl ?_
      refine cg_st (st' := [.ref b5]) rfl ?_
      refine cg_astore (lv' := [(8, .ref b5), (0, .ref x0), (1, .ref x1), (2, .int x2), (3, .long x3), (5, .int x5), (6, .int x6), (7, .null)]) C (Nat.le_of_ble_eq_true rfl) rfl dX7_readCount_42 ?_
      refine cg_aload C 0 rfl dX7_readCount_44 ?_
      refine cg_ifnull C dX7_readCount_46 ?_
      refine cg_aload_n C (i := 0) rfl 1 rfl dX7_readCount_49 ?_
      obtain ⟨hc_50, h⟩ := h
      obtain ⟨b7, hb_b7, h⟩ := h
      refine cg_get C (k := 7) (j := 3) (.ref b7) hc_50.1 hc_50.2 (by decide) rfl (by decide) rfl (show cV _ 7 3 x0 = _ from congrArg va_rf hb_b7) cWs_wsX70 cl_X7_23 rfl dX7_readCount_50 ?_
      refine cg_iconst C (x := nI 0) rfl dX7_readCount_53 ?_
      obtain ⟨hc_54, h⟩ := h
      obtain ⟨b8, hb_b8, h⟩ := h
      refine cg_aaload2R C hc_54 hb_b8 dX7_readCount_54 ?_
      refine cg_iconst C (x := nI 0) rfl dX7_readCount_55 ?_
      refine cg_callsv C (t_J7_fill_53178 l b8 ((nI 0)) S dp h) cc_X7_94 rfl ⟨by decide, by decide⟩ ⟨by decide, by decide⟩ rfl (Nat.le_of_ble_eq_true rfl) dX7_readCount_56 (fun S_9 h => ?_)
      refine cg_aload C 0 rfl dX7_readCount_59 ?_
      refine cg_aload_n C (i := 0) rfl 1 rfl dX7_readCount_61 ?_
      obtain ⟨hc_62, h⟩ := h
      obtain ⟨b10, hb_b10, h⟩ := h
      refine cg_get C (k := 7) (j := 3) (.ref b10) hc_62.1 hc_62.2 (by decide) rfl (by decide) rfl (show cV _ 7 3 x0 = _ from congrArg va_rf hb_b10) cWs_wsX70 cl_X7_23 rfl dX7_readCount_62 ?_
      refine cg_iconst C (x := nI 0) rfl dX7_readCount_65 ?_
      obtain ⟨hc_66, h⟩ := h
      obtain ⟨b11, hb_b11, h⟩ := h
      refine cg_aaload2R C hc_66 hb_b11 dX7_readCount_66 ?_
      obtain ⟨hc_67, h⟩ := h
      refine cg_callv C (t_X5_spread l b5 b11 S_9 dp h) cc_X7_100 hc_67.1 hc_67.2 (by decide) rfl rfl ⟨by decide, by decide⟩ ⟨by decide, by decide⟩ rfl (Nat.le_of_ble_eq_true rfl) dX7_readCount_67 (fun S_12 h => ?_)
      refine cg_iload C 5 rfl dX7_readCount_70 ?_
      refine cg_aloadN C 7 rfl dX7_readCount_72 ?_
      refine cg_aload_n C (i := 0) rfl 1 rfl dX7_readCount_74 ?_
      obtain ⟨hc_75, h⟩ := h
      obtain ⟨b13, hb_b13, h⟩ := h
      refine cg_get C (k := 7) (j := 3) (.ref b13) hc_75.1 hc_75.2 (by decide) rfl (by decide) rfl (show cV _ 7 3 x0 = _ from congrArg va_rf hb_b13) cWs_wsX70 cl_X7_23 rfl dX7_readCount_75 ?_
      refine cg_iconst C (x := nI 0) rfl dX7_readCount_78 ?_
      obtain ⟨hc_79, h⟩ := h
      obtain ⟨b14, hb_b14, h⟩ := h
      refine cg_aaload2R C hc_79 hb_b14 dX7_readCount_79 ?_
      exact h.elim
  · replace h := h.2 b4 ho
    subst ho
    refine cg_lv (lv' := [(0, .ref x0), (1, .ref x1), (2, .int x2), (3, .long x3), (5, .int x5), (6, .int x6), (7, .ref b4)]) rfl ?_
    refine cg_st (st' := [va_rf t0]) rfl ?_
    obtain ho | ⟨b15, ho⟩ := c_opt t0
    · replace h := h.1 ho
      subst ho
      refine cg_lv (lv' := [(0, .ref x0), (1, .ref x1), (2, .int x2), (3, .long x3), (5, .int x5), (6, .int x6), (7, .ref b4)]) rfl ?_
      refine cg_st (st' := [.null]) rfl ?_
      refine cg_astoreN (lv' := [(8, .null), (0, .ref x0), (1, .ref x1), (2, .int x2), (3, .long x3), (5, .int x5), (6, .int x6), (7, .ref b4)]) C (Nat.le_of_ble_eq_true rfl) rfl dX7_readCount_42 ?_
      refine cg_aloadN C 0 rfl dX7_readCount_44 ?_
      refine cg_ifnullN C 86 (by decide) dX7_readCount_46 ?_
      exact cg_sub [1, 2, 3, 4, 5, 6] rfl (tb_X7_readCount_86 C  hR6 x0 x1 x2 x3 x5 x6 S h)
    · replace h := h.2 b15 ho
      subst ho
      refine cg_lv (lv' := [(0, .ref x0), (1, .ref x1), (2, .int x2), (3, .long x3), (5, .int x5), (6, .int x6), (7, .ref b4)]) rfl ?_
      refine cg_st (st' := [.ref b15]) rfl ?_
      refine cg_astore (lv' := [(8, .ref b15), (0, .ref x0), (1, .ref x1), (2, .int x2), (3, .long x3), (5, .int x5), (6, .int x6), (7, .ref b4)]) C (Nat.le_of_ble_eq_true rfl) rfl dX7_readCount_42 ?_
      refine cg_aload C 0 rfl dX7_readCount_44 ?_
      refine cg_ifnull C dX7_readCount_46 ?_
      refine cg_aload_n C (i := 0) rfl 1 rfl dX7_readCount_49 ?_
      obtain ⟨hc_50, h⟩ := h
      obtain ⟨b16, hb_b16, h⟩ := h
      refine cg_get C (k := 7) (j := 3) (.ref b16) hc_50.1 hc_50.2 (by decide) rfl (by decide) rfl (show cV _ 7 3 x0 = _ from congrArg va_rf hb_b16) cWs_wsX70 cl_X7_23 rfl dX7_readCount_50 ?_
      refine cg_iconst C (x := nI 0) rfl dX7_readCount_53 ?_
      obtain ⟨hc_54, h⟩ := h
      obtain ⟨b17, hb_b17, h⟩ := h
      refine cg_aaload2R C hc_54 hb_b17 dX7_readCount_54 ?_
      refine cg_iconst C (x := nI 0) rfl dX7_readCount_55 ?_
      refine cg_callsv C (t_J7_fill_53178 l b17 ((nI 0)) S dp h) cc_X7_94 rfl ⟨by decide, by decide⟩ ⟨by decide, by decide⟩ rfl (Nat.le_of_ble_eq_true rfl) dX7_readCount_56 (fun S_18 h => ?_)
      refine cg_aload C 0 rfl dX7_readCount_59 ?_
      refine cg_aload_n C (i := 0) rfl 1 rfl dX7_readCount_61 ?_
      obtain ⟨hc_62, h⟩ := h
      obtain ⟨b19, hb_b19, h⟩ := h
      refine cg_get C (k := 7) (j := 3) (.ref b19) hc_62.1 hc_62.2 (by decide) rfl (by decide) rfl (show cV _ 7 3 x0 = _ from congrArg va_rf hb_b19) cWs_wsX70 cl_X7_23 rfl dX7_readCount_62 ?_
      refine cg_iconst C (x := nI 0) rfl dX7_readCount_65 ?_
      obtain ⟨hc_66, h⟩ := h
      obtain ⟨b20, hb_b20, h⟩ := h
      refine cg_aaload2R C hc_66 hb_b20 dX7_readCount_66 ?_
      obtain ⟨hc_67, h⟩ := h
      refine cg_callv C (t_X5_spread l b15 b20 S_18 dp h) cc_X7_100 hc_67.1 hc_67.2 (by decide) rfl rfl ⟨by decide, by decide⟩ ⟨by decide, by decide⟩ rfl (Nat.le_of_ble_eq_true rfl) dX7_readCount_67 (fun S_21 h => ?_)
      refine cg_iload C 5 rfl dX7_readCount_70 ?_
      refine cg_aload C 7 rfl dX7_readCount_72 ?_
      refine cg_aload_n C (i := 0) rfl 1 rfl dX7_readCount_74 ?_
      obtain ⟨hc_75, h⟩ := h
      obtain ⟨b22, hb_b22, h⟩ := h
      refine cg_get C (k := 7) (j := 3) (.ref b22) hc_75.1 hc_75.2 (by decide) rfl (by decide) rfl (show cV _ 7 3 x0 = _ from congrArg va_rf hb_b22) cWs_wsX70 cl_X7_23 rfl dX7_readCount_75 ?_
      refine cg_iconst C (x := nI 0) rfl dX7_readCount_78 ?_
      obtain ⟨hc_79, h⟩ := h
      obtain ⟨b23, hb_b23, h⟩ := h
      refine cg_aaload2R C hc_79 hb_b23 dX7_readCount_79 ?_
      obtain ⟨hc_80, h⟩ := h
      refine cg_calli C (t_X2_liveIn l b4 b23 S_21 dp h) cc_X7_106 hc_80.1 hc_80.2 (by decide) rfl rfl ⟨by decide, by decide⟩ ⟨by decide, by decide⟩ rfl (Nat.le_of_ble_eq_true rfl) dX7_readCount_80 (fun r_24 S_24 h => ?_)
      refine cg_iadd C dX7_readCount_83 ?_
      refine cg_nmI (fun x5_25 e_x5_25 => ?_)
      have h := h x5_25 e_x5_25
      refine cg_istore C (lv' := [(5, .int x5_25), (8, .ref b15), (0, .ref x0), (1, .ref x1), (2, .int x2), (3, .long x3), (6, .int x6), (7, .ref b4)]) (Nat.le_of_ble_eq_true rfl) rfl dX7_readCount_84 ?_
      exact cg_sub [2, 3, 4, 5, 0, 6] rfl (tb_X7_readCount_86 C  hR6 x0 x1 x2 x3 x5_25 x6 S_24 h)
set_option maxRecDepth 20000 in
theorem tb_X7_readCount_6 (C : cC p s m args meth c cX7_readCount 9 (some .int) A D Y tp dp RX7) {post : Int32 → cS → Prop} {R6 : Nat → Nat → Int32 → Int64 → Int32 → Int32 → cS → Prop} (hR6 : ∀ (x0 : Nat) (x1 : Nat) (x2 : Int32) (x3 : Int64) (x5 : Int32) (x6 : Int32) (S : cS), R6 x0 x1 x2 x3 x5 x6 S → cG p l e (cRm 5 0 0 114) s m args below meth c A D Y 9 (MQ below (cQi post D Y A) args s 0 0 A) 0 0 6 [(0, .ref x0), (1, .ref x1), (2, .int x2), (3, .long x3), (5, .int x5), (6, .int x6)] [] S) (x0 : Nat) (x1 : Nat) (x2 : Int32) (x3 : Int64) (x5 : Int32) (x6 : Int32) (S : cS) (h : k_X7_readCount_6 post dp R6 x0 x1 x2 x3 x5 x6 S) : cG p l e (cRm 5 0 0 114) s m args below meth c A D Y 9 (MQ below (cQi post D Y A) args s 0 0 A) 0 0 6 [(0, .ref x0), (1, .ref x1), (2, .int x2), (3, .long x3), (5, .int x5), (6, .int x6)] [] S := by
  unfold k_X7_readCount_6 at h
  refine cg_iload C 5 rfl dX7_readCount_6 ?_
  refine cg_aload_n C (i := 1) rfl 1 rfl dX7_readCount_8 ?_
  obtain ⟨hc_9, h⟩ := h
  refine cg_calli C (t_X10_size l x1 S dp h) cc_X7_77 hc_9.1 hc_9.2 (by decide) rfl rfl ⟨by decide, by decide⟩ ⟨by decide, by decide⟩ rfl (Nat.le_of_ble_eq_true rfl) dX7_readCount_9 (fun r_1 S_1 h => ?_)
  refine cg_icmp_ge C 92 (by decide) dX7_readCount_12 (fun c_ => ?_) (fun c_ => ?_)
  · have h := h.1 c_
    refine cg_iload C 4 rfl dX7_readCount_92 ?_
    exact cg_iret C h dX7_readCount_94 (by decide) (by decide)
  · have h := h.2 c_
    refine cg_aload_n C (i := 1) rfl 1 rfl dX7_readCount_15 ?_
    refine cg_iload C 5 rfl dX7_readCount_16 ?_
    obtain ⟨hc_18, h⟩ := h
    refine cg_callq C (t_X10_at l x1 x6 S_1 dp h) cc_X7_78 hc_18.1 hc_18.2 (by decide) rfl rfl ⟨by decide, by decide⟩ ⟨by decide, by decide⟩ rfl (Nat.le_of_ble_eq_true rfl) dX7_readCount_18 (fun r_2 S_2 h => ?_)
    obtain ho | ⟨b3, ho⟩ := c_opt r_2
    · replace h := h.1 ho
      subst ho
      refine cg_cast (.null) rfl ?_
      refine cg_astoreN (lv' := [(7, .null), (0, .ref x0), (1, .ref x1), (2, .int x2), (3, .long x3), (5, .int x5), (6, .int x6)]) C (Nat.le_of_ble_eq_true rfl) rfl dX7_readCount_21 ?_
      refine cg_aloadN C 0 rfl dX7_readCount_23 ?_
      refine cg_ifnonnullN C dX7_readCount_25 ?_
      refine cg_null C dX7_readCount_28 ?_
      refine cg_goto C 42 (by decide) dX7_readCount_29 ?_
      exact cg_sub [1, 2, 3, 4, 5, 6, 0] rfl (tb_X7_readCount_42 C  hR6 x0 x1 x2 x3 x5 x6 none none S_2 h)
    · replace h := h.2 b3 ho
      subst ho
      refine cg_cast (.ref b3) rfl ?_
      refine cg_astore (lv' := [(7, .ref b3), (0, .ref x0), (1, .ref x1), (2, .int x2), (3, .long x3), (5, .int x5), (6, .int x6)]) C (Nat.le_of_ble_eq_true rfl) rfl dX7_readCount_21 ?_
      refine cg_aload C 0 rfl dX7_readCount_23 ?_
      refine cg_ifnonnull C 32 (by decide) dX7_readCount_25 ?_
      refine cg_aload C 0 rfl dX7_readCount_32 ?_
      obtain ⟨hc_34, h⟩ := h
      obtain ⟨b26, hb_b26, h⟩ := h
      refine cg_get C (k := 2) (j := 0) (.ref b26) hc_34.1 hc_34.2 (by decide) rfl (by decide) rfl (show cV _ 2 0 b3 = _ from congrArg va_rf hb_b26) cWs_wsX20 cl_X7_82 rfl dX7_readCount_34 ?_
      refine cg_iload_n C (i := 2) rfl 3 rfl dX7_readCount_37 ?_
      refine cg_lload_n C (i := 3) rfl 4 rfl dX7_readCount_38 ?_
      obtain ⟨hc_39, h⟩ := h
      refine cg_callq C (t_X8_postingsOf l b26 x2 x3 S_2 dp h) cc_X7_88 hc_39.1 hc_39.2 (by decide) rfl rfl ⟨by decide, by decide⟩ ⟨by decide, by decide⟩ rfl (Nat.le_of_ble_eq_true rfl) dX7_readCount_39 (fun r_27 S_27 h => ?_)
      obtain ho | ⟨b28, ho⟩ := c_opt r_27
      · replace h := h.1 ho
        subst ho
        refine cg_cast (.null) rfl ?_
        exact cg_sub [1, 2, 3, 4, 5, 6, 0] rfl (tb_X7_readCount_42 C  hR6 x0 x1 x2 x3 x5 x6 (some b3) none S_27 h)
      · replace h := h.2 b28 ho
        subst ho
        refine cg_cast (.ref b28) rfl ?_
        exact cg_sub [1, 2, 3, 4, 5, 6, 0] rfl (tb_X7_readCount_42 C  hR6 x0 x1 x2 x3 x5 x6 (some b3) (some b28) S_27 h)
set_option maxRecDepth 20000 in
theorem tl_X7_readCount_6 (C : cC p s m args meth c cX7_readCount 9 (some .int) A D Y tp dp RX7) {post : Int32 → cS → Prop}   (x0 : Nat) (x1 : Nat) (x2 : Int32) (x3 : Int64) (x5 : Int32) (x6 : Int32) (S : cS) (h : k_X7_readCount_6L post dp  x0 x1 x2 x3 x5 x6 S) : cG p l e (cRm 5 0 0 114) s m args below meth c A D Y 9 (MQ below (cQi post D Y A) args s 0 0 A) 0 0 6 [(0, .ref x0), (1, .ref x1), (2, .int x2), (3, .long x3), (5, .int x5), (6, .int x6)] [] S :=
  h (fun y => cG p l e (cRm 5 0 0 114) s m args below meth c A D Y 9 (MQ below (cQi post D Y A) args s 0 0 A) 0 0 6 [(0, .ref (y.1)), (1, .ref (y.2.1)), (2, .int (y.2.2.1)), (3, .long (y.2.2.2.1)), (5, .int (y.2.2.2.2.1)), (6, .int (y.2.2.2.2.2.1))] [] (y.2.2.2.2.2.2)) (fun y hy => tb_X7_readCount_6 C   (fun b0 b1 b2 b3 b4 b5 S z => z) (y.1) (y.2.1) (y.2.2.1) (y.2.2.2.1) (y.2.2.2.2.1) (y.2.2.2.2.2.1) (y.2.2.2.2.2.2) hy)
end S_X7_readCount
set_option maxHeartbeats 1000000 in
set_option maxRecDepth 20000 in
theorem t_X7_readCount (l : Launch) (x0 : Nat) (x1 : Nat) (x2 : Int32) (x3 : Int64) (S : cS) (dp : Nat) {P : Int32 → cS → Prop} (h : k_X7_readCount P dp x0 x1 x2 x3 S) : cMet (cQi P) l yX7_readCount cX7_readCount 9 (some .int) 5 0 0 114 [.ref x0, .ref x1, .int x2, .long x3] S dp := by
  intro D Y tp sz
  refine cg_body (by decide +kernel) (Nat.le_of_ble_eq_true rfl) ?_
  intro p e s m args below meth c C
  generalize va_A (cWd Y S) sz = A at C ⊢
  have C : cC p s m args meth c cX7_readCount 9 (some .int) A D Y tp dp RX7 := C
  refine cg_lv (lv' := [(0, .ref x0), (1, .ref x1), (2, .int x2), (3, .long x3)]) rfl ?_
  unfold k_X7_readCount at h
  refine cg_iconst C (x := nI 0) rfl dX7_readCount_0 ?_
  refine cg_istore C (lv' := [(5, .int ((nI 0))), (0, .ref x0), (1, .ref x1), (2, .int x2), (3, .long x3)]) (Nat.le_of_ble_eq_true rfl) rfl dX7_readCount_1 ?_
  refine cg_iconst C (x := nI 0) rfl dX7_readCount_3 ?_
  refine cg_istore C (lv' := [(6, .int ((nI 0))), (5, .int ((nI 0))), (0, .ref x0), (1, .ref x1), (2, .int x2), (3, .long x3)]) (Nat.le_of_ble_eq_true rfl) rfl dX7_readCount_4 ?_
  exact cg_sub [2, 3, 4, 5, 1, 0] rfl (tl_X7_readCount_6 C   x0 x1 x2 x3 (((nI 0))) (((nI 0))) S h)
def k_X7_rarityOf_14 (Q : Int32 → cS → Prop) (dp : Nat) (R14 : Int32 → Int32 → cS → Prop) (x2 : Int32) (x3 : Int32) (S : cS) : Prop :=
((x3 ≤ ((nI 1)) →
  Q x2 S) ∧
 (¬ x3 ≤ ((nI 1)) →
  ∀ x2_2 : Int32, x2_2 = x2 + nI 1 → ∀ x3_3 : Int32, x3_3 = (x3 / ((nI 2))) → R14 x2_2 x3_3 S))
def k_X7_rarityOf_14L (Q : Int32 → cS → Prop) (dp : Nat)  (x2 : Int32) (x3 : Int32) (S : cS) : Prop :=
  lfp (X := Int32 × Int32 × cS) (fun P y => k_X7_rarityOf_14 Q dp  (fun b0 b1 S => P (b0, b1, S)) y.1 y.2.1 y.2.2) (x2, x3, S)
def k_X7_rarityOf (Q : Int32 → cS → Prop) (dp : Nat) (x0 : Int32) (x1 : Int32) (S : cS) : Prop :=
¬ ((((if x1 < ((nI 0)) then ((nI 0)) else x1)) + ((nI 1)))) = 0 ∧ (∀ x3_1 : Int32, x3_1 = (((x0 + ((nI 1)))) / ((((if x1 < ((nI 0)) then ((nI 0)) else x1)) + ((nI 1))))) → k_X7_rarityOf_14L Q dp  (((nI 1))) x3_1 S)
section S_X7_rarityOf
variable {p : Program} {l : Launch} {e : Env} {s : State} {m : MethodId} {args : Array Value} {below : List Frame} {meth : Method} {c : Code} {A : Nat → Prop} {D : va_G} {Y : cY} {tp dp : Nat}
set_option maxRecDepth 20000 in
theorem tb_X7_rarityOf_14 (C : cC p s m args meth c cX7_rarityOf 4 (some .int) A D Y tp dp RX7) {post : Int32 → cS → Prop} {R14 : Int32 → Int32 → cS → Prop} (hR14 : ∀ (x2 : Int32) (x3 : Int32) (S : cS), R14 x2 x3 S → cG p l e (cRm 1 0 0 14) s m args below meth c A D Y 4 (MQ below (cQi post D Y A) args s 0 0 A) 0 0 14 [(2, .int x2), (3, .int x3)] [] S) (x2 : Int32) (x3 : Int32) (S : cS) (h : k_X7_rarityOf_14 post dp R14 x2 x3 S) : cG p l e (cRm 1 0 0 14) s m args below meth c A D Y 4 (MQ below (cQi post D Y A) args s 0 0 A) 0 0 14 [(2, .int x2), (3, .int x3)] [] S := by
  unfold k_X7_rarityOf_14 at h
  refine cg_iload_n C (i := 3) rfl 1 rfl dX7_rarityOf_14 ?_
  refine cg_iconst C (x := nI 1) rfl dX7_rarityOf_15 ?_
  refine cg_icmp_le C 29 (by decide) dX7_rarityOf_16 (fun c_ => ?_) (fun c_ => ?_)
  · have h := h.1 c_
    refine cg_iload_n C (i := 2) rfl 0 rfl dX7_rarityOf_29 ?_
    exact cg_iret C h dX7_rarityOf_30 (by decide) (by decide)
  · have h := h.2 c_
    obtain ⟨x2_2, e_x2_2⟩ : ∃ z : Int32, z = x2 + nI 1 := ⟨_, rfl⟩
    have h := h x2_2 e_x2_2
    refine cg_iinc C (lv' := [(2, .int x2_2), (3, .int x3)]) 0 rfl (by rw [e_x2_2]; rfl) (Nat.le_of_ble_eq_true rfl) rfl dX7_rarityOf_19 ?_
    refine cg_iload_n C (i := 3) rfl 1 rfl dX7_rarityOf_22 ?_
    refine cg_iconst C (x := nI 2) rfl dX7_rarityOf_23 ?_
    refine cg_idiv C (by decide) dX7_rarityOf_24 ?_
    refine cg_nmI (fun x3_3 e_x3_3 => ?_)
    have h := h x3_3 e_x3_3
    refine cg_istore_n C (i := 3) (lv' := [(3, .int x3_3), (2, .int x2_2)]) rfl (Nat.le_of_ble_eq_true rfl) rfl dX7_rarityOf_25 ?_
    refine cg_goto C 14 (by decide) dX7_rarityOf_26 ?_
    exact cg_sub [1, 0] rfl (hR14 x2_2 x3_3 S h)
set_option maxRecDepth 20000 in
theorem tl_X7_rarityOf_14 (C : cC p s m args meth c cX7_rarityOf 4 (some .int) A D Y tp dp RX7) {post : Int32 → cS → Prop}   (x2 : Int32) (x3 : Int32) (S : cS) (h : k_X7_rarityOf_14L post dp  x2 x3 S) : cG p l e (cRm 1 0 0 14) s m args below meth c A D Y 4 (MQ below (cQi post D Y A) args s 0 0 A) 0 0 14 [(2, .int x2), (3, .int x3)] [] S :=
  h (fun y => cG p l e (cRm 1 0 0 14) s m args below meth c A D Y 4 (MQ below (cQi post D Y A) args s 0 0 A) 0 0 14 [(2, .int (y.1)), (3, .int (y.2.1))] [] (y.2.2)) (fun y hy => tb_X7_rarityOf_14 C   (fun b0 b1 S z => z) (y.1) (y.2.1) (y.2.2) hy)
end S_X7_rarityOf
set_option maxHeartbeats 1000000 in
set_option maxRecDepth 20000 in
theorem t_X7_rarityOf (l : Launch) (x0 : Int32) (x1 : Int32) (S : cS) (dp : Nat) {P : Int32 → cS → Prop} (h : k_X7_rarityOf P dp x0 x1 S) : cMet (cQi P) l yX7_rarityOf cX7_rarityOf 4 (some .int) 1 0 0 14 [.int x0, .int x1] S dp := by
  intro D Y tp sz
  refine cg_body (by decide +kernel) (Nat.le_of_ble_eq_true rfl) ?_
  intro p e s m args below meth c C
  generalize va_A (cWd Y S) sz = A at C ⊢
  have C : cC p s m args meth c cX7_rarityOf 4 (some .int) A D Y tp dp RX7 := C
  refine cg_lv (lv' := [(0, .int x0), (1, .int x1)]) rfl ?_
  unfold k_X7_rarityOf at h
  refine cg_iconst C (x := nI 1) rfl dX7_rarityOf_0 ?_
  refine cg_istore_n C (i := 2) (lv' := [(2, .int ((nI 1))), (0, .int x0), (1, .int x1)]) rfl (Nat.le_of_ble_eq_true rfl) rfl dX7_rarityOf_1 ?_
  refine cg_iload_n C (i := 0) rfl 1 rfl dX7_rarityOf_2 ?_
  refine cg_iconst C (x := nI 1) rfl dX7_rarityOf_3 ?_
  refine cg_iadd C dX7_rarityOf_4 ?_
  refine cg_iload_n C (i := 1) rfl 2 rfl dX7_rarityOf_5 ?_
  refine cg_iconst C (x := nI 0) rfl dX7_rarityOf_6 ?_
  refine cg_mmax C cmmax_X7_215 cmmax_s cmm_i cmmax_c (Nat.le_of_ble_eq_true rfl) (Nat.le_of_ble_eq_true rfl) (by decide) (by decide) dX7_rarityOf_7 ?_
  refine cg_iconst C (x := nI 1) rfl dX7_rarityOf_10 ?_
  refine cg_iadd C dX7_rarityOf_11 ?_
  obtain ⟨hc_12, h⟩ := h
  refine cg_idiv C hc_12 dX7_rarityOf_12 ?_
  refine cg_nmI (fun x3_1 e_x3_1 => ?_)
  have h := h x3_1 e_x3_1
  refine cg_istore_n C (i := 3) (lv' := [(3, .int x3_1), (2, .int ((nI 1))), (0, .int x0), (1, .int x1)]) rfl (Nat.le_of_ble_eq_true rfl) rfl dX7_rarityOf_13 ?_
  exact cg_sub [1, 0] rfl (tl_X7_rarityOf_14 C   (((nI 1))) x3_1 S h)
def k_X7_readRarities_55 (Q : cS → Prop) (dp : Nat) (R8 : Nat → Nat → Nat → Int32 → Int32 → cS → Prop) (R55 : Nat → Nat → Nat → Int32 → Int32 → Nat → Int32 → cS → Prop) (x0 : Nat) (x1 : Nat) (x2 : Nat) (x3 : Int32) (x4 : Int32) (x5 : Nat) (x6 : Int32) (S : cS) : Prop :=
cA S x5 4 ∧ (k_X4_tokenCount (fun r_9 S_9 => 
((r_9 ≤ x6 →
  ∀ x4_10 : Int32, x4_10 = x4 + nI 1 → R8 x0 x1 x2 x3 x4_10 S_9) ∧
 (¬ r_9 ≤ x6 →
  cA S_9 x0 7 ∧ ((∃ b11 : Nat, cr S_9 229 x0 = some b11 ∧ (cX S_9 b11 14 x4 ∧ (cA S_9 x5 4 ∧ (cA S_9 x5 4 ∧ (k_X4_tokenAt (fun r_12 S_12 => 
  cA S_12 x0 7 ∧ (k_X7_readCount (fun r_13 S_13 => 
  k_X7_rarityOf (fun r_14 S_14 => 
  cX S_14 b11 14 x4 ∧ (∀ S15 : cS, S15 = cSI S_14 b11 (x4).toNatClampNeg ((((cI S_9 b11 (x4).toNatClampNeg)) + r_14)) → ∀ x6_16 : Int32, x6_16 = x6 + nI 1 → R55 x0 x1 x2 x3 x4 x5 x6_16 S15)) dp x3 r_13 S_13) dp x0 x2 ((ci S_9 129 x5)) r_12 S_12)) dp x5 x6 S_9))))))))) dp x5 S)
def k_X7_readRarities_55L (Q : cS → Prop) (dp : Nat) (R8 : Nat → Nat → Nat → Int32 → Int32 → cS → Prop) (x0 : Nat) (x1 : Nat) (x2 : Nat) (x3 : Int32) (x4 : Int32) (x5 : Nat) (x6 : Int32) (S : cS) : Prop :=
  lfp (X := Nat × Nat × Nat × Int32 × Int32 × Nat × Int32 × cS) (fun P y => k_X7_readRarities_55 Q dp R8 (fun b0 b1 b2 b3 b4 b5 b6 S => P (b0, b1, b2, b3, b4, b5, b6, S)) y.1 y.2.1 y.2.2.1 y.2.2.2.1 y.2.2.2.2.1 y.2.2.2.2.2.1 y.2.2.2.2.2.2.1 y.2.2.2.2.2.2.2) (x0, x1, x2, x3, x4, x5, x6, S)
def k_X7_readRarities_8 (Q : cS → Prop) (dp : Nat) (R8 : Nat → Nat → Nat → Int32 → Int32 → cS → Prop) (x0 : Nat) (x1 : Nat) (x2 : Nat) (x3 : Int32) (x4 : Int32) (S : cS) : Prop :=
cA S x1 6 ∧ ((∃ b2 : Nat, cr S 193 x1 = some b2 ∧ (cA S b2 12 ∧ (k_Jx4a65c_size_8abf5 (fun r_3 S_3 => 
((r_3 ≤ x4 →
  Q S_3) ∧
 (¬ r_3 ≤ x4 →
  cA S_3 x0 7 ∧ ((∃ b4 : Nat, cr S_3 229 x0 = some b4 ∧ (cA S_3 b4 14 ∧ (((((nI (cn S_3 b4))) ≤ x4 →
    Q S_3) ∧
   (¬ ((nI (cn S_3 b4))) ≤ x4 →
    cA S_3 x1 6 ∧ ((∃ b5 : Nat, cr S_3 193 x1 = some b5 ∧ (cA S_3 b5 12 ∧ (k_Jx4a65c_get_915e3 (fun r_6 S_6 => 
    cA S_6 r_6 4 ∧ (cA S_6 x0 7 ∧ ((∃ b7 : Nat, cr S_6 229 x0 = some b7 ∧ (cX S_6 b7 14 x4 ∧ (∀ S8 : cS, S8 = cSI S_6 b7 (x4).toNatClampNeg ((nI 0)) → k_X7_readRarities_55L Q dp R8 x0 x1 x2 x3 x4 r_6 (((nI 0))) S8)))))) dp b5 x4 S_3))))))))))))) dp b2 S))))
def k_X7_readRarities_8L (Q : cS → Prop) (dp : Nat)  (x0 : Nat) (x1 : Nat) (x2 : Nat) (x3 : Int32) (x4 : Int32) (S : cS) : Prop :=
  lfp (X := Nat × Nat × Nat × Int32 × Int32 × cS) (fun P y => k_X7_readRarities_8 Q dp  (fun b0 b1 b2 b3 b4 S => P (b0, b1, b2, b3, b4, S)) y.1 y.2.1 y.2.2.1 y.2.2.2.1 y.2.2.2.2.1 y.2.2.2.2.2) (x0, x1, x2, x3, x4, S)
def k_X7_readRarities (Q : cS → Prop) (dp : Nat) (x0 : Nat) (x1 : Nat) (x2 : Nat) (S : cS) : Prop :=
cA S x2 10 ∧ (k_X10_liveCount (fun r_1 S_1 => 
k_X7_readRarities_8L Q dp  x0 x1 x2 r_1 (((nI 0))) S_1) dp x2 S)
section S_X7_readRarities
variable {p : Program} {l : Launch} {e : Env} {s : State} {m : MethodId} {args : Array Value} {below : List Frame} {meth : Method} {c : Code} {A : Nat → Prop} {D : va_G} {Y : cY} {tp dp : Nat}
set_option maxRecDepth 20000 in
theorem tb_X7_readRarities_55 (C : cC p s m args meth c cX7_readRarities 7 none A D Y tp dp RX7) {post : cS → Prop} {R8 : Nat → Nat → Nat → Int32 → Int32 → cS → Prop} {R55 : Nat → Nat → Nat → Int32 → Int32 → Nat → Int32 → cS → Prop} (hR8 : ∀ (x0 : Nat) (x1 : Nat) (x2 : Nat) (x3 : Int32) (x4 : Int32) (S : cS), R8 x0 x1 x2 x3 x4 S → cG p l e (cRm 6 0 0 142) s m args below meth c A D Y 7 (MQ below (cQv post D Y A) args s 0 0 A) 0 0 8 [(0, .ref x0), (1, .ref x1), (2, .ref x2), (3, .int x3), (4, .int x4)] [] S) (hR55 : ∀ (x0 : Nat) (x1 : Nat) (x2 : Nat) (x3 : Int32) (x4 : Int32) (x5 : Nat) (x6 : Int32) (S : cS), R55 x0 x1 x2 x3 x4 x5 x6 S → cG p l e (cRm 6 0 0 142) s m args below meth c A D Y 7 (MQ below (cQv post D Y A) args s 0 0 A) 0 0 55 [(0, .ref x0), (1, .ref x1), (2, .ref x2), (3, .int x3), (4, .int x4), (5, .ref x5), (6, .int x6)] [] S) (x0 : Nat) (x1 : Nat) (x2 : Nat) (x3 : Int32) (x4 : Int32) (x5 : Nat) (x6 : Int32) (S : cS) (h : k_X7_readRarities_55 post dp R8 R55 x0 x1 x2 x3 x4 x5 x6 S) : cG p l e (cRm 6 0 0 142) s m args below meth c A D Y 7 (MQ below (cQv post D Y A) args s 0 0 A) 0 0 55 [(0, .ref x0), (1, .ref x1), (2, .ref x2), (3, .int x3), (4, .int x4), (5, .ref x5), (6, .int x6)] [] S := by
  unfold k_X7_readRarities_55 at h
  refine cg_iload C 6 rfl dX7_readRarities_55 ?_
  refine cg_aload C 5 rfl dX7_readRarities_57 ?_
  obtain ⟨hc_59, h⟩ := h
  refine cg_calli C (t_X4_tokenCount l x5 S dp h) cc_X7_58 hc_59.1 hc_59.2 (by decide) rfl rfl ⟨by decide, by decide⟩ ⟨by decide, by decide⟩ rfl (Nat.le_of_ble_eq_true rfl) dX7_readRarities_59 (fun r_9 S_9 h => ?_)
  refine cg_icmp_ge C 102 (by decide) dX7_readRarities_62 (fun c_ => ?_) (fun c_ => ?_)
  · have h := h.1 c_
    obtain ⟨x4_10, e_x4_10⟩ : ∃ z : Int32, z = x4 + nI 1 := ⟨_, rfl⟩
    have h := h x4_10 e_x4_10
    refine cg_iinc C (lv' := [(4, .int x4_10), (0, .ref x0), (1, .ref x1), (2, .ref x2), (3, .int x3), (5, .ref x5), (6, .int x6)]) 4 rfl (by rw [e_x4_10]; rfl) (Nat.le_of_ble_eq_true rfl) rfl dX7_readRarities_102 ?_
    refine cg_goto C 8 (by decide) dX7_readRarities_105 ?_
    exact cg_sub [1, 2, 3, 4, 0] rfl (hR8 x0 x1 x2 x3 x4_10 S_9 h)
  · have h := h.2 c_
    refine cg_aload_n C (i := 0) rfl 0 rfl dX7_readRarities_65 ?_
    obtain ⟨hc_66, h⟩ := h
    obtain ⟨b11, hb_b11, h⟩ := h
    refine cg_get C (k := 7) (j := 5) (.ref b11) hc_66.1 hc_66.2 (by decide) rfl (by decide) rfl (show cV _ 7 5 x0 = _ from congrArg va_rf hb_b11) cWs_wsX70 cl_X7_29 rfl dX7_readRarities_66 ?_
    refine cg_iload C 4 rfl dX7_readRarities_69 ?_
    refine cg_dup2 C rfl rfl dX7_readRarities_71 ?_
    obtain ⟨hc_72, h⟩ := h
    refine cg_ialoadR C hc_72 dX7_readRarities_72 ?_
    refine cg_iload_n C (i := 3) rfl 3 rfl dX7_readRarities_73 ?_
    refine cg_aload_n C (i := 0) rfl 0 rfl dX7_readRarities_74 ?_
    refine cg_aload_n C (i := 2) rfl 2 rfl dX7_readRarities_75 ?_
    refine cg_aload C 5 rfl dX7_readRarities_76 ?_
    obtain ⟨hc_78, h⟩ := h
    refine cg_get C (k := 4) (j := 1) (.int (ci S_9 129 x5)) hc_78.1 hc_78.2 (by decide) rfl (by decide) rfl rfl cWs_wsX40 cl_X7_61 rfl dX7_readRarities_78 ?_
    refine cg_aload C 5 rfl dX7_readRarities_81 ?_
    refine cg_iload C 6 rfl dX7_readRarities_83 ?_
    obtain ⟨hc_85, h⟩ := h
    refine cg_calll C (t_X4_tokenAt l x5 x6 S_9 dp h) cc_X7_65 hc_85.1 hc_85.2 (by decide) rfl rfl ⟨by decide, by decide⟩ ⟨by decide, by decide⟩ rfl (Nat.le_of_ble_eq_true rfl) dX7_readRarities_85 (fun r_12 S_12 h => ?_)
    obtain ⟨hc_88, h⟩ := h
    refine cg_calli C (t_X7_readCount l x0 x2 ((ci S_9 129 x5)) r_12 S_12 dp h) cc_X7_69 hc_88.1 hc_88.2 (by decide) rfl rfl ⟨by decide, by decide⟩ ⟨by decide, by decide⟩ rfl (Nat.le_of_ble_eq_true rfl) dX7_readRarities_88 (fun r_13 S_13 h => ?_)
    refine cg_callsi C (t_X7_rarityOf l x3 r_13 S_13 dp h) cc_X7_73 rfl ⟨by decide, by decide⟩ ⟨by decide, by decide⟩ rfl (Nat.le_of_ble_eq_true rfl) dX7_readRarities_91 (fun r_14 S_14 h => ?_)
    refine cg_iadd C dX7_readRarities_94 ?_
    obtain ⟨hc_95, h⟩ := h
    refine cg_iastoreR C hc_95 dX7_readRarities_95 ?_
    refine cg_nm (fun S15 e_S15 => ?_)
    have h := h S15 e_S15
    obtain ⟨x6_16, e_x6_16⟩ : ∃ z : Int32, z = x6 + nI 1 := ⟨_, rfl⟩
    have h := h x6_16 e_x6_16
    refine cg_iinc C (lv' := [(6, .int x6_16), (0, .ref x0), (1, .ref x1), (2, .ref x2), (3, .int x3), (4, .int x4), (5, .ref x5)]) 6 rfl (by rw [e_x6_16]; rfl) (Nat.le_of_ble_eq_true rfl) rfl dX7_readRarities_96 ?_
    refine cg_goto C 55 (by decide) dX7_readRarities_99 ?_
    exact cg_sub [1, 2, 3, 4, 5, 6, 0] rfl (hR55 x0 x1 x2 x3 x4 x5 x6_16 S15 h)
set_option maxRecDepth 20000 in
theorem tl_X7_readRarities_55 (C : cC p s m args meth c cX7_readRarities 7 none A D Y tp dp RX7) {post : cS → Prop} {R8 : Nat → Nat → Nat → Int32 → Int32 → cS → Prop} (hR8 : ∀ (x0 : Nat) (x1 : Nat) (x2 : Nat) (x3 : Int32) (x4 : Int32) (S : cS), R8 x0 x1 x2 x3 x4 S → cG p l e (cRm 6 0 0 142) s m args below meth c A D Y 7 (MQ below (cQv post D Y A) args s 0 0 A) 0 0 8 [(0, .ref x0), (1, .ref x1), (2, .ref x2), (3, .int x3), (4, .int x4)] [] S) (x0 : Nat) (x1 : Nat) (x2 : Nat) (x3 : Int32) (x4 : Int32) (x5 : Nat) (x6 : Int32) (S : cS) (h : k_X7_readRarities_55L post dp R8 x0 x1 x2 x3 x4 x5 x6 S) : cG p l e (cRm 6 0 0 142) s m args below meth c A D Y 7 (MQ below (cQv post D Y A) args s 0 0 A) 0 0 55 [(0, .ref x0), (1, .ref x1), (2, .ref x2), (3, .int x3), (4, .int x4), (5, .ref x5), (6, .int x6)] [] S :=
  h (fun y => cG p l e (cRm 6 0 0 142) s m args below meth c A D Y 7 (MQ below (cQv post D Y A) args s 0 0 A) 0 0 55 [(0, .ref (y.1)), (1, .ref (y.2.1)), (2, .ref (y.2.2.1)), (3, .int (y.2.2.2.1)), (4, .int (y.2.2.2.2.1)), (5, .ref (y.2.2.2.2.2.1)), (6, .int (y.2.2.2.2.2.2.1))] [] (y.2.2.2.2.2.2.2)) (fun y hy => tb_X7_readRarities_55 C  hR8 (fun b0 b1 b2 b3 b4 b5 b6 S z => z) (y.1) (y.2.1) (y.2.2.1) (y.2.2.2.1) (y.2.2.2.2.1) (y.2.2.2.2.2.1) (y.2.2.2.2.2.2.1) (y.2.2.2.2.2.2.2) hy)
set_option maxRecDepth 20000 in
theorem tb_X7_readRarities_8 (C : cC p s m args meth c cX7_readRarities 7 none A D Y tp dp RX7) {post : cS → Prop} {R8 : Nat → Nat → Nat → Int32 → Int32 → cS → Prop} (hR8 : ∀ (x0 : Nat) (x1 : Nat) (x2 : Nat) (x3 : Int32) (x4 : Int32) (S : cS), R8 x0 x1 x2 x3 x4 S → cG p l e (cRm 6 0 0 142) s m args below meth c A D Y 7 (MQ below (cQv post D Y A) args s 0 0 A) 0 0 8 [(0, .ref x0), (1, .ref x1), (2, .ref x2), (3, .int x3), (4, .int x4)] [] S) (x0 : Nat) (x1 : Nat) (x2 : Nat) (x3 : Int32) (x4 : Int32) (S : cS) (h : k_X7_readRarities_8 post dp R8 x0 x1 x2 x3 x4 S) : cG p l e (cRm 6 0 0 142) s m args below meth c A D Y 7 (MQ below (cQv post D Y A) args s 0 0 A) 0 0 8 [(0, .ref x0), (1, .ref x1), (2, .ref x2), (3, .int x3), (4, .int x4)] [] S := by
  unfold k_X7_readRarities_8 at h
  refine cg_iload C 4 rfl dX7_readRarities_8 ?_
  refine cg_aload_n C (i := 1) rfl 1 rfl dX7_readRarities_10 ?_
  obtain ⟨hc_11, h⟩ := h
  obtain ⟨b2, hb_b2, h⟩ := h
  refine cg_get C (k := 6) (j := 1) (.ref b2) hc_11.1 hc_11.2 (by decide) rfl (by decide) rfl (show cV _ 6 1 x1 = _ from congrArg va_rf hb_b2) cWs_wsX60 cl_X7_41 rfl dX7_readRarities_11 ?_
  obtain ⟨hc_14, h⟩ := h
  refine cg_calli C (t_Jx4a65c_size_8abf5 l b2 S dp h) cc_X7_47 hc_14.1 hc_14.2 (by decide) rfl rfl ⟨by decide, by decide⟩ ⟨by decide, by decide⟩ rfl (Nat.le_of_ble_eq_true rfl) dX7_readRarities_14 (fun r_3 S_3 h => ?_)
  refine cg_icmp_ge C 108 (by decide) dX7_readRarities_17 (fun c_ => ?_) (fun c_ => ?_)
  · have h := h.1 c_
    exact cg_vret C h dX7_readRarities_108 (by decide) (by decide)
  · have h := h.2 c_
    refine cg_iload C 4 rfl dX7_readRarities_20 ?_
    refine cg_aload_n C (i := 0) rfl 0 rfl dX7_readRarities_22 ?_
    obtain ⟨hc_23, h⟩ := h
    obtain ⟨b4, hb_b4, h⟩ := h
    refine cg_get C (k := 7) (j := 5) (.ref b4) hc_23.1 hc_23.2 (by decide) rfl (by decide) rfl (show cV _ 7 5 x0 = _ from congrArg va_rf hb_b4) cWs_wsX70 cl_X7_29 rfl dX7_readRarities_23 ?_
    obtain ⟨hc_26, h⟩ := h
    refine cg_alen C hc_26.1 hc_26.2 (by decide) (by decide) dX7_readRarities_26 ?_
    refine cg_icmp_ge C 108 (by decide) dX7_readRarities_27 (fun c_ => ?_) (fun c_ => ?_)
    · have h := h.1 c_
      exact cg_vret C h dX7_readRarities_108 (by decide) (by decide)
    · have h := h.2 c_
      refine cg_aload_n C (i := 1) rfl 1 rfl dX7_readRarities_30 ?_
      obtain ⟨hc_31, h⟩ := h
      obtain ⟨b5, hb_b5, h⟩ := h
      refine cg_get C (k := 6) (j := 1) (.ref b5) hc_31.1 hc_31.2 (by decide) rfl (by decide) rfl (show cV _ 6 1 x1 = _ from congrArg va_rf hb_b5) cWs_wsX60 cl_X7_41 rfl dX7_readRarities_31 ?_
      refine cg_iload C 4 rfl dX7_readRarities_34 ?_
      obtain ⟨hc_36, h⟩ := h
      refine cg_callr C (t_Jx4a65c_get_915e3 l b5 x4 S_3 dp h) cc_X7_52 hc_36.1 hc_36.2 (by decide) rfl rfl ⟨by decide, by decide⟩ ⟨by decide, by decide⟩ rfl (Nat.le_of_ble_eq_true rfl) dX7_readRarities_36 (fun r_6 S_6 h => ?_)
      obtain ⟨hc_39, h⟩ := h
      refine cg_ccast C (k := 4) hc_39.1 hc_39.2 (by decide) rfl cnc_X7_56 dX7_readRarities_39 ?_
      refine cg_astore (lv' := [(5, .ref r_6), (0, .ref x0), (1, .ref x1), (2, .ref x2), (3, .int x3), (4, .int x4)]) C (Nat.le_of_ble_eq_true rfl) rfl dX7_readRarities_42 ?_
      refine cg_aload_n C (i := 0) rfl 1 rfl dX7_readRarities_44 ?_
      obtain ⟨hc_45, h⟩ := h
      obtain ⟨b7, hb_b7, h⟩ := h
      refine cg_get C (k := 7) (j := 5) (.ref b7) hc_45.1 hc_45.2 (by decide) rfl (by decide) rfl (show cV _ 7 5 x0 = _ from congrArg va_rf hb_b7) cWs_wsX70 cl_X7_29 rfl dX7_readRarities_45 ?_
      refine cg_iload C 5 rfl dX7_readRarities_48 ?_
      refine cg_iconst C (x := nI 0) rfl dX7_readRarities_50 ?_
      obtain ⟨hc_51, h⟩ := h
      refine cg_iastoreR C hc_51 dX7_readRarities_51 ?_
      refine cg_nm (fun S8 e_S8 => ?_)
      have h := h S8 e_S8
      refine cg_iconst C (x := nI 0) rfl dX7_readRarities_52 ?_
      refine cg_istore C (lv' := [(6, .int ((nI 0))), (5, .ref r_6), (0, .ref x0), (1, .ref x1), (2, .ref x2), (3, .int x3), (4, .int x4)]) (Nat.le_of_ble_eq_true rfl) rfl dX7_readRarities_53 ?_
      exact cg_sub [2, 3, 4, 5, 6, 1, 0] rfl (tl_X7_readRarities_55 C  hR8 x0 x1 x2 x3 x4 r_6 (((nI 0))) S8 h)
set_option maxRecDepth 20000 in
theorem tl_X7_readRarities_8 (C : cC p s m args meth c cX7_readRarities 7 none A D Y tp dp RX7) {post : cS → Prop}   (x0 : Nat) (x1 : Nat) (x2 : Nat) (x3 : Int32) (x4 : Int32) (S : cS) (h : k_X7_readRarities_8L post dp  x0 x1 x2 x3 x4 S) : cG p l e (cRm 6 0 0 142) s m args below meth c A D Y 7 (MQ below (cQv post D Y A) args s 0 0 A) 0 0 8 [(0, .ref x0), (1, .ref x1), (2, .ref x2), (3, .int x3), (4, .int x4)] [] S :=
  h (fun y => cG p l e (cRm 6 0 0 142) s m args below meth c A D Y 7 (MQ below (cQv post D Y A) args s 0 0 A) 0 0 8 [(0, .ref (y.1)), (1, .ref (y.2.1)), (2, .ref (y.2.2.1)), (3, .int (y.2.2.2.1)), (4, .int (y.2.2.2.2.1))] [] (y.2.2.2.2.2)) (fun y hy => tb_X7_readRarities_8 C   (fun b0 b1 b2 b3 b4 S z => z) (y.1) (y.2.1) (y.2.2.1) (y.2.2.2.1) (y.2.2.2.2.1) (y.2.2.2.2.2) hy)
end S_X7_readRarities
set_option maxHeartbeats 1000000 in
set_option maxRecDepth 20000 in
theorem t_X7_readRarities (l : Launch) (x0 : Nat) (x1 : Nat) (x2 : Nat) (S : cS) (dp : Nat) {P : cS → Prop} (h : k_X7_readRarities P dp x0 x1 x2 S) : cMet (cQv P) l yX7_readRarities cX7_readRarities 7 none 6 0 0 142 [.ref x0, .ref x1, .ref x2] S dp := by
  intro D Y tp sz
  refine cg_body (by decide +kernel) (Nat.le_of_ble_eq_true rfl) ?_
  intro p e s m args below meth c C
  generalize va_A (cWd Y S) sz = A at C ⊢
  have C : cC p s m args meth c cX7_readRarities 7 none A D Y tp dp RX7 := C
  refine cg_lv (lv' := [(0, .ref x0), (1, .ref x1), (2, .ref x2)]) rfl ?_
  unfold k_X7_readRarities at h
  refine cg_aload_n C (i := 2) rfl 2 rfl dX7_readRarities_0 ?_
  obtain ⟨hc_1, h⟩ := h
  refine cg_calli C (t_X10_liveCount l x2 S dp h) cc_X7_35 hc_1.1 hc_1.2 (by decide) rfl rfl ⟨by decide, by decide⟩ ⟨by decide, by decide⟩ rfl (Nat.le_of_ble_eq_true rfl) dX7_readRarities_1 (fun r_1 S_1 h => ?_)
  refine cg_istore_n C (i := 3) (lv' := [(3, .int r_1), (0, .ref x0), (1, .ref x1), (2, .ref x2)]) rfl (Nat.le_of_ble_eq_true rfl) rfl dX7_readRarities_4 ?_
  refine cg_iconst C (x := nI 0) rfl dX7_readRarities_5 ?_
  refine cg_istore C (lv' := [(4, .int ((nI 0))), (3, .int r_1), (0, .ref x0), (1, .ref x1), (2, .ref x2)]) (Nat.le_of_ble_eq_true rfl) rfl dX7_readRarities_6 ?_
  exact cg_sub [2, 3, 4, 1, 0] rfl (tl_X7_readRarities_8 C   x0 x1 x2 r_1 (((nI 0))) S_1 h)
def k_X4_isCounted (Q : Int32 → cS → Prop) (dp : Nat) (x0 : Nat) (S : cS) : Prop :=
cA S x0 4 ∧ (((((nI 2)) ≤ ((ci S 128 x0)) →
  Q ((bI false)) S) ∧
 (¬ ((nI 2)) ≤ ((ci S 128 x0)) →
  Q ((bI true)) S)))
set_option maxHeartbeats 1000000 in
set_option maxRecDepth 20000 in
theorem t_X4_isCounted (l : Launch) (x0 : Nat) (S : cS) (dp : Nat) {P : Int32 → cS → Prop} (h : k_X4_isCounted P dp x0 S) : cMet (cQi P) l yX4_isCounted cX4_isCounted 1 (some .boolean) 0 0 0 0 [.ref x0] S dp := by
  intro D Y tp sz
  refine cg_body (by decide +kernel) (Nat.le_of_ble_eq_true rfl) ?_
  intro p e s m args below meth c C
  generalize va_A (cWd Y S) sz = A at C ⊢
  have C : cC p s m args meth c cX4_isCounted 1 (some .boolean) A D Y tp dp RX4 := C
  refine cg_lv (lv' := [(0, .ref x0)]) rfl ?_
  unfold k_X4_isCounted at h
  refine cg_aload_n C (i := 0) rfl 0 rfl dX4_isCounted_0 ?_
  obtain ⟨hc_1, h⟩ := h
  refine cg_get C (k := 4) (j := 0) (.int (ci S 128 x0)) hc_1.1 hc_1.2 (by decide) rfl (by decide) rfl rfl cWs_wsX40 cl_X4_40 rfl dX4_isCounted_1 ?_
  refine cg_iconst C (x := nI 2) rfl dX4_isCounted_4 ?_
  refine cg_icmp_ge C 12 (by decide) dX4_isCounted_5 (fun c_ => ?_) (fun c_ => ?_)
  · have h := h.1 c_
    refine cg_iconst C (x := nI 0) rfl dX4_isCounted_12 ?_
    refine cg_cast (.int (bI false)) rfl ?_
    exact cg_zret C (bI_nar _) h dX4_isCounted_13 (by decide) (by decide)
  · have h := h.2 c_
    refine cg_iconst C (x := nI 1) rfl dX4_isCounted_8 ?_
    refine cg_goto C 13 (by decide) dX4_isCounted_9 ?_
    refine cg_cast (.int (bI true)) rfl ?_
    exact cg_zret C (bI_nar _) h dX4_isCounted_13 (by decide) (by decide)
def k_X8_size (Q : Int32 → cS → Prop) (dp : Nat) (x0 : Nat) (S : cS) : Prop :=
cA S x0 8 ∧ ((∃ b1 : Nat, cr S 257 x0 = some b1 ∧ (cA S b1 12 ∧ (k_Jx4a65c_size_8abf5 (fun r_2 S_2 => 
Q r_2 S_2) dp b1 S))))
set_option maxHeartbeats 1000000 in
set_option maxRecDepth 20000 in
theorem t_X8_size (l : Launch) (x0 : Nat) (S : cS) (dp : Nat) {P : Int32 → cS → Prop} (h : k_X8_size P dp x0 S) : cMet (cQi P) l yX8_size cX8_size 1 (some .int) 1 0 0 20 [.ref x0] S dp := by
  intro D Y tp sz
  refine cg_body (by decide +kernel) (Nat.le_of_ble_eq_true rfl) ?_
  intro p e s m args below meth c C
  generalize va_A (cWd Y S) sz = A at C ⊢
  have C : cC p s m args meth c cX8_size 1 (some .int) A D Y tp dp RX8 := C
  refine cg_lv (lv' := [(0, .ref x0)]) rfl ?_
  unfold k_X8_size at h
  refine cg_aload_n C (i := 0) rfl 0 rfl dX8_size_0 ?_
  obtain ⟨hc_1, h⟩ := h
  obtain ⟨b1, hb_b1, h⟩ := h
  refine cg_get C (k := 8) (j := 1) (.ref b1) hc_1.1 hc_1.2 (by decide) rfl (by decide) rfl (show cV _ 8 1 x0 = _ from congrArg va_rf hb_b1) cWs_wsX80 cl_X8_10 rfl dX8_size_1 ?_
  obtain ⟨hc_4, h⟩ := h
  refine cg_calli C (t_Jx4a65c_size_8abf5 l b1 S dp h) cc_X8_26 hc_4.1 hc_4.2 (by decide) rfl rfl ⟨by decide, by decide⟩ ⟨by decide, by decide⟩ rfl (Nat.le_of_ble_eq_true rfl) dX8_size_4 (fun r_2 S_2 h => ?_)
  exact cg_iret C h dX8_size_7 (by decide) (by decide)
def k_X4_hasNeighbour_55 (Q : Int32 → cS → Prop) (dp : Nat) (R2 : Nat → Int32 → Int32 → Int32 → cS → Prop) (x0 : Nat) (x1 : Int32) (x2 : Int32) (x3 : Int32) (S : cS) : Prop :=
∀ x3_1 : Int32, x3_1 = x3 + nI 1 → R2 x0 x1 x2 x3_1 S
def k_X4_hasNeighbour_30 (Q : Int32 → cS → Prop) (dp : Nat) (R2 : Nat → Int32 → Int32 → Int32 → cS → Prop) (x0 : Nat) (x1 : Int32) (x2 : Int32) (x3 : Int32) (S : cS) : Prop :=
cA S x0 4 ∧ (((¬ ((ci S 131 x0)) = 0 →
  k_X4_hasNeighbour_55 Q dp R2 x0 x1 x2 x3 S) ∧
 (((ci S 131 x0)) = 0 →
  ((((x2 - x3)) < 0 →
    k_X4_hasNeighbour_55 Q dp R2 x0 x1 x2 x3 S) ∧
   (¬ ((x2 - x3)) < 0 →
    ((((((x1 >>> (((x2 - x3)) &&& 31))) &&& ((nI 1)))) = 0 →
      k_X4_hasNeighbour_55 Q dp R2 x0 x1 x2 x3 S) ∧
     (¬ ((((x1 >>> (((x2 - x3)) &&& 31))) &&& ((nI 1)))) = 0 →
      Q ((bI true)) S)))))))
def k_X4_hasNeighbour_2 (Q : Int32 → cS → Prop) (dp : Nat) (R2 : Nat → Int32 → Int32 → Int32 → cS → Prop) (x0 : Nat) (x1 : Int32) (x2 : Int32) (x3 : Int32) (S : cS) : Prop :=
cA S x0 4 ∧ (((((ci S 130 x0)) < x3 →
  Q ((bI false)) S) ∧
 (¬ ((ci S 130 x0)) < x3 →
  ((((nI 20)) ≤ ((x2 + x3)) →
    k_X4_hasNeighbour_30 Q dp R2 x0 x1 x2 x3 S) ∧
   (¬ ((nI 20)) ≤ ((x2 + x3)) →
    ((((((x1 >>> (((x2 + x3)) &&& 31))) &&& ((nI 1)))) = 0 →
      k_X4_hasNeighbour_30 Q dp R2 x0 x1 x2 x3 S) ∧
     (¬ ((((x1 >>> (((x2 + x3)) &&& 31))) &&& ((nI 1)))) = 0 →
      Q ((bI true)) S)))))))
def k_X4_hasNeighbour_2L (Q : Int32 → cS → Prop) (dp : Nat)  (x0 : Nat) (x1 : Int32) (x2 : Int32) (x3 : Int32) (S : cS) : Prop :=
  lfp (X := Nat × Int32 × Int32 × Int32 × cS) (fun P y => k_X4_hasNeighbour_2 Q dp  (fun b0 b1 b2 b3 S => P (b0, b1, b2, b3, S)) y.1 y.2.1 y.2.2.1 y.2.2.2.1 y.2.2.2.2) (x0, x1, x2, x3, S)
def k_X4_hasNeighbour (Q : Int32 → cS → Prop) (dp : Nat) (x0 : Nat) (x1 : Int32) (x2 : Int32) (S : cS) : Prop :=
k_X4_hasNeighbour_2L Q dp  x0 x1 x2 (((nI 1))) S
section S_X4_hasNeighbour
variable {p : Program} {l : Launch} {e : Env} {s : State} {m : MethodId} {args : Array Value} {below : List Frame} {meth : Method} {c : Code} {A : Nat → Prop} {D : va_G} {Y : cY} {tp dp : Nat}
set_option maxRecDepth 20000 in
theorem tb_X4_hasNeighbour_55 (C : cC p s m args meth c cX4_hasNeighbour 4 (some .boolean) A D Y tp dp RX4) {post : Int32 → cS → Prop} {R2 : Nat → Int32 → Int32 → Int32 → cS → Prop} (hR2 : ∀ (x0 : Nat) (x1 : Int32) (x2 : Int32) (x3 : Int32) (S : cS), R2 x0 x1 x2 x3 S → cG p l e (cRm 0 0 0 0) s m args below meth c A D Y 4 (MQ below (cQi post D Y A) args s 0 0 A) 0 0 2 [(0, .ref x0), (1, .int x1), (2, .int x2), (3, .int x3)] [] S) (x0 : Nat) (x1 : Int32) (x2 : Int32) (x3 : Int32) (S : cS) (h : k_X4_hasNeighbour_55 post dp R2 x0 x1 x2 x3 S) : cG p l e (cRm 0 0 0 0) s m args below meth c A D Y 4 (MQ below (cQi post D Y A) args s 0 0 A) 0 0 55 [(0, .ref x0), (1, .int x1), (2, .int x2), (3, .int x3)] [] S := by
  unfold k_X4_hasNeighbour_55 at h
  obtain ⟨x3_1, e_x3_1⟩ : ∃ z : Int32, z = x3 + nI 1 := ⟨_, rfl⟩
  have h := h x3_1 e_x3_1
  refine cg_iinc C (lv' := [(3, .int x3_1), (0, .ref x0), (1, .int x1), (2, .int x2)]) 3 rfl (by rw [e_x3_1]; rfl) (Nat.le_of_ble_eq_true rfl) rfl dX4_hasNeighbour_55 ?_
  refine cg_goto C 2 (by decide) dX4_hasNeighbour_58 ?_
  exact cg_sub [1, 2, 3, 0] rfl (hR2 x0 x1 x2 x3_1 S h)
set_option maxRecDepth 20000 in
theorem tb_X4_hasNeighbour_30 (C : cC p s m args meth c cX4_hasNeighbour 4 (some .boolean) A D Y tp dp RX4) {post : Int32 → cS → Prop} {R2 : Nat → Int32 → Int32 → Int32 → cS → Prop} (hR2 : ∀ (x0 : Nat) (x1 : Int32) (x2 : Int32) (x3 : Int32) (S : cS), R2 x0 x1 x2 x3 S → cG p l e (cRm 0 0 0 0) s m args below meth c A D Y 4 (MQ below (cQi post D Y A) args s 0 0 A) 0 0 2 [(0, .ref x0), (1, .int x1), (2, .int x2), (3, .int x3)] [] S) (x0 : Nat) (x1 : Int32) (x2 : Int32) (x3 : Int32) (S : cS) (h : k_X4_hasNeighbour_30 post dp R2 x0 x1 x2 x3 S) : cG p l e (cRm 0 0 0 0) s m args below meth c A D Y 4 (MQ below (cQi post D Y A) args s 0 0 A) 0 0 30 [(0, .ref x0), (1, .int x1), (2, .int x2), (3, .int x3)] [] S := by
  unfold k_X4_hasNeighbour_30 at h
  refine cg_aload_n C (i := 0) rfl 0 rfl dX4_hasNeighbour_30 ?_
  obtain ⟨hc_31, h⟩ := h
  refine cg_get C (k := 4) (j := 3) (.int (ci S 131 x0)) hc_31.1 hc_31.2 (by decide) rfl (by decide) rfl rfl cWs_wsX40 cl_X4_9 rfl dX4_hasNeighbour_31 ?_
  refine cg_if_ne C 55 (by decide) dX4_hasNeighbour_34 (fun c_ => ?_) (fun c_ => ?_)
  · have h := h.1 c_
    exact cg_sub [0, 1, 2, 3] rfl (tb_X4_hasNeighbour_55 C  hR2 x0 x1 x2 x3 S h)
  · have h := h.2 c_
    refine cg_iload_n C (i := 2) rfl 2 rfl dX4_hasNeighbour_37 ?_
    refine cg_iload_n C (i := 3) rfl 3 rfl dX4_hasNeighbour_38 ?_
    refine cg_isub C dX4_hasNeighbour_39 ?_
    refine cg_if_lt C 55 (by decide) dX4_hasNeighbour_40 (fun c_ => ?_) (fun c_ => ?_)
    · have h := h.1 c_
      exact cg_sub [0, 1, 2, 3] rfl (tb_X4_hasNeighbour_55 C  hR2 x0 x1 x2 x3 S h)
    · have h := h.2 c_
      refine cg_iload_n C (i := 1) rfl 1 rfl dX4_hasNeighbour_43 ?_
      refine cg_iload_n C (i := 2) rfl 2 rfl dX4_hasNeighbour_44 ?_
      refine cg_iload_n C (i := 3) rfl 3 rfl dX4_hasNeighbour_45 ?_
      refine cg_isub C dX4_hasNeighbour_46 ?_
      refine cg_ishr C dX4_hasNeighbour_47 ?_
      refine cg_iconst C (x := nI 1) rfl dX4_hasNeighbour_48 ?_
      refine cg_iand C dX4_hasNeighbour_49 ?_
      refine cg_if_eq C 55 (by decide) dX4_hasNeighbour_50 (fun c_ => ?_) (fun c_ => ?_)
      · have h := h.1 c_
        exact cg_sub [0, 1, 2, 3] rfl (tb_X4_hasNeighbour_55 C  hR2 x0 x1 x2 x3 S h)
      · have h := h.2 c_
        refine cg_iconst C (x := nI 1) rfl dX4_hasNeighbour_53 ?_
        refine cg_cast (.int (bI true)) rfl ?_
        exact cg_zret C (bI_nar _) h dX4_hasNeighbour_54 (by decide) (by decide)
set_option maxRecDepth 20000 in
theorem tb_X4_hasNeighbour_2 (C : cC p s m args meth c cX4_hasNeighbour 4 (some .boolean) A D Y tp dp RX4) {post : Int32 → cS → Prop} {R2 : Nat → Int32 → Int32 → Int32 → cS → Prop} (hR2 : ∀ (x0 : Nat) (x1 : Int32) (x2 : Int32) (x3 : Int32) (S : cS), R2 x0 x1 x2 x3 S → cG p l e (cRm 0 0 0 0) s m args below meth c A D Y 4 (MQ below (cQi post D Y A) args s 0 0 A) 0 0 2 [(0, .ref x0), (1, .int x1), (2, .int x2), (3, .int x3)] [] S) (x0 : Nat) (x1 : Int32) (x2 : Int32) (x3 : Int32) (S : cS) (h : k_X4_hasNeighbour_2 post dp R2 x0 x1 x2 x3 S) : cG p l e (cRm 0 0 0 0) s m args below meth c A D Y 4 (MQ below (cQi post D Y A) args s 0 0 A) 0 0 2 [(0, .ref x0), (1, .int x1), (2, .int x2), (3, .int x3)] [] S := by
  unfold k_X4_hasNeighbour_2 at h
  refine cg_iload_n C (i := 3) rfl 3 rfl dX4_hasNeighbour_2 ?_
  refine cg_aload_n C (i := 0) rfl 0 rfl dX4_hasNeighbour_3 ?_
  obtain ⟨hc_4, h⟩ := h
  refine cg_get C (k := 4) (j := 2) (.int (ci S 130 x0)) hc_4.1 hc_4.2 (by decide) rfl (by decide) rfl rfl cWs_wsX40 cl_X4_46 rfl dX4_hasNeighbour_4 ?_
  refine cg_icmp_gt C 61 (by decide) dX4_hasNeighbour_7 (fun c_ => ?_) (fun c_ => ?_)
  · have h := h.1 c_
    refine cg_iconst C (x := nI 0) rfl dX4_hasNeighbour_61 ?_
    refine cg_cast (.int (bI false)) rfl ?_
    exact cg_zret C (bI_nar _) h dX4_hasNeighbour_62 (by decide) (by decide)
  · have h := h.2 c_
    refine cg_iload_n C (i := 2) rfl 2 rfl dX4_hasNeighbour_10 ?_
    refine cg_iload_n C (i := 3) rfl 3 rfl dX4_hasNeighbour_11 ?_
    refine cg_iadd C dX4_hasNeighbour_12 ?_
    refine cg_bipush C (x := nI 20) rfl dX4_hasNeighbour_13 ?_
    refine cg_icmp_ge C 30 (by decide) dX4_hasNeighbour_15 (fun c_ => ?_) (fun c_ => ?_)
    · have h := h.1 c_
      exact cg_sub [0, 1, 2, 3] rfl (tb_X4_hasNeighbour_30 C  hR2 x0 x1 x2 x3 S h)
    · have h := h.2 c_
      refine cg_iload_n C (i := 1) rfl 1 rfl dX4_hasNeighbour_18 ?_
      refine cg_iload_n C (i := 2) rfl 2 rfl dX4_hasNeighbour_19 ?_
      refine cg_iload_n C (i := 3) rfl 3 rfl dX4_hasNeighbour_20 ?_
      refine cg_iadd C dX4_hasNeighbour_21 ?_
      refine cg_ishr C dX4_hasNeighbour_22 ?_
      refine cg_iconst C (x := nI 1) rfl dX4_hasNeighbour_23 ?_
      refine cg_iand C dX4_hasNeighbour_24 ?_
      refine cg_if_eq C 30 (by decide) dX4_hasNeighbour_25 (fun c_ => ?_) (fun c_ => ?_)
      · have h := h.1 c_
        exact cg_sub [0, 1, 2, 3] rfl (tb_X4_hasNeighbour_30 C  hR2 x0 x1 x2 x3 S h)
      · have h := h.2 c_
        refine cg_iconst C (x := nI 1) rfl dX4_hasNeighbour_28 ?_
        refine cg_cast (.int (bI true)) rfl ?_
        exact cg_zret C (bI_nar _) h dX4_hasNeighbour_29 (by decide) (by decide)
set_option maxRecDepth 20000 in
theorem tl_X4_hasNeighbour_2 (C : cC p s m args meth c cX4_hasNeighbour 4 (some .boolean) A D Y tp dp RX4) {post : Int32 → cS → Prop}   (x0 : Nat) (x1 : Int32) (x2 : Int32) (x3 : Int32) (S : cS) (h : k_X4_hasNeighbour_2L post dp  x0 x1 x2 x3 S) : cG p l e (cRm 0 0 0 0) s m args below meth c A D Y 4 (MQ below (cQi post D Y A) args s 0 0 A) 0 0 2 [(0, .ref x0), (1, .int x1), (2, .int x2), (3, .int x3)] [] S :=
  h (fun y => cG p l e (cRm 0 0 0 0) s m args below meth c A D Y 4 (MQ below (cQi post D Y A) args s 0 0 A) 0 0 2 [(0, .ref (y.1)), (1, .int (y.2.1)), (2, .int (y.2.2.1)), (3, .int (y.2.2.2.1))] [] (y.2.2.2.2)) (fun y hy => tb_X4_hasNeighbour_2 C   (fun b0 b1 b2 b3 S z => z) (y.1) (y.2.1) (y.2.2.1) (y.2.2.2.1) (y.2.2.2.2) hy)
end S_X4_hasNeighbour
set_option maxHeartbeats 1000000 in
set_option maxRecDepth 20000 in
theorem t_X4_hasNeighbour (l : Launch) (x0 : Nat) (x1 : Int32) (x2 : Int32) (S : cS) (dp : Nat) {P : Int32 → cS → Prop} (h : k_X4_hasNeighbour P dp x0 x1 x2 S) : cMet (cQi P) l yX4_hasNeighbour cX4_hasNeighbour 4 (some .boolean) 0 0 0 0 [.ref x0, .int x1, .int x2] S dp := by
  intro D Y tp sz
  refine cg_body (by decide +kernel) (Nat.le_of_ble_eq_true rfl) ?_
  intro p e s m args below meth c C
  generalize va_A (cWd Y S) sz = A at C ⊢
  have C : cC p s m args meth c cX4_hasNeighbour 4 (some .boolean) A D Y tp dp RX4 := C
  refine cg_lv (lv' := [(0, .ref x0), (1, .int x1), (2, .int x2)]) rfl ?_
  unfold k_X4_hasNeighbour at h
  refine cg_iconst C (x := nI 1) rfl dX4_hasNeighbour_0 ?_
  refine cg_istore_n C (i := 3) (lv' := [(3, .int ((nI 1))), (0, .ref x0), (1, .int x1), (2, .int x2)]) rfl (Nat.le_of_ble_eq_true rfl) rfl dX4_hasNeighbour_1 ?_
  exact cg_sub [1, 2, 3, 0] rfl (tl_X4_hasNeighbour_2 C   x0 x1 x2 (((nI 1))) S h)
def k_X4_placeFrom_6 (Q : Int32 → cS → Prop) (dp : Nat) (R6 : Int32 → Int32 → cS → Prop) (x0 : Int32) (x2 : Int32) (S : cS) : Prop :=
((((nI 20)) ≤ x2 →
  Q (((-1))) S) ∧
 (¬ ((nI 20)) ≤ x2 →
  ((((((x0 >>> (x2 &&& 31))) &&& ((nI 1)))) = 0 →
    ∀ x2_2 : Int32, x2_2 = x2 + nI 1 → R6 x0 x2_2 S) ∧
   (¬ ((((x0 >>> (x2 &&& 31))) &&& ((nI 1)))) = 0 →
    Q x2 S))))
def k_X4_placeFrom_6L (Q : Int32 → cS → Prop) (dp : Nat)  (x0 : Int32) (x2 : Int32) (S : cS) : Prop :=
  lfp (X := Int32 × Int32 × cS) (fun P y => k_X4_placeFrom_6 Q dp  (fun b0 b1 S => P (b0, b1, S)) y.1 y.2.1 y.2.2) (x0, x2, S)
def k_X4_placeFrom (Q : Int32 → cS → Prop) (dp : Nat) (x0 : Int32) (x1 : Int32) (S : cS) : Prop :=
∀ x2_1 : Int32, x2_1 = (if x1 < ((nI 0)) then ((nI 0)) else x1) → k_X4_placeFrom_6L Q dp  x0 x2_1 S
section S_X4_placeFrom
variable {p : Program} {l : Launch} {e : Env} {s : State} {m : MethodId} {args : Array Value} {below : List Frame} {meth : Method} {c : Code} {A : Nat → Prop} {D : va_G} {Y : cY} {tp dp : Nat}
set_option maxRecDepth 20000 in
theorem tb_X4_placeFrom_6 (C : cC p s m args meth c cX4_placeFrom 3 (some .int) A D Y tp dp RX4) {post : Int32 → cS → Prop} {R6 : Int32 → Int32 → cS → Prop} (hR6 : ∀ (x0 : Int32) (x2 : Int32) (S : cS), R6 x0 x2 S → cG p l e (cRm 1 0 0 13) s m args below meth c A D Y 3 (MQ below (cQi post D Y A) args s 0 0 A) 0 0 6 [(0, .int x0), (2, .int x2)] [] S) (x0 : Int32) (x2 : Int32) (S : cS) (h : k_X4_placeFrom_6 post dp R6 x0 x2 S) : cG p l e (cRm 1 0 0 13) s m args below meth c A D Y 3 (MQ below (cQi post D Y A) args s 0 0 A) 0 0 6 [(0, .int x0), (2, .int x2)] [] S := by
  unfold k_X4_placeFrom_6 at h
  refine cg_iload_n C (i := 2) rfl 1 rfl dX4_placeFrom_6 ?_
  refine cg_bipush C (x := nI 20) rfl dX4_placeFrom_7 ?_
  refine cg_icmp_ge C 28 (by decide) dX4_placeFrom_9 (fun c_ => ?_) (fun c_ => ?_)
  · have h := h.1 c_
    refine cg_iconst C (x := (-1)) rfl dX4_placeFrom_28 ?_
    exact cg_iret C h dX4_placeFrom_29 (by decide) (by decide)
  · have h := h.2 c_
    refine cg_iload_n C (i := 0) rfl 0 rfl dX4_placeFrom_12 ?_
    refine cg_iload_n C (i := 2) rfl 1 rfl dX4_placeFrom_13 ?_
    refine cg_ishr C dX4_placeFrom_14 ?_
    refine cg_iconst C (x := nI 1) rfl dX4_placeFrom_15 ?_
    refine cg_iand C dX4_placeFrom_16 ?_
    refine cg_if_eq C 22 (by decide) dX4_placeFrom_17 (fun c_ => ?_) (fun c_ => ?_)
    · have h := h.1 c_
      obtain ⟨x2_2, e_x2_2⟩ : ∃ z : Int32, z = x2 + nI 1 := ⟨_, rfl⟩
      have h := h x2_2 e_x2_2
      refine cg_iinc C (lv' := [(2, .int x2_2), (0, .int x0)]) 1 rfl (by rw [e_x2_2]; rfl) (Nat.le_of_ble_eq_true rfl) rfl dX4_placeFrom_22 ?_
      refine cg_goto C 6 (by decide) dX4_placeFrom_25 ?_
      exact cg_sub [1, 0] rfl (hR6 x0 x2_2 S h)
    · have h := h.2 c_
      refine cg_iload_n C (i := 2) rfl 1 rfl dX4_placeFrom_20 ?_
      exact cg_iret C h dX4_placeFrom_21 (by decide) (by decide)
set_option maxRecDepth 20000 in
theorem tl_X4_placeFrom_6 (C : cC p s m args meth c cX4_placeFrom 3 (some .int) A D Y tp dp RX4) {post : Int32 → cS → Prop}   (x0 : Int32) (x2 : Int32) (S : cS) (h : k_X4_placeFrom_6L post dp  x0 x2 S) : cG p l e (cRm 1 0 0 13) s m args below meth c A D Y 3 (MQ below (cQi post D Y A) args s 0 0 A) 0 0 6 [(0, .int x0), (2, .int x2)] [] S :=
  h (fun y => cG p l e (cRm 1 0 0 13) s m args below meth c A D Y 3 (MQ below (cQi post D Y A) args s 0 0 A) 0 0 6 [(0, .int (y.1)), (2, .int (y.2.1))] [] (y.2.2)) (fun y hy => tb_X4_placeFrom_6 C   (fun b0 b1 S z => z) (y.1) (y.2.1) (y.2.2) hy)
end S_X4_placeFrom
set_option maxHeartbeats 1000000 in
set_option maxRecDepth 20000 in
theorem t_X4_placeFrom (l : Launch) (x0 : Int32) (x1 : Int32) (S : cS) (dp : Nat) {P : Int32 → cS → Prop} (h : k_X4_placeFrom P dp x0 x1 S) : cMet (cQi P) l yX4_placeFrom cX4_placeFrom 3 (some .int) 1 0 0 13 [.int x0, .int x1] S dp := by
  intro D Y tp sz
  refine cg_body (by decide +kernel) (Nat.le_of_ble_eq_true rfl) ?_
  intro p e s m args below meth c C
  generalize va_A (cWd Y S) sz = A at C ⊢
  have C : cC p s m args meth c cX4_placeFrom 3 (some .int) A D Y tp dp RX4 := C
  refine cg_lv (lv' := [(0, .int x0), (1, .int x1)]) rfl ?_
  unfold k_X4_placeFrom at h
  refine cg_iload_n C (i := 1) rfl 1 rfl dX4_placeFrom_0 ?_
  refine cg_iconst C (x := nI 0) rfl dX4_placeFrom_1 ?_
  refine cg_mmax C cmmax_X4_57 cmmax_s cmm_i cmmax_c (Nat.le_of_ble_eq_true rfl) (Nat.le_of_ble_eq_true rfl) (by decide) (by decide) dX4_placeFrom_2 ?_
  refine cg_nmI (fun x2_1 e_x2_1 => ?_)
  have h := h x2_1 e_x2_1
  refine cg_istore_n C (i := 2) (lv' := [(2, .int x2_1), (0, .int x0), (1, .int x1)]) rfl (Nat.le_of_ble_eq_true rfl) rfl dX4_placeFrom_5 ?_
  exact cg_sub [1, 0] rfl (tl_X4_placeFrom_6 C   x0 x2_1 S h)
def k_X4_isCountedAt_113 (Q : Int32 → cS → Prop) (dp : Nat)  (x3 : Int32) (x4 : Int32) (S : cS) : Prop :=
((x4 < x3 →
  Q ((bI false)) S) ∧
 (¬ x4 < x3 →
  Q ((bI true)) S))
def k_X4_isCountedAt_44 (Q : Int32 → cS → Prop) (dp : Nat) (R44 : Nat → Nat → Int32 → Int32 → Int32 → cS → Prop) (x0 : Nat) (x1 : Nat) (x3 : Int32) (x4 : Int32) (x5 : Int32) (S : cS) : Prop :=
cA S x0 4 ∧ ((∃ b2 : Nat, cr S 134 x0 = some b2 ∧ (cA S b2 15 ∧ (((((nI (cn S b2))) ≤ x5 →
  k_X4_isCountedAt_113 Q dp  x3 x4 S) ∧
 (¬ ((nI (cn S b2))) ≤ x5 →
  cA S x0 4 ∧ ((∃ b3 : Nat, cr S 135 x0 = some b3 ∧ (cA S b3 14 ∧ (((((nI (cn S b3))) ≤ x5 →
    k_X4_isCountedAt_113 Q dp  x3 x4 S) ∧
   (¬ ((nI (cn S b3))) ≤ x5 →
    cA S x1 14 ∧ (((((nI (cn S x1))) ≤ x5 →
      k_X4_isCountedAt_113 Q dp  x3 x4 S) ∧
     (¬ ((nI (cn S x1))) ≤ x5 →
      cX S x1 14 x5 ∧ (cA S x0 4 ∧ ((∃ b4 : Nat, cr S 135 x0 = some b4 ∧ (cX S b4 14 x5 ∧ (k_X4_placeFrom (fun r_5 S_5 => 
      ((¬ r_5 = (((-1))) →
        cA S_5 x0 4 ∧ ((∃ b6 : Nat, cr S_5 135 x0 = some b6 ∧ (cX S_5 b6 14 x5 ∧ (∀ x4_7 : Int32, x4_7 = (x4 + ((cI S_5 b6 (x5).toNatClampNeg))) → ∀ x5_8 : Int32, x5_8 = x5 + nI 1 → R44 x0 x1 r_5 x4_7 x5_8 S_5))))) ∧
       (r_5 = (((-1))) →
        Q ((bI false)) S_5))) dp ((cI S x1 (x5).toNatClampNeg)) ((x3 + ((cI S b4 (x5).toNatClampNeg)))) S))))))))))))))))))))
def k_X4_isCountedAt_44L (Q : Int32 → cS → Prop) (dp : Nat)  (x0 : Nat) (x1 : Nat) (x3 : Int32) (x4 : Int32) (x5 : Int32) (S : cS) : Prop :=
  lfp (X := Nat × Nat × Int32 × Int32 × Int32 × cS) (fun P y => k_X4_isCountedAt_44 Q dp  (fun b0 b1 b2 b3 b4 S => P (b0, b1, b2, b3, b4, S)) y.1 y.2.1 y.2.2.1 y.2.2.2.1 y.2.2.2.2.1 y.2.2.2.2.2) (x0, x1, x3, x4, x5, S)
def k_X4_isCountedAt (Q : Int32 → cS → Prop) (dp : Nat) (x0 : Nat) (x1 : Nat) (x2 : Int32) (S : cS) : Prop :=
cA S x0 4 ∧ (((¬ ((ci S 128 x0)) = ((nI 1)) →
  cA S x0 4 ∧ (∀ x4_1 : Int32, x4_1 = (x2 + ((ci S 130 x0))) → k_X4_isCountedAt_44L Q dp  x0 x1 x2 x4_1 (((nI 1))) S)) ∧
 (((ci S 128 x0)) = ((nI 1)) →
  cA S x1 14 ∧ (((((nI (cn S x1))) ≤ ((nI 1)) →
    Q ((bI false)) S) ∧
   (¬ ((nI (cn S x1))) ≤ ((nI 1)) →
    cX S x1 14 ((nI 1)) ∧ (cA S x0 4 ∧ (k_X4_hasNeighbour (fun r_9 S_9 => 
    ((r_9 = 0 →
      Q ((bI false)) S_9) ∧
     (¬ r_9 = 0 →
      Q ((bI true)) S_9))) dp x0 ((cI S x1 ((nI 1)).toNatClampNeg)) x2 S))))))))
section S_X4_isCountedAt
variable {p : Program} {l : Launch} {e : Env} {s : State} {m : MethodId} {args : Array Value} {below : List Frame} {meth : Method} {c : Code} {A : Nat → Prop} {D : va_G} {Y : cY} {tp dp : Nat}
set_option maxRecDepth 20000 in
theorem tb_X4_isCountedAt_113 (C : cC p s m args meth c cX4_isCountedAt 6 (some .boolean) A D Y tp dp RX4) {post : Int32 → cS → Prop}   (x3 : Int32) (x4 : Int32) (S : cS) (h : k_X4_isCountedAt_113 post dp  x3 x4 S) : cG p l e (cRm 2 0 0 35) s m args below meth c A D Y 6 (MQ below (cQi post D Y A) args s 0 0 A) 0 0 113 [(3, .int x3), (4, .int x4)] [] S := by
  unfold k_X4_isCountedAt_113 at h
  refine cg_iload_n C (i := 3) rfl 0 rfl dX4_isCountedAt_113 ?_
  refine cg_iload C 1 rfl dX4_isCountedAt_114 ?_
  refine cg_icmp_gt C 123 (by decide) dX4_isCountedAt_116 (fun c_ => ?_) (fun c_ => ?_)
  · have h := h.1 c_
    refine cg_iconst C (x := nI 0) rfl dX4_isCountedAt_123 ?_
    refine cg_cast (.int (bI false)) rfl ?_
    exact cg_zret C (bI_nar _) h dX4_isCountedAt_124 (by decide) (by decide)
  · have h := h.2 c_
    refine cg_iconst C (x := nI 1) rfl dX4_isCountedAt_119 ?_
    refine cg_goto C 124 (by decide) dX4_isCountedAt_120 ?_
    refine cg_cast (.int (bI true)) rfl ?_
    exact cg_zret C (bI_nar _) h dX4_isCountedAt_124 (by decide) (by decide)
set_option maxRecDepth 20000 in
theorem tb_X4_isCountedAt_44 (C : cC p s m args meth c cX4_isCountedAt 6 (some .boolean) A D Y tp dp RX4) {post : Int32 → cS → Prop} {R44 : Nat → Nat → Int32 → Int32 → Int32 → cS → Prop} (hR44 : ∀ (x0 : Nat) (x1 : Nat) (x3 : Int32) (x4 : Int32) (x5 : Int32) (S : cS), R44 x0 x1 x3 x4 x5 S → cG p l e (cRm 2 0 0 35) s m args below meth c A D Y 6 (MQ below (cQi post D Y A) args s 0 0 A) 0 0 44 [(0, .ref x0), (1, .ref x1), (3, .int x3), (4, .int x4), (5, .int x5)] [] S) (x0 : Nat) (x1 : Nat) (x3 : Int32) (x4 : Int32) (x5 : Int32) (S : cS) (h : k_X4_isCountedAt_44 post dp R44 x0 x1 x3 x4 x5 S) : cG p l e (cRm 2 0 0 35) s m args below meth c A D Y 6 (MQ below (cQi post D Y A) args s 0 0 A) 0 0 44 [(0, .ref x0), (1, .ref x1), (3, .int x3), (4, .int x4), (5, .int x5)] [] S := by
  unfold k_X4_isCountedAt_44 at h
  refine cg_iload C 4 rfl dX4_isCountedAt_44 ?_
  refine cg_aload_n C (i := 0) rfl 0 rfl dX4_isCountedAt_46 ?_
  obtain ⟨hc_47, h⟩ := h
  obtain ⟨b2, hb_b2, h⟩ := h
  refine cg_get C (k := 4) (j := 6) (.ref b2) hc_47.1 hc_47.2 (by decide) rfl (by decide) rfl (show cV _ 4 6 x0 = _ from congrArg va_rf hb_b2) cWs_wsX40 cl_X4_22 rfl dX4_isCountedAt_47 ?_
  obtain ⟨hc_50, h⟩ := h
  refine cg_alen C hc_50.1 hc_50.2 (by decide) (by decide) dX4_isCountedAt_50 ?_
  refine cg_icmp_ge C 113 (by decide) dX4_isCountedAt_51 (fun c_ => ?_) (fun c_ => ?_)
  · have h := h.1 c_
    exact cg_sub [2, 3] rfl (tb_X4_isCountedAt_113 C   x3 x4 S h)
  · have h := h.2 c_
    refine cg_iload C 4 rfl dX4_isCountedAt_54 ?_
    refine cg_aload_n C (i := 0) rfl 0 rfl dX4_isCountedAt_56 ?_
    obtain ⟨hc_57, h⟩ := h
    obtain ⟨b3, hb_b3, h⟩ := h
    refine cg_get C (k := 4) (j := 7) (.ref b3) hc_57.1 hc_57.2 (by decide) rfl (by decide) rfl (show cV _ 4 7 x0 = _ from congrArg va_rf hb_b3) cWs_wsX40 cl_X4_26 rfl dX4_isCountedAt_57 ?_
    obtain ⟨hc_60, h⟩ := h
    refine cg_alen C hc_60.1 hc_60.2 (by decide) (by decide) dX4_isCountedAt_60 ?_
    refine cg_icmp_ge C 113 (by decide) dX4_isCountedAt_61 (fun c_ => ?_) (fun c_ => ?_)
    · have h := h.1 c_
      exact cg_sub [2, 3] rfl (tb_X4_isCountedAt_113 C   x3 x4 S h)
    · have h := h.2 c_
      refine cg_iload C 4 rfl dX4_isCountedAt_64 ?_
      refine cg_aload_n C (i := 1) rfl 1 rfl dX4_isCountedAt_66 ?_
      obtain ⟨hc_67, h⟩ := h
      refine cg_alen C hc_67.1 hc_67.2 (by decide) (by decide) dX4_isCountedAt_67 ?_
      refine cg_icmp_ge C 113 (by decide) dX4_isCountedAt_68 (fun c_ => ?_) (fun c_ => ?_)
      · have h := h.1 c_
        exact cg_sub [2, 3] rfl (tb_X4_isCountedAt_113 C   x3 x4 S h)
      · have h := h.2 c_
        refine cg_aload_n C (i := 1) rfl 1 rfl dX4_isCountedAt_71 ?_
        refine cg_iload C 4 rfl dX4_isCountedAt_72 ?_
        obtain ⟨hc_74, h⟩ := h
        refine cg_ialoadR C hc_74 dX4_isCountedAt_74 ?_
        refine cg_iload_n C (i := 3) rfl 2 rfl dX4_isCountedAt_75 ?_
        refine cg_aload_n C (i := 0) rfl 0 rfl dX4_isCountedAt_76 ?_
        obtain ⟨hc_77, h⟩ := h
        obtain ⟨b4, hb_b4, h⟩ := h
        refine cg_get C (k := 4) (j := 7) (.ref b4) hc_77.1 hc_77.2 (by decide) rfl (by decide) rfl (show cV _ 4 7 x0 = _ from congrArg va_rf hb_b4) cWs_wsX40 cl_X4_26 rfl dX4_isCountedAt_77 ?_
        refine cg_iload C 4 rfl dX4_isCountedAt_80 ?_
        obtain ⟨hc_82, h⟩ := h
        refine cg_ialoadR C hc_82 dX4_isCountedAt_82 ?_
        refine cg_iadd C dX4_isCountedAt_83 ?_
        refine cg_callsi C (t_X4_placeFrom l ((cI S x1 (x5).toNatClampNeg)) ((x3 + ((cI S b4 (x5).toNatClampNeg)))) S dp h) cc_X4_102 rfl ⟨by decide, by decide⟩ ⟨by decide, by decide⟩ rfl (Nat.le_of_ble_eq_true rfl) dX4_isCountedAt_84 (fun r_5 S_5 h => ?_)
        refine cg_istore_n C (i := 3) (lv' := [(3, .int r_5), (0, .ref x0), (1, .ref x1), (4, .int x4), (5, .int x5)]) rfl (Nat.le_of_ble_eq_true rfl) rfl dX4_isCountedAt_87 ?_
        refine cg_iload_n C (i := 3) rfl 0 rfl dX4_isCountedAt_88 ?_
        refine cg_iconst C (x := (-1)) rfl dX4_isCountedAt_89 ?_
        refine cg_icmp_ne C 95 (by decide) dX4_isCountedAt_90 (fun c_ => ?_) (fun c_ => ?_)
        · have h := h.1 c_
          refine cg_iload C 3 rfl dX4_isCountedAt_95 ?_
          refine cg_aload_n C (i := 0) rfl 1 rfl dX4_isCountedAt_97 ?_
          obtain ⟨hc_98, h⟩ := h
          obtain ⟨b6, hb_b6, h⟩ := h
          refine cg_get C (k := 4) (j := 7) (.ref b6) hc_98.1 hc_98.2 (by decide) rfl (by decide) rfl (show cV _ 4 7 x0 = _ from congrArg va_rf hb_b6) cWs_wsX40 cl_X4_26 rfl dX4_isCountedAt_98 ?_
          refine cg_iload C 4 rfl dX4_isCountedAt_101 ?_
          obtain ⟨hc_103, h⟩ := h
          refine cg_ialoadR C hc_103 dX4_isCountedAt_103 ?_
          refine cg_iadd C dX4_isCountedAt_104 ?_
          refine cg_nmI (fun x4_7 e_x4_7 => ?_)
          have h := h x4_7 e_x4_7
          refine cg_istore C (lv' := [(4, .int x4_7), (3, .int r_5), (0, .ref x0), (1, .ref x1), (5, .int x5)]) (Nat.le_of_ble_eq_true rfl) rfl dX4_isCountedAt_105 ?_
          obtain ⟨x5_8, e_x5_8⟩ : ∃ z : Int32, z = x5 + nI 1 := ⟨_, rfl⟩
          have h := h x5_8 e_x5_8
          refine cg_iinc C (lv' := [(5, .int x5_8), (4, .int x4_7), (3, .int r_5), (0, .ref x0), (1, .ref x1)]) 4 rfl (by rw [e_x5_8]; rfl) (Nat.le_of_ble_eq_true rfl) rfl dX4_isCountedAt_107 ?_
          refine cg_goto C 44 (by decide) dX4_isCountedAt_110 ?_
          exact cg_sub [3, 4, 2, 1, 0] rfl (hR44 x0 x1 r_5 x4_7 x5_8 S_5 h)
        · have h := h.2 c_
          refine cg_iconst C (x := nI 0) rfl dX4_isCountedAt_93 ?_
          refine cg_cast (.int (bI false)) rfl ?_
          exact cg_zret C (bI_nar _) h dX4_isCountedAt_94 (by decide) (by decide)
set_option maxRecDepth 20000 in
theorem tl_X4_isCountedAt_44 (C : cC p s m args meth c cX4_isCountedAt 6 (some .boolean) A D Y tp dp RX4) {post : Int32 → cS → Prop}   (x0 : Nat) (x1 : Nat) (x3 : Int32) (x4 : Int32) (x5 : Int32) (S : cS) (h : k_X4_isCountedAt_44L post dp  x0 x1 x3 x4 x5 S) : cG p l e (cRm 2 0 0 35) s m args below meth c A D Y 6 (MQ below (cQi post D Y A) args s 0 0 A) 0 0 44 [(0, .ref x0), (1, .ref x1), (3, .int x3), (4, .int x4), (5, .int x5)] [] S :=
  h (fun y => cG p l e (cRm 2 0 0 35) s m args below meth c A D Y 6 (MQ below (cQi post D Y A) args s 0 0 A) 0 0 44 [(0, .ref (y.1)), (1, .ref (y.2.1)), (3, .int (y.2.2.1)), (4, .int (y.2.2.2.1)), (5, .int (y.2.2.2.2.1))] [] (y.2.2.2.2.2)) (fun y hy => tb_X4_isCountedAt_44 C   (fun b0 b1 b2 b3 b4 S z => z) (y.1) (y.2.1) (y.2.2.1) (y.2.2.2.1) (y.2.2.2.2.1) (y.2.2.2.2.2) hy)
end S_X4_isCountedAt
set_option maxHeartbeats 1000000 in
set_option maxRecDepth 20000 in
theorem t_X4_isCountedAt (l : Launch) (x0 : Nat) (x1 : Nat) (x2 : Int32) (S : cS) (dp : Nat) {P : Int32 → cS → Prop} (h : k_X4_isCountedAt P dp x0 x1 x2 S) : cMet (cQi P) l yX4_isCountedAt cX4_isCountedAt 6 (some .boolean) 2 0 0 35 [.ref x0, .ref x1, .int x2] S dp := by
  intro D Y tp sz
  refine cg_body (by decide +kernel) (Nat.le_of_ble_eq_true rfl) ?_
  intro p e s m args below meth c C
  generalize va_A (cWd Y S) sz = A at C ⊢
  have C : cC p s m args meth c cX4_isCountedAt 6 (some .boolean) A D Y tp dp RX4 := C
  refine cg_lv (lv' := [(0, .ref x0), (1, .ref x1), (2, .int x2)]) rfl ?_
  unfold k_X4_isCountedAt at h
  refine cg_aload_n C (i := 0) rfl 0 rfl dX4_isCountedAt_0 ?_
  obtain ⟨hc_1, h⟩ := h
  refine cg_get C (k := 4) (j := 0) (.int (ci S 128 x0)) hc_1.1 hc_1.2 (by decide) rfl (by decide) rfl rfl cWs_wsX40 cl_X4_40 rfl dX4_isCountedAt_1 ?_
  refine cg_iconst C (x := nI 1) rfl dX4_isCountedAt_4 ?_
  refine cg_icmp_ne C 31 (by decide) dX4_isCountedAt_5 (fun c_ => ?_) (fun c_ => ?_)
  · have h := h.1 c_
    refine cg_iload_n C (i := 2) rfl 2 rfl dX4_isCountedAt_31 ?_
    refine cg_istore_n C (i := 3) (lv' := [(3, .int x2), (0, .ref x0), (1, .ref x1), (2, .int x2)]) rfl (Nat.le_of_ble_eq_true rfl) rfl dX4_isCountedAt_32 ?_
    refine cg_iload_n C (i := 2) rfl 3 rfl dX4_isCountedAt_33 ?_
    refine cg_aload_n C (i := 0) rfl 1 rfl dX4_isCountedAt_34 ?_
    obtain ⟨hc_35, h⟩ := h
    refine cg_get C (k := 4) (j := 2) (.int (ci S 130 x0)) hc_35.1 hc_35.2 (by decide) rfl (by decide) rfl rfl cWs_wsX40 cl_X4_46 rfl dX4_isCountedAt_35 ?_
    refine cg_iadd C dX4_isCountedAt_38 ?_
    refine cg_nmI (fun x4_1 e_x4_1 => ?_)
    have h := h x4_1 e_x4_1
    refine cg_istore C (lv' := [(4, .int x4_1), (3, .int x2), (0, .ref x0), (1, .ref x1), (2, .int x2)]) (Nat.le_of_ble_eq_true rfl) rfl dX4_isCountedAt_39 ?_
    refine cg_iconst C (x := nI 1) rfl dX4_isCountedAt_41 ?_
    refine cg_istore C (lv' := [(5, .int ((nI 1))), (4, .int x4_1), (3, .int x2), (0, .ref x0), (1, .ref x1), (2, .int x2)]) (Nat.le_of_ble_eq_true rfl) rfl dX4_isCountedAt_42 ?_
    exact cg_sub [3, 4, 2, 1, 0] rfl (tl_X4_isCountedAt_44 C   x0 x1 x2 x4_1 (((nI 1))) S h)
  · have h := h.2 c_
    refine cg_aload_n C (i := 1) rfl 1 rfl dX4_isCountedAt_8 ?_
    obtain ⟨hc_9, h⟩ := h
    refine cg_alen C hc_9.1 hc_9.2 (by decide) (by decide) dX4_isCountedAt_9 ?_
    refine cg_iconst C (x := nI 1) rfl dX4_isCountedAt_10 ?_
    refine cg_icmp_le C 29 (by decide) dX4_isCountedAt_11 (fun c_ => ?_) (fun c_ => ?_)
    · have h := h.1 c_
      refine cg_iconst C (x := nI 0) rfl dX4_isCountedAt_29 ?_
      refine cg_cast (.int (bI false)) rfl ?_
      exact cg_zret C (bI_nar _) h dX4_isCountedAt_30 (by decide) (by decide)
    · have h := h.2 c_
      refine cg_aload_n C (i := 0) rfl 0 rfl dX4_isCountedAt_14 ?_
      refine cg_aload_n C (i := 1) rfl 1 rfl dX4_isCountedAt_15 ?_
      refine cg_iconst C (x := nI 1) rfl dX4_isCountedAt_16 ?_
      obtain ⟨hc_17, h⟩ := h
      refine cg_ialoadR C hc_17 dX4_isCountedAt_17 ?_
      refine cg_iload_n C (i := 2) rfl 2 rfl dX4_isCountedAt_18 ?_
      obtain ⟨hc_19, h⟩ := h
      refine cg_calli C (t_X4_hasNeighbour l x0 ((cI S x1 ((nI 1)).toNatClampNeg)) x2 S dp h) cc_X4_98 hc_19.1 hc_19.2 (by decide) rfl rfl ⟨by decide, by decide⟩ ⟨by decide, by decide⟩ rfl (Nat.le_of_ble_eq_true rfl) dX4_isCountedAt_19 (fun r_9 S_9 h => ?_)
      refine cg_if_eq C 29 (by decide) dX4_isCountedAt_22 (fun c_ => ?_) (fun c_ => ?_)
      · have h := h.1 c_
        refine cg_iconst C (x := nI 0) rfl dX4_isCountedAt_29 ?_
        refine cg_cast (.int (bI false)) rfl ?_
        exact cg_zret C (bI_nar _) h dX4_isCountedAt_30 (by decide) (by decide)
      · have h := h.2 c_
        refine cg_iconst C (x := nI 1) rfl dX4_isCountedAt_25 ?_
        refine cg_goto C 30 (by decide) dX4_isCountedAt_26 ?_
        refine cg_cast (.int (bI true)) rfl ?_
        exact cg_zret C (bI_nar _) h dX4_isCountedAt_30 (by decide) (by decide)
