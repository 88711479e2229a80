/-! the methods of the class as predicates, and their contracts -/
def k_X11_step (Q : Int32 → cS → Prop) (dp : Nat) (mc ms : Nat) (x0 : Nat) (S : cS) : Prop :=
cA S x0 11 ∧ ((0 ≤ mc ∧ 0 ≤ ms) ∧ (k_X11_checkUp (fun S_1 => 
cA S_1 x0 11 ∧ (((cr S_1 356 x0 = none →
  False) ∧
 (∀ b2 : Nat, cr S_1 356 x0 = some b2 →
  cA S_1 x0 11 ∧ ((∃ mc3 ms4 : Nat, 0 + mc3 ≤ mc ∧ 0 + ms4 ≤ ms ∧ (k_X11_doWrite (fun r_5 S_5 => 
  ((¬ r_5 = 0 →
    cA S_5 b2 10 ∧ ((0 + mc3 ≤ mc ∧ 0 + ms4 ≤ ms) ∧ (k_X10_liveCount (fun r_6 S_6 => 
    cA S_6 x0 11 ∧ (((r_6 ≤ ((ci S_6 357 x0)) →
      cA S_6 x0 11 ∧ ((∃ mc7 ms8 : Nat, 0 + mc3 + mc7 ≤ mc ∧ 0 + ms4 + ms8 ≤ ms ∧ (k_X11_endMerge (fun S_9 => 
      (0 + mc3 + mc7 ≤ mc ∧ 0 + ms4 + ms8 ≤ ms) ∧ (Q (((-1))) S_9)) dp mc7 ms8 x0 b2 S_6)))) ∧
     (¬ r_6 ≤ ((ci S_6 357 x0)) →
      cA S_6 x0 11 ∧ (cA S_6 x0 11 ∧ (∀ S10 : cS, S10 = cSi S_6 357 x0 ((((ci S_6 357 x0)) + ((nI 1)))) → cA S10 x0 11 ∧ ((0 + mc3 ≤ mc ∧ 0 + ms4 ≤ ms) ∧ (Q ((r_6 - ((ci S10 357 x0)))) S10)))))))) dp b2 S_5))) ∧
   (r_5 = 0 →
    (0 + mc3 ≤ mc ∧ 0 + ms4 ≤ ms) ∧ (Q (((-2))) S_5)))) dp mc3 ms4 x0 S_1))))))) dp x0 S))
set_option maxHeartbeats 1000000 in
set_option maxRecDepth 20000 in
theorem t_X11_step (l : Launch) (mc ms : Nat) (x0 : Nat) (S : cS) (dp : Nat) {P : Int32 → cS → Prop} (h : k_X11_step P dp mc ms x0 S) : cMet (cQi P) l yX11_step cX11_step 3 (some .int) 11 mc ms 266 [.ref x0] S dp := by
  intro D Y tp sz
  refine cg_body (by decide +kernel) (Nat.le_of_ble_eq_true rfl) ?_
  intro p e s m args below meth c C
  generalize va_A (cWd Y S) sz = A at C ⊢
  have C : cC p s m args meth c cX11_step 3 (some .int) A D Y tp dp RX11 := C
  refine cg_lv (lv' := [(0, .ref x0)]) rfl ?_
  unfold k_X11_step at h
  refine cg_aload_n C (i := 0) rfl 0 rfl dX11_step_0 ?_
  obtain ⟨hc_1, h⟩ := h
  obtain ⟨hb_1, h⟩ := h
  refine cg_callv C (t_X11_checkUp l x0 S dp h) cc_X11_177 hc_1.1 hc_1.2 (by decide) rfl rfl ⟨by decide, by decide⟩ hb_1 rfl (Nat.le_of_ble_eq_true rfl) dX11_step_1 (fun S_1 h => ?_)
  simp only [Nat.add_zero]
  refine cg_aload_n C (i := 0) rfl 0 rfl dX11_step_4 ?_
  obtain ⟨hc_5, h⟩ := h
  obtain ho | ⟨b2, ho⟩ := c_opt (cr S_1 356 x0)
  · have h := h.1 ho
    refine cg_get C (k := 11) (j := 4) (.null) hc_5.1 hc_5.2 (by decide) rfl (by decide) rfl (show cV _ 11 4 x0 = _ from congrArg va_rf ho) cWs_wsX110 cl_X11_39 rfl dX11_step_5 ?_
    refine cg_astoreN_n (lv' := [(1, .null), (0, .ref x0)]) C (i := 1) rfl (Nat.le_of_ble_eq_true rfl) rfl dX11_step_8 ?_
    refine cg_aloadN_n C (i := 1) rfl 0 rfl dX11_step_9 ?_
    refine cg_ifnonnullN C dX11_step_10 ?_
    exact h.elim
  · have h := h.2 b2 ho
    refine cg_get C (k := 11) (j := 4) (.ref b2) hc_5.1 hc_5.2 (by decide) rfl (by decide) rfl (show cV _ 11 4 x0 = _ from congrArg va_rf ho) cWs_wsX110 cl_X11_39 rfl dX11_step_5 ?_
    refine cg_astore_n (lv' := [(1, .ref b2), (0, .ref x0)]) C (i := 1) rfl (Nat.le_of_ble_eq_true rfl) rfl dX11_step_8 ?_
    refine cg_aload_n C (i := 1) rfl 0 rfl dX11_step_9 ?_
    refine cg_ifnonnull C 23 (by decide) dX11_step_10 ?_
    refine cg_aload_n C (i := 0) rfl 1 rfl dX11_step_23 ?_
    obtain ⟨hc_24, h⟩ := h
    obtain ⟨mc3, ms4, hm_1, hm_2, h⟩ := h
    refine cg_calli C (t_X11_doWrite l mc3 ms4 x0 S_1 dp h) cc_X11_227 hc_24.1 hc_24.2 (by decide) rfl rfl ⟨by decide, by decide⟩ ⟨hm_1, hm_2⟩ rfl (Nat.le_of_ble_eq_true rfl) dX11_step_24 (fun r_5 S_5 h => ?_)
    refine cg_if_ne C 33 (by decide) dX11_step_27 (fun c_ => ?_) (fun c_ => ?_)
    · have h := h.1 c_
      refine cg_aload_n C (i := 1) rfl 0 rfl dX11_step_33 ?_
      obtain ⟨hc_34, h⟩ := h
      obtain ⟨hb_34, h⟩ := h
      refine cg_calli C (t_X10_liveCount l b2 S_5 dp h) cc_X11_222 hc_34.1 hc_34.2 (by decide) rfl rfl ⟨by decide, by decide⟩ hb_34 rfl (Nat.le_of_ble_eq_true rfl) dX11_step_34 (fun r_6 S_6 h => ?_)
      simp only [Nat.add_zero]
      refine cg_istore_n C (i := 2) (lv' := [(2, .int r_6), (1, .ref b2), (0, .ref x0)]) rfl (Nat.le_of_ble_eq_true rfl) rfl dX11_step_37 ?_
      refine cg_aload_n C (i := 0) rfl 2 rfl dX11_step_38 ?_
      obtain ⟨hc_39, h⟩ := h
      refine cg_get C (k := 11) (j := 5) (.int (ci S_6 357 x0)) hc_39.1 hc_39.2 (by decide) rfl (by decide) rfl rfl cWs_wsX110 cl_X11_42 rfl dX11_step_39 ?_
      refine cg_iload_n C (i := 2) rfl 0 rfl dX11_step_42 ?_
      refine cg_icmp_ge C 63 (by decide) dX11_step_43 (fun c_ => ?_) (fun c_ => ?_)
      · have h := h.1 c_
        refine cg_aload_n C (i := 0) rfl 2 rfl dX11_step_63 ?_
        refine cg_aload_n C (i := 1) rfl 1 rfl dX11_step_64 ?_
        obtain ⟨hc_65, h⟩ := h
        obtain ⟨mc7, ms8, hm_1, hm_2, h⟩ := h
        refine cg_callv C (t_X11_endMerge l mc7 ms8 x0 b2 S_6 dp h) cc_X11_230 hc_65.1 hc_65.2 (by decide) rfl rfl ⟨by decide, by decide⟩ ⟨hm_1, hm_2⟩ rfl (Nat.le_of_ble_eq_true rfl) dX11_step_65 (fun S_9 h => ?_)
        refine cg_iconst C (x := (-1)) rfl dX11_step_68 ?_
        obtain ⟨hb_69, h⟩ := h
        exact cg_iret C h dX11_step_69 hb_69.1 hb_69.2
      · have h := h.2 c_
        refine cg_aload_n C (i := 0) rfl 2 rfl dX11_step_46 ?_
        refine cg_dup C rfl dX11_step_47 ?_
        obtain ⟨hc_48, h⟩ := h
        refine cg_get C (k := 11) (j := 5) (.int (ci S_6 357 x0)) hc_48.1 hc_48.2 (by decide) rfl (by decide) rfl rfl cWs_wsX110 cl_X11_42 rfl dX11_step_48 ?_
        refine cg_iconst C (x := nI 1) rfl dX11_step_51 ?_
        refine cg_iadd C dX11_step_52 ?_
        obtain ⟨hc_53, h⟩ := h
        refine cg_puti C (k := 11) (j := 5) (ty := tyX11) (fty := .int) hc_53.1 hc_53.2 (by decide) rfl (by decide) rfl (by decide) rfl cWs_wsX110 tyX11_ok nmX11 cl_X11_42 rfl rfl rfl rfl rfl dX11_step_53 ?_
        refine cg_nm (fun S10 e_S10 => ?_)
        have h := h S10 e_S10
        refine cg_iload_n C (i := 2) rfl 0 rfl dX11_step_56 ?_
        refine cg_aload_n C (i := 0) rfl 2 rfl dX11_step_57 ?_
        obtain ⟨hc_58, h⟩ := h
        refine cg_get C (k := 11) (j := 5) (.int (ci S10 357 x0)) hc_58.1 hc_58.2 (by decide) rfl (by decide) rfl rfl cWs_wsX110 cl_X11_42 rfl dX11_step_58 ?_
        refine cg_isub C dX11_step_61 ?_
        obtain ⟨hb_62, h⟩ := h
        exact cg_iret C h dX11_step_62 hb_62.1 hb_62.2
    · have h := h.2 c_
      refine cg_bipush C (x := (-2)) rfl dX11_step_30 ?_
      obtain ⟨hb_32, h⟩ := h
      exact cg_iret C h dX11_step_32 hb_32.1 hb_32.2
def k_X11_giveUp (Q : Int32 → cS → Prop) (dp : Nat) (x0 : Nat) (S : cS) : Prop :=
cA S x0 11 ∧ (k_X11_checkUp (fun S_1 => 
cA S_1 x0 11 ∧ (((cr S_1 356 x0 = none →
  False) ∧
 (∀ b2 : Nat, cr S_1 356 x0 = some b2 →
  cA S_1 x0 11 ∧ (∀ x1_3 : Int32, x1_3 = (ci S_1 357 x0) → cA S_1 x0 11 ∧ (∀ S4 : cS, S4 = cSr S_1 356 x0 none → cA S4 x0 11 ∧ (∀ S5 : cS, S5 = cSi S4 357 x0 ((nI 0)) → Q x1_3 S5))))))) dp x0 S)
set_option maxHeartbeats 1000000 in
set_option maxRecDepth 20000 in
theorem t_X11_giveUp (l : Launch) (x0 : Nat) (S : cS) (dp : Nat) {P : Int32 → cS → Prop} (h : k_X11_giveUp P dp x0 S) : cMet (cQi P) l yX11_giveUp cX11_giveUp 2 (some .int) 1 0 0 20 [.ref x0] S dp := by
  intro D Y tp sz
  refine cg_body (by decide +kernel) (Nat.le_of_ble_eq_true rfl) ?_
  intro p e s m args below meth c C
  generalize va_A (cWd Y S) sz = A at C ⊢
  have C : cC p s m args meth c cX11_giveUp 2 (some .int) A D Y tp dp RX11 := C
  refine cg_lv (lv' := [(0, .ref x0)]) rfl ?_
  unfold k_X11_giveUp at h
  refine cg_aload_n C (i := 0) rfl 0 rfl dX11_giveUp_0 ?_
  obtain ⟨hc_1, h⟩ := h
  refine cg_callv C (t_X11_checkUp l x0 S dp h) cc_X11_177 hc_1.1 hc_1.2 (by decide) rfl rfl ⟨by decide, by decide⟩ ⟨by decide, by decide⟩ rfl (Nat.le_of_ble_eq_true rfl) dX11_giveUp_1 (fun S_1 h => ?_)
  refine cg_aload_n C (i := 0) rfl 0 rfl dX11_giveUp_4 ?_
  obtain ⟨hc_5, h⟩ := h
  obtain ho | ⟨b2, ho⟩ := c_opt (cr S_1 356 x0)
  · have h := h.1 ho
    refine cg_get C (k := 11) (j := 4) (.null) hc_5.1 hc_5.2 (by decide) rfl (by decide) rfl (show cV _ 11 4 x0 = _ from congrArg va_rf ho) cWs_wsX110 cl_X11_39 rfl dX11_giveUp_5 ?_
    refine cg_ifnonnullN C dX11_giveUp_8 ?_
    exact h.elim
  · have h := h.2 b2 ho
    refine cg_get C (k := 11) (j := 4) (.ref b2) hc_5.1 hc_5.2 (by decide) rfl (by decide) rfl (show cV _ 11 4 x0 = _ from congrArg va_rf ho) cWs_wsX110 cl_X11_39 rfl dX11_giveUp_5 ?_
    refine cg_ifnonnull C 21 (by decide) dX11_giveUp_8 ?_
    refine cg_aload_n C (i := 0) rfl 0 rfl dX11_giveUp_21 ?_
    obtain ⟨hc_22, h⟩ := h
    refine cg_get C (k := 11) (j := 5) (.int (ci S_1 357 x0)) hc_22.1 hc_22.2 (by decide) rfl (by decide) rfl rfl cWs_wsX110 cl_X11_42 rfl dX11_giveUp_22 ?_
    refine cg_nmI (fun x1_3 e_x1_3 => ?_)
    have h := h x1_3 e_x1_3
    refine cg_istore_n C (i := 1) (lv' := [(1, .int x1_3), (0, .ref x0)]) rfl (Nat.le_of_ble_eq_true rfl) rfl dX11_giveUp_25 ?_
    refine cg_aload_n C (i := 0) rfl 1 rfl dX11_giveUp_26 ?_
    refine cg_null C dX11_giveUp_27 ?_
    obtain ⟨hc_28, h⟩ := h
    refine cg_putr C (k := 11) (j := 4) (x := none) (ty := tyX11) (fty := tyX11 4) hc_28.1 hc_28.2 (by decide) rfl (by decide) rfl (by decide) rfl cWs_wsX110 tyX11_ok nmX11 cl_X11_39 rfl rfl rfl rfl rfl dX11_giveUp_28 ?_
    refine cg_nm (fun S4 e_S4 => ?_)
    have h := h S4 e_S4
    refine cg_aload_n C (i := 0) rfl 1 rfl dX11_giveUp_31 ?_
    refine cg_iconst C (x := nI 0) rfl dX11_giveUp_32 ?_
    obtain ⟨hc_33, h⟩ := h
    refine cg_puti C (k := 11) (j := 5) (ty := tyX11) (fty := .int) hc_33.1 hc_33.2 (by decide) rfl (by decide) rfl (by decide) rfl cWs_wsX110 tyX11_ok nmX11 cl_X11_42 rfl rfl rfl rfl rfl dX11_giveUp_33 ?_
    refine cg_nm (fun S5 e_S5 => ?_)
    have h := h S5 e_S5
    refine cg_iload_n C (i := 1) rfl 0 rfl dX11_giveUp_36 ?_
    exact cg_iret C h dX11_giveUp_37 (by decide) (by decide)
def k_X11_prepare_77 (Q : Int32 → cS → Prop) (dp : Nat) (mc ms : Nat) (R77 : Nat → Int32 → Int32 → Nat → Nat → cS → Prop) (x0 : Nat) (x1 : Int32) (x2 : Int32) (cd dd : Nat) (S : cS) : Prop :=
((x1 < x2 →
  cA S x0 11 ∧ ((∃ b8 : Nat, cr S 355 x0 = some b8 ∧ (cA S x0 11 ∧ ((∃ b9 : Nat, cr S 355 x0 = some b9 ∧ (cA S b9 10 ∧ ((cd ≤ mc ∧ dd ≤ ms) ∧ (k_X10_size (fun r_10 S_10 => 
  cA S_10 b8 10 ∧ ((∃ mc11 ms12 : Nat, cd + mc11 ≤ mc ∧ dd + ms12 ≤ ms ∧ (k_X10_copyOf (fun r_13 S_13 => 
  cA S_13 x0 11 ∧ (∀ S14 : cS, S14 = cSr S_13 359 x0 ((some r_13)) → cA S14 x0 11 ∧ (((cr S14 359 x0 = none →
    False) ∧
   (∀ b15 : Nat, cr S14 359 x0 = some b15 →
    cA S14 b15 10 ∧ ((cd + mc11 ≤ mc ∧ dd + ms12 ≤ ms) ∧ (k_X10_size (fun r_16 S_16 => 
    (cd + mc11 ≤ mc ∧ dd + ms12 ≤ ms) ∧ (Q r_16 S_16)) dp b15 S14))))))) dp mc11 ms12 b8 ((nI 0)) r_10 S_10)))) dp b9 S))))))))) ∧
 (¬ x1 < x2 →
  cA S x0 11 ∧ ((∃ mc17 ms18 : Nat, cd + mc17 ≤ mc ∧ dd + ms18 ≤ ms ∧ (k_X11_doWrite (fun r_19 S_19 => 
  ((¬ r_19 = 0 →
    ∀ x2_20 : Int32, x2_20 = x2 + nI 1 → R77 x0 x1 x2_20 (cd + mc17) (dd + ms18) S_19) ∧
   (r_19 = 0 →
    (cd + mc17 ≤ mc ∧ dd + ms18 ≤ ms) ∧ (Q (((-2))) S_19)))) dp mc17 ms18 x0 S)))))
def k_X11_prepare_77L (Q : Int32 → cS → Prop) (dp : Nat) (mc ms : Nat)  (x0 : Nat) (x1 : Int32) (x2 : Int32) (cd dd : Nat) (S : cS) : Prop :=
  lfp (X := Nat × Int32 × Int32 × Nat × Nat × cS) (fun P y => k_X11_prepare_77 Q dp mc ms  (fun b0 b1 b2 b3 b4 S => P (b0, b1, b2, b3, b4, S)) y.1 y.2.1 y.2.2.1 y.2.2.2.1 y.2.2.2.2.1 y.2.2.2.2.2) (x0, x1, x2, cd, dd, S)
def k_X11_prepare_63 (Q : Int32 → cS → Prop) (dp : Nat) (mc ms : Nat)  (x0 : Nat) (cd dd : Nat) (S : cS) : Prop :=
cA S x0 11 ∧ ((∃ b5 : Nat, cr S 355 x0 = some b5 ∧ (cA S x0 11 ∧ (((cr S 358 x0 = none →
  cA S b5 10 ∧ ((cd ≤ mc ∧ dd ≤ ms) ∧ (k_X10_changedSince (fun r_7 S_7 => 
  k_X11_prepare_77L Q dp mc ms  x0 r_7 (((nI 0))) cd dd S_7) dp b5 none S))) ∧
 (∀ b6 : Nat, cr S 358 x0 = some b6 →
  cA S b5 10 ∧ ((cd ≤ mc ∧ dd ≤ ms) ∧ (k_X10_changedSince (fun r_21 S_21 => 
  k_X11_prepare_77L Q dp mc ms  x0 r_21 (((nI 0))) cd dd S_21) dp b5 (some b6) S))))))))
def k_X11_prepare_41 (Q : Int32 → cS → Prop) (dp : Nat) (mc ms : Nat)  (x0 : Nat) (cd dd : Nat) (S : cS) : Prop :=
cA S x0 11 ∧ ((∃ b3 : Nat, cr S 354 x0 = some b3 ∧ (cA S b3 12 ∧ ((cd ≤ mc ∧ dd ≤ ms) ∧ (k_Jx4a65c_isEmpty_aae02 (fun r_4 S_4 => 
((¬ r_4 = 0 →
  k_X11_prepare_63 Q dp mc ms  x0 cd dd S_4) ∧
 (r_4 = 0 →
  cA S_4 x0 11 ∧ ((∃ mc22 ms23 : Nat, cd + mc22 ≤ mc ∧ dd + ms23 ≤ ms ∧ (k_X11_flushBuffer (fun r_24 S_24 => 
  ((¬ r_24 = (((-2))) →
    k_X11_prepare_63 Q dp mc ms  x0 (cd + mc22) (dd + ms23) S_24) ∧
   (r_24 = (((-2))) →
    (cd + mc22 ≤ mc ∧ dd + ms23 ≤ ms) ∧ (Q (((-2))) S_24)))) dp mc22 ms23 x0 S_4)))))) dp b3 S)))))
def k_X11_prepare (Q : Int32 → cS → Prop) (dp : Nat) (mc ms : Nat) (x0 : Nat) (S : cS) : Prop :=
cA S x0 11 ∧ ((0 ≤ mc ∧ 0 ≤ ms) ∧ (k_X11_checkUp (fun S_1 => 
cA S_1 x0 11 ∧ (((cr S_1 359 x0 = none →
  cA S_1 x0 11 ∧ (((((ci S_1 366 x0)) < ((nI 200)) →
    k_X11_prepare_41 Q dp mc ms  x0 0 0 S_1) ∧
   (¬ ((ci S_1 366 x0)) < ((nI 200)) →
    cA S_1 x0 11 ∧ ((∃ b25 : Nat, cr S_1 354 x0 = some b25 ∧ (cA S_1 b25 12 ∧ ((0 ≤ mc ∧ 0 ≤ ms) ∧ (k_Jx4a65c_isEmpty_aae02 (fun r_26 S_26 => 
    ((¬ r_26 = 0 →
      k_X11_prepare_41 Q dp mc ms  x0 0 0 S_26) ∧
     (r_26 = 0 →
      False))) dp b25 S_1))))))))) ∧
 (∀ b2 : Nat, cr S_1 359 x0 = some b2 →
  False)))) dp x0 S))
section S_X11_prepare
variable {p : Program} {l : Launch} {e : Env} {s : State} {m : MethodId} {args : Array Value} {below : List Frame} {meth : Method} {c : Code} {A : Nat → Prop} {D : va_G} {Y : cY} {tp dp : Nat}
set_option maxRecDepth 20000 in
theorem tb_X11_prepare_77 {mc ms : Nat} (C : cC p s m args meth c cX11_prepare 3 (some .int) A D Y tp dp RX11) {post : Int32 → cS → Prop} {R77 : Nat → Int32 → Int32 → Nat → Nat → cS → Prop} (hR77 : ∀ (x0 : Nat) (x1 : Int32) (x2 : Int32) (cd dd : Nat) (S : cS), R77 x0 x1 x2 cd dd S → cG p l e (cRm 10 mc ms 241) s m args below meth c A D Y 3 (MQ below (cQi post D Y A) args s mc ms A) cd dd 77 [(0, .ref x0), (1, .int x1), (2, .int x2)] [] S) (x0 : Nat) (x1 : Int32) (x2 : Int32) (cd dd : Nat) (S : cS) (h : k_X11_prepare_77 post dp mc ms R77 x0 x1 x2 cd dd S) : cG p l e (cRm 10 mc ms 241) s m args below meth c A D Y 3 (MQ below (cQi post D Y A) args s mc ms A) cd dd 77 [(0, .ref x0), (1, .int x1), (2, .int x2)] [] S := by
  unfold k_X11_prepare_77 at h
  refine cg_iload_n C (i := 2) rfl 2 rfl dX11_prepare_77 ?_
  refine cg_iload_n C (i := 1) rfl 1 rfl dX11_prepare_78 ?_
  refine cg_icmp_gt C 98 (by decide) dX11_prepare_79 (fun c_ => ?_) (fun c_ => ?_)
  · have h := h.1 c_
    refine cg_aload_n C (i := 0) rfl 0 rfl dX11_prepare_98 ?_
    refine cg_aload_n C (i := 0) rfl 0 rfl dX11_prepare_99 ?_
    obtain ⟨hc_100, h⟩ := h
    obtain ⟨b8, hb_b8, h⟩ := h
    refine cg_get C (k := 11) (j := 3) (.ref b8) hc_100.1 hc_100.2 (by decide) rfl (by decide) rfl (show cV _ 11 3 x0 = _ from congrArg va_rf hb_b8) cWs_wsX110 cl_X11_35 rfl dX11_prepare_100 ?_
    refine cg_iconst C (x := nI 0) rfl dX11_prepare_103 ?_
    refine cg_aload_n C (i := 0) rfl 0 rfl dX11_prepare_104 ?_
    obtain ⟨hc_105, h⟩ := h
    obtain ⟨b9, hb_b9, h⟩ := h
    refine cg_get C (k := 11) (j := 3) (.ref b9) hc_105.1 hc_105.2 (by decide) rfl (by decide) rfl (show cV _ 11 3 x0 = _ from congrArg va_rf hb_b9) cWs_wsX110 cl_X11_35 rfl dX11_prepare_105 ?_
    obtain ⟨hc_108, h⟩ := h
    obtain ⟨hb_108, h⟩ := h
    refine cg_calli C (t_X10_size l b9 S dp h) cc_X11_240 hc_108.1 hc_108.2 (by decide) rfl rfl ⟨by decide, by decide⟩ hb_108 rfl (Nat.le_of_ble_eq_true rfl) dX11_prepare_108 (fun r_10 S_10 h => ?_)
    simp only [Nat.add_zero]
    obtain ⟨hc_111, h⟩ := h
    obtain ⟨mc11, ms12, hm_1, hm_2, h⟩ := h
    refine cg_callr C (t_X10_copyOf l mc11 ms12 b8 ((nI 0)) r_10 S_10 dp h) cc_X11_218 hc_111.1 hc_111.2 (by decide) rfl rfl ⟨by decide, by decide⟩ ⟨hm_1, hm_2⟩ rfl (Nat.le_of_ble_eq_true rfl) dX11_prepare_111 (fun r_13 S_13 h => ?_)
    obtain ⟨hc_114, h⟩ := h
    refine cg_putr C (k := 11) (j := 7) (x := (some r_13)) (ty := tyX11) (fty := tyX11 7) hc_114.1 hc_114.2 (by decide) rfl (by decide) rfl (by decide) rfl cWs_wsX110 tyX11_ok nmX11 cl_X11_49 rfl rfl rfl rfl rfl dX11_prepare_114 ?_
    refine cg_nm (fun S14 e_S14 => ?_)
    have h := h S14 e_S14
    refine cg_aload_n C (i := 0) rfl 0 rfl dX11_prepare_117 ?_
    obtain ⟨hc_118, h⟩ := h
    obtain ho | ⟨b15, ho⟩ := c_opt (cr S14 359 x0)
    · have h := h.1 ho
      refine cg_get C (k := 11) (j := 7) (.null) hc_118.1 hc_118.2 (by decide) rfl (by decide) rfl (show cV _ 11 7 x0 = _ from congrArg va_rf ho) cWs_wsX110 cl_X11_49 rfl dX11_prepare_118 ?_
      exact h.elim
    · have h := h.2 b15 ho
      refine cg_get C (k := 11) (j := 7) (.ref b15) hc_118.1 hc_118.2 (by decide) rfl (by decide) rfl (show cV _ 11 7 x0 = _ from congrArg va_rf ho) cWs_wsX110 cl_X11_49 rfl dX11_prepare_118 ?_
      obtain ⟨hc_121, h⟩ := h
      obtain ⟨hb_121, h⟩ := h
      refine cg_calli C (t_X10_size l b15 S14 dp h) cc_X11_240 hc_121.1 hc_121.2 (by decide) rfl rfl ⟨by decide, by decide⟩ hb_121 rfl (Nat.le_of_ble_eq_true rfl) dX11_prepare_121 (fun r_16 S_16 h => ?_)
      simp only [Nat.add_zero]
      obtain ⟨hb_124, h⟩ := h
      exact cg_iret C h dX11_prepare_124 hb_124.1 hb_124.2
  · have h := h.2 c_
    refine cg_aload_n C (i := 0) rfl 0 rfl dX11_prepare_82 ?_
    obtain ⟨hc_83, h⟩ := h
    obtain ⟨mc17, ms18, hm_1, hm_2, h⟩ := h
    refine cg_calli C (t_X11_doWrite l mc17 ms18 x0 S dp h) cc_X11_227 hc_83.1 hc_83.2 (by decide) rfl rfl ⟨by decide, by decide⟩ ⟨hm_1, hm_2⟩ rfl (Nat.le_of_ble_eq_true rfl) dX11_prepare_83 (fun r_19 S_19 h => ?_)
    refine cg_if_ne C 92 (by decide) dX11_prepare_86 (fun c_ => ?_) (fun c_ => ?_)
    · have h := h.1 c_
      obtain ⟨x2_20, e_x2_20⟩ : ∃ z : Int32, z = x2 + nI 1 := ⟨_, rfl⟩
      have h := h x2_20 e_x2_20
      refine cg_iinc C (lv' := [(2, .int x2_20), (0, .ref x0), (1, .int x1)]) 2 rfl (by rw [e_x2_20]; rfl) (Nat.le_of_ble_eq_true rfl) rfl dX11_prepare_92 ?_
      refine cg_goto C 77 (by decide) dX11_prepare_95 ?_
      exact cg_sub [1, 2, 0] rfl (hR77 x0 x1 x2_20 (cd + mc17) (dd + ms18) S_19 h)
    · have h := h.2 c_
      refine cg_bipush C (x := (-2)) rfl dX11_prepare_89 ?_
      obtain ⟨hb_91, h⟩ := h
      exact cg_iret C h dX11_prepare_91 hb_91.1 hb_91.2
set_option maxRecDepth 20000 in
theorem tl_X11_prepare_77 {mc ms : Nat} (C : cC p s m args meth c cX11_prepare 3 (some .int) A D Y tp dp RX11) {post : Int32 → cS → Prop}   (x0 : Nat) (x1 : Int32) (x2 : Int32) (cd dd : Nat) (S : cS) (h : k_X11_prepare_77L post dp mc ms  x0 x1 x2 cd dd S) : cG p l e (cRm 10 mc ms 241) s m args below meth c A D Y 3 (MQ below (cQi post D Y A) args s mc ms A) cd dd 77 [(0, .ref x0), (1, .int x1), (2, .int x2)] [] S :=
  h (fun y => cG p l e (cRm 10 mc ms 241) s m args below meth c A D Y 3 (MQ below (cQi post D Y A) args s mc ms A) (y.2.2.2.1) (y.2.2.2.2.1) 77 [(0, .ref (y.1)), (1, .int (y.2.1)), (2, .int (y.2.2.1))] [] (y.2.2.2.2.2)) (fun y hy => tb_X11_prepare_77 C   (fun b0 b1 b2 b3 b4 S z => z) (y.1) (y.2.1) (y.2.2.1) (y.2.2.2.1) (y.2.2.2.2.1) (y.2.2.2.2.2) hy)
set_option maxRecDepth 20000 in
theorem tb_X11_prepare_63 {mc ms : Nat} (C : cC p s m args meth c cX11_prepare 3 (some .int) A D Y tp dp RX11) {post : Int32 → cS → Prop}   (x0 : Nat) (cd dd : Nat) (S : cS) (h : k_X11_prepare_63 post dp mc ms  x0 cd dd S) : cG p l e (cRm 10 mc ms 241) s m args below meth c A D Y 3 (MQ below (cQi post D Y A) args s mc ms A) cd dd 63 [(0, .ref x0)] [] S := by
  unfold k_X11_prepare_63 at h
  refine cg_aload_n C (i := 0) rfl 0 rfl dX11_prepare_63 ?_
  obtain ⟨hc_64, h⟩ := h
  obtain ⟨b5, hb_b5, h⟩ := h
  refine cg_get C (k := 11) (j := 3) (.ref b5) hc_64.1 hc_64.2 (by decide) rfl (by decide) rfl (show cV _ 11 3 x0 = _ from congrArg va_rf hb_b5) cWs_wsX110 cl_X11_35 rfl dX11_prepare_64 ?_
  refine cg_aload_n C (i := 0) rfl 0 rfl dX11_prepare_67 ?_
  obtain ⟨hc_68, h⟩ := h
  obtain ho | ⟨b6, ho⟩ := c_opt (cr S 358 x0)
  · have h := h.1 ho
    refine cg_get C (k := 11) (j := 6) (.null) hc_68.1 hc_68.2 (by decide) rfl (by decide) rfl (show cV _ 11 6 x0 = _ from congrArg va_rf ho) cWs_wsX110 cl_X11_46 rfl dX11_prepare_68 ?_
    obtain ⟨hc_71, h⟩ := h
    obtain ⟨hb_71, h⟩ := h
    refine cg_calli C (t_X10_changedSince l b5 none S dp h) cc_X11_236 hc_71.1 hc_71.2 (by decide) rfl rfl ⟨by decide, by decide⟩ hb_71 rfl (Nat.le_of_ble_eq_true rfl) dX11_prepare_71 (fun r_7 S_7 h => ?_)
    simp only [Nat.add_zero]
    refine cg_istore_n C (i := 1) (lv' := [(1, .int r_7), (0, .ref x0)]) rfl (Nat.le_of_ble_eq_true rfl) rfl dX11_prepare_74 ?_
    refine cg_iconst C (x := nI 0) rfl dX11_prepare_75 ?_
    refine cg_istore_n C (i := 2) (lv' := [(2, .int ((nI 0))), (1, .int r_7), (0, .ref x0)]) rfl (Nat.le_of_ble_eq_true rfl) rfl dX11_prepare_76 ?_
    exact cg_sub [2, 1, 0] rfl (tl_X11_prepare_77 C   x0 r_7 (((nI 0))) cd dd S_7 h)
  · have h := h.2 b6 ho
    refine cg_get C (k := 11) (j := 6) (.ref b6) hc_68.1 hc_68.2 (by decide) rfl (by decide) rfl (show cV _ 11 6 x0 = _ from congrArg va_rf ho) cWs_wsX110 cl_X11_46 rfl dX11_prepare_68 ?_
    obtain ⟨hc_71, h⟩ := h
    obtain ⟨hb_71, h⟩ := h
    refine cg_calli C (t_X10_changedSince l b5 (some b6) S dp h) cc_X11_236 hc_71.1 hc_71.2 (by decide) rfl rfl ⟨by decide, by decide⟩ hb_71 rfl (Nat.le_of_ble_eq_true rfl) dX11_prepare_71 (fun r_21 S_21 h => ?_)
    simp only [Nat.add_zero]
    refine cg_istore_n C (i := 1) (lv' := [(1, .int r_21), (0, .ref x0)]) rfl (Nat.le_of_ble_eq_true rfl) rfl dX11_prepare_74 ?_
    refine cg_iconst C (x := nI 0) rfl dX11_prepare_75 ?_
    refine cg_istore_n C (i := 2) (lv' := [(2, .int ((nI 0))), (1, .int r_21), (0, .ref x0)]) rfl (Nat.le_of_ble_eq_true rfl) rfl dX11_prepare_76 ?_
    exact cg_sub [2, 1, 0] rfl (tl_X11_prepare_77 C   x0 r_21 (((nI 0))) cd dd S_21 h)
set_option maxRecDepth 20000 in
theorem tb_X11_prepare_41 {mc ms : Nat} (C : cC p s m args meth c cX11_prepare 3 (some .int) A D Y tp dp RX11) {post : Int32 → cS → Prop}   (x0 : Nat) (cd dd : Nat) (S : cS) (h : k_X11_prepare_41 post dp mc ms  x0 cd dd S) : cG p l e (cRm 10 mc ms 241) s m args below meth c A D Y 3 (MQ below (cQi post D Y A) args s mc ms A) cd dd 41 [(0, .ref x0)] [] S := by
  unfold k_X11_prepare_41 at h
  refine cg_aload_n C (i := 0) rfl 0 rfl dX11_prepare_41 ?_
  obtain ⟨hc_42, h⟩ := h
  obtain ⟨b3, hb_b3, h⟩ := h
  refine cg_get C (k := 11) (j := 2) (.ref b3) hc_42.1 hc_42.2 (by decide) rfl (by decide) rfl (show cV _ 11 2 x0 = _ from congrArg va_rf hb_b3) cWs_wsX110 cl_X11_26 rfl dX11_prepare_42 ?_
  obtain ⟨hc_45, h⟩ := h
  obtain ⟨hb_45, h⟩ := h
  refine cg_calli C (t_Jx4a65c_isEmpty_aae02 l b3 S dp h) cc_X11_206 hc_45.1 hc_45.2 (by decide) rfl rfl ⟨by decide, by decide⟩ hb_45 rfl (Nat.le_of_ble_eq_true rfl) dX11_prepare_45 (fun r_4 S_4 h => ?_)
  simp only [Nat.add_zero]
  refine cg_if_ne C 63 (by decide) dX11_prepare_48 (fun c_ => ?_) (fun c_ => ?_)
  · have h := h.1 c_
    exact cg_sub [0] rfl (tb_X11_prepare_63 C   x0 cd dd S_4 h)
  · have h := h.2 c_
    refine cg_aload_n C (i := 0) rfl 0 rfl dX11_prepare_51 ?_
    obtain ⟨hc_52, h⟩ := h
    obtain ⟨mc22, ms23, hm_1, hm_2, h⟩ := h
    refine cg_calli C (t_X11_flushBuffer l mc22 ms23 x0 S_4 dp h) cc_X11_210 hc_52.1 hc_52.2 (by decide) rfl rfl ⟨by decide, by decide⟩ ⟨hm_1, hm_2⟩ rfl (Nat.le_of_ble_eq_true rfl) dX11_prepare_52 (fun r_24 S_24 h => ?_)
    refine cg_bipush C (x := (-2)) rfl dX11_prepare_55 ?_
    refine cg_icmp_ne C 63 (by decide) dX11_prepare_57 (fun c_ => ?_) (fun c_ => ?_)
    · have h := h.1 c_
      exact cg_sub [0] rfl (tb_X11_prepare_63 C   x0 (cd + mc22) (dd + ms23) S_24 h)
    · have h := h.2 c_
      refine cg_bipush C (x := (-2)) rfl dX11_prepare_60 ?_
      obtain ⟨hb_62, h⟩ := h
      exact cg_iret C h dX11_prepare_62 hb_62.1 hb_62.2
end S_X11_prepare
set_option maxHeartbeats 1000000 in
set_option maxRecDepth 20000 in
theorem t_X11_prepare (l : Launch) (mc ms : Nat) (x0 : Nat) (S : cS) (dp : Nat) {P : Int32 → cS → Prop} (h : k_X11_prepare P dp mc ms x0 S) : cMet (cQi P) l yX11_prepare cX11_prepare 3 (some .int) 10 mc ms 241 [.ref x0] S dp := by
  intro D Y tp sz
  refine cg_body (by decide +kernel) (Nat.le_of_ble_eq_true rfl) ?_
  intro p e s m args below meth c C
  generalize va_A (cWd Y S) sz = A at C ⊢
  have C : cC p s m args meth c cX11_prepare 3 (some .int) A D Y tp dp RX11 := C
  refine cg_lv (lv' := [(0, .ref x0)]) rfl ?_
  unfold k_X11_prepare at h
  refine cg_aload_n C (i := 0) rfl 0 rfl dX11_prepare_0 ?_
  obtain ⟨hc_1, h⟩ := h
  obtain ⟨hb_1, h⟩ := h
  refine cg_callv C (t_X11_checkUp l x0 S dp h) cc_X11_177 hc_1.1 hc_1.2 (by decide) rfl rfl ⟨by decide, by decide⟩ hb_1 rfl (Nat.le_of_ble_eq_true rfl) dX11_prepare_1 (fun S_1 h => ?_)
  simp only [Nat.add_zero]
  refine cg_aload_n C (i := 0) rfl 0 rfl dX11_prepare_4 ?_
  obtain ⟨hc_5, h⟩ := h
  obtain ho | ⟨b2, ho⟩ := c_opt (cr S_1 359 x0)
  · have h := h.1 ho
    refine cg_get C (k := 11) (j := 7) (.null) hc_5.1 hc_5.2 (by decide) rfl (by decide) rfl (show cV _ 11 7 x0 = _ from congrArg va_rf ho) cWs_wsX110 cl_X11_49 rfl dX11_prepare_5 ?_
    refine cg_ifnonnullN C dX11_prepare_8 ?_
    refine cg_aload_n C (i := 0) rfl 0 rfl dX11_prepare_11 ?_
    obtain ⟨hc_12, h⟩ := h
    refine cg_get C (k := 11) (j := 14) (.int (ci S_1 366 x0)) hc_12.1 hc_12.2 (by decide) rfl (by decide) rfl rfl cWs_wsX110 cl_X11_84 rfl dX11_prepare_12 ?_
    refine cg_sipush C (x := nI 200) rfl dX11_prepare_15 ?_
    refine cg_icmp_lt C 41 (by decide) dX11_prepare_18 (fun c_ => ?_) (fun c_ => ?_)
    · have h := h.1 c_
      exact cg_sub [0] rfl (tb_X11_prepare_41 C   x0 0 0 S_1 h)
    · have h := h.2 c_
      refine cg_aload_n C (i := 0) rfl 0 rfl dX11_prepare_21 ?_
      obtain ⟨hc_22, h⟩ := h
      obtain ⟨b25, hb_b25, h⟩ := h
      refine cg_get C (k := 11) (j := 2) (.ref b25) hc_22.1 hc_22.2 (by decide) rfl (by decide) rfl (show cV _ 11 2 x0 = _ from congrArg va_rf hb_b25) cWs_wsX110 cl_X11_26 rfl dX11_prepare_22 ?_
      obtain ⟨hc_25, h⟩ := h
      obtain ⟨hb_25, h⟩ := h
      refine cg_calli C (t_Jx4a65c_isEmpty_aae02 l b25 S_1 dp h) cc_X11_206 hc_25.1 hc_25.2 (by decide) rfl rfl ⟨by decide, by decide⟩ hb_25 rfl (Nat.le_of_ble_eq_true rfl) dX11_prepare_25 (fun r_26 S_26 h => ?_)
      simp only [Nat.add_zero]
      refine cg_if_ne C 41 (by decide) dX11_prepare_28 (fun c_ => ?_) (fun c_ => ?_)
      · have h := h.1 c_
        exact cg_sub [0] rfl (tb_X11_prepare_41 C   x0 0 0 S_26 h)
      · have h := h.2 c_
        exact h.elim
  · have h := h.2 b2 ho
    refine cg_get C (k := 11) (j := 7) (.ref b2) hc_5.1 hc_5.2 (by decide) rfl (by decide) rfl (show cV _ 11 7 x0 = _ from congrArg va_rf ho) cWs_wsX110 cl_X11_49 rfl dX11_prepare_5 ?_
    refine cg_ifnonnull C 31 (by decide) dX11_prepare_8 ?_
    exact h.elim
def k_X11_finish (Q : Int32 → cS → Prop) (dp : Nat) (mc ms : Nat) (x0 : Nat) (S : cS) : Prop :=
cA S x0 11 ∧ ((0 ≤ mc ∧ 0 ≤ ms) ∧ (k_X11_checkUp (fun S_1 => 
cA S_1 x0 11 ∧ (((cr S_1 359 x0 = none →
  False) ∧
 (∀ b2 : Nat, cr S_1 359 x0 = some b2 →
  cA S_1 x0 11 ∧ ((∃ mc3 ms4 : Nat, 0 + mc3 ≤ mc ∧ 0 + ms4 ≤ ms ∧ (k_X11_doWrite (fun r_5 S_5 => 
  ((¬ r_5 = 0 →
    cA S_5 x0 11 ∧ (∀ S6 : cS, S6 = cSr S_5 358 x0 ((some b2)) → cA S6 x0 11 ∧ (∀ S7 : cS, S7 = cSr S6 359 x0 none → cA S7 x0 11 ∧ (cA S7 x0 11 ∧ (∀ S8 : cS, S8 = cSi S7 367 x0 ((((ci S7 367 x0)) + ((nI 1)))) → cA S8 x0 11 ∧ ((0 + mc3 ≤ mc ∧ 0 + ms4 ≤ ms) ∧ (Q ((ci S8 367 x0)) S8))))))) ∧
   (r_5 = 0 →
    (0 + mc3 ≤ mc ∧ 0 + ms4 ≤ ms) ∧ (Q (((-2))) S_5)))) dp mc3 ms4 x0 S_1))))))) dp x0 S))
set_option maxHeartbeats 1000000 in
set_option maxRecDepth 20000 in
theorem t_X11_finish (l : Launch) (mc ms : Nat) (x0 : Nat) (S : cS) (dp : Nat) {P : Int32 → cS → Prop} (h : k_X11_finish P dp mc ms x0 S) : cMet (cQi P) l yX11_finish cX11_finish 2 (some .int) 7 mc ms 153 [.ref x0] S dp := by
  intro D Y tp sz
  refine cg_body (by decide +kernel) (Nat.le_of_ble_eq_true rfl) ?_
  intro p e s m args below meth c C
  generalize va_A (cWd Y S) sz = A at C ⊢
  have C : cC p s m args meth c cX11_finish 2 (some .int) A D Y tp dp RX11 := C
  refine cg_lv (lv' := [(0, .ref x0)]) rfl ?_
  unfold k_X11_finish at h
  refine cg_aload_n C (i := 0) rfl 0 rfl dX11_finish_0 ?_
  obtain ⟨hc_1, h⟩ := h
  obtain ⟨hb_1, h⟩ := h
  refine cg_callv C (t_X11_checkUp l x0 S dp h) cc_X11_177 hc_1.1 hc_1.2 (by decide) rfl rfl ⟨by decide, by decide⟩ hb_1 rfl (Nat.le_of_ble_eq_true rfl) dX11_finish_1 (fun S_1 h => ?_)
  simp only [Nat.add_zero]
  refine cg_aload_n C (i := 0) rfl 0 rfl dX11_finish_4 ?_
  obtain ⟨hc_5, h⟩ := h
  obtain ho | ⟨b2, ho⟩ := c_opt (cr S_1 359 x0)
  · have h := h.1 ho
    refine cg_get C (k := 11) (j := 7) (.null) hc_5.1 hc_5.2 (by decide) rfl (by decide) rfl (show cV _ 11 7 x0 = _ from congrArg va_rf ho) cWs_wsX110 cl_X11_49 rfl dX11_finish_5 ?_
    refine cg_astoreN_n (lv' := [(1, .null), (0, .ref x0)]) C (i := 1) rfl (Nat.le_of_ble_eq_true rfl) rfl dX11_finish_8 ?_
    refine cg_aloadN_n C (i := 1) rfl 0 rfl dX11_finish_9 ?_
    refine cg_ifnonnullN C dX11_finish_10 ?_
    exact h.elim
  · have h := h.2 b2 ho
    refine cg_get C (k := 11) (j := 7) (.ref b2) hc_5.1 hc_5.2 (by decide) rfl (by decide) rfl (show cV _ 11 7 x0 = _ from congrArg va_rf ho) cWs_wsX110 cl_X11_49 rfl dX11_finish_5 ?_
    refine cg_astore_n (lv' := [(1, .ref b2), (0, .ref x0)]) C (i := 1) rfl (Nat.le_of_ble_eq_true rfl) rfl dX11_finish_8 ?_
    refine cg_aload_n C (i := 1) rfl 0 rfl dX11_finish_9 ?_
    refine cg_ifnonnull C 23 (by decide) dX11_finish_10 ?_
    refine cg_aload_n C (i := 0) rfl 1 rfl dX11_finish_23 ?_
    obtain ⟨hc_24, h⟩ := h
    obtain ⟨mc3, ms4, hm_1, hm_2, h⟩ := h
    refine cg_calli C (t_X11_doWrite l mc3 ms4 x0 S_1 dp h) cc_X11_227 hc_24.1 hc_24.2 (by decide) rfl rfl ⟨by decide, by decide⟩ ⟨hm_1, hm_2⟩ rfl (Nat.le_of_ble_eq_true rfl) dX11_finish_24 (fun r_5 S_5 h => ?_)
    refine cg_if_ne C 33 (by decide) dX11_finish_27 (fun c_ => ?_) (fun c_ => ?_)
    · have h := h.1 c_
      refine cg_aload_n C (i := 0) rfl 1 rfl dX11_finish_33 ?_
      refine cg_aload_n C (i := 1) rfl 0 rfl dX11_finish_34 ?_
      obtain ⟨hc_35, h⟩ := h
      refine cg_putr C (k := 11) (j := 6) (x := (some b2)) (ty := tyX11) (fty := tyX11 6) hc_35.1 hc_35.2 (by decide) rfl (by decide) rfl (by decide) rfl cWs_wsX110 tyX11_ok nmX11 cl_X11_46 rfl rfl rfl rfl rfl dX11_finish_35 ?_
      refine cg_nm (fun S6 e_S6 => ?_)
      have h := h S6 e_S6
      refine cg_aload_n C (i := 0) rfl 1 rfl dX11_finish_38 ?_
      refine cg_null C dX11_finish_39 ?_
      obtain ⟨hc_40, h⟩ := h
      refine cg_putr C (k := 11) (j := 7) (x := none) (ty := tyX11) (fty := tyX11 7) hc_40.1 hc_40.2 (by decide) rfl (by decide) rfl (by decide) rfl cWs_wsX110 tyX11_ok nmX11 cl_X11_49 rfl rfl rfl rfl rfl dX11_finish_40 ?_
      refine cg_nm (fun S7 e_S7 => ?_)
      have h := h S7 e_S7
      refine cg_aload_n C (i := 0) rfl 1 rfl dX11_finish_43 ?_
      refine cg_dup C rfl dX11_finish_44 ?_
      obtain ⟨hc_45, h⟩ := h
      refine cg_get C (k := 11) (j := 15) (.int (ci S7 367 x0)) hc_45.1 hc_45.2 (by decide) rfl (by decide) rfl rfl cWs_wsX110 cl_X11_87 rfl dX11_finish_45 ?_
      refine cg_iconst C (x := nI 1) rfl dX11_finish_48 ?_
      refine cg_iadd C dX11_finish_49 ?_
      obtain ⟨hc_50, h⟩ := h
      refine cg_puti C (k := 11) (j := 15) (ty := tyX11) (fty := .int) hc_50.1 hc_50.2 (by decide) rfl (by decide) rfl (by decide) rfl cWs_wsX110 tyX11_ok nmX11 cl_X11_87 rfl rfl rfl rfl rfl dX11_finish_50 ?_
      refine cg_nm (fun S8 e_S8 => ?_)
      have h := h S8 e_S8
      refine cg_aload_n C (i := 0) rfl 1 rfl dX11_finish_53 ?_
      obtain ⟨hc_54, h⟩ := h
      refine cg_get C (k := 11) (j := 15) (.int (ci S8 367 x0)) hc_54.1 hc_54.2 (by decide) rfl (by decide) rfl rfl cWs_wsX110 cl_X11_87 rfl dX11_finish_54 ?_
      obtain ⟨hb_57, h⟩ := h
      exact cg_iret C h dX11_finish_57 hb_57.1 hb_57.2
    · have h := h.2 c_
      refine cg_bipush C (x := (-2)) rfl dX11_finish_30 ?_
      obtain ⟨hb_32, h⟩ := h
      exact cg_iret C h dX11_finish_32 hb_32.1 hb_32.2
def k_X11_drop (Q : cS → Prop) (dp : Nat) (x0 : Nat) (S : cS) : Prop :=
cA S x0 11 ∧ (k_X11_checkUp (fun S_1 => 
cA S_1 x0 11 ∧ (((cr S_1 359 x0 = none →
  False) ∧
 (∀ b2 : Nat, cr S_1 359 x0 = some b2 →
  cA S_1 x0 11 ∧ (∀ S3 : cS, S3 = cSr S_1 359 x0 none → Q S3))))) dp x0 S)
set_option maxHeartbeats 1000000 in
set_option maxRecDepth 20000 in
theorem t_X11_drop (l : Launch) (x0 : Nat) (S : cS) (dp : Nat) {P : cS → Prop} (h : k_X11_drop P dp x0 S) : cMet (cQv P) l yX11_drop cX11_drop 1 none 1 0 0 20 [.ref x0] S dp := by
  intro D Y tp sz
  refine cg_body (by decide +kernel) (Nat.le_of_ble_eq_true rfl) ?_
  intro p e s m args below meth c C
  generalize va_A (cWd Y S) sz = A at C ⊢
  have C : cC p s m args meth c cX11_drop 1 none A D Y tp dp RX11 := C
  refine cg_lv (lv' := [(0, .ref x0)]) rfl ?_
  unfold k_X11_drop at h
  refine cg_aload_n C (i := 0) rfl 0 rfl dX11_drop_0 ?_
  obtain ⟨hc_1, h⟩ := h
  refine cg_callv C (t_X11_checkUp l x0 S dp h) cc_X11_177 hc_1.1 hc_1.2 (by decide) rfl rfl ⟨by decide, by decide⟩ ⟨by decide, by decide⟩ rfl (Nat.le_of_ble_eq_true rfl) dX11_drop_1 (fun S_1 h => ?_)
  refine cg_aload_n C (i := 0) rfl 0 rfl dX11_drop_4 ?_
  obtain ⟨hc_5, h⟩ := h
  obtain ho | ⟨b2, ho⟩ := c_opt (cr S_1 359 x0)
  · have h := h.1 ho
    refine cg_get C (k := 11) (j := 7) (.null) hc_5.1 hc_5.2 (by decide) rfl (by decide) rfl (show cV _ 11 7 x0 = _ from congrArg va_rf ho) cWs_wsX110 cl_X11_49 rfl dX11_drop_5 ?_
    refine cg_ifnonnullN C dX11_drop_8 ?_
    exact h.elim
  · have h := h.2 b2 ho
    refine cg_get C (k := 11) (j := 7) (.ref b2) hc_5.1 hc_5.2 (by decide) rfl (by decide) rfl (show cV _ 11 7 x0 = _ from congrArg va_rf ho) cWs_wsX110 cl_X11_49 rfl dX11_drop_5 ?_
    refine cg_ifnonnull C 21 (by decide) dX11_drop_8 ?_
    refine cg_aload_n C (i := 0) rfl 0 rfl dX11_drop_21 ?_
    refine cg_null C dX11_drop_22 ?_
    obtain ⟨hc_23, h⟩ := h
    refine cg_putr C (k := 11) (j := 7) (x := none) (ty := tyX11) (fty := tyX11 7) hc_23.1 hc_23.2 (by decide) rfl (by decide) rfl (by decide) rfl cWs_wsX110 tyX11_ok nmX11 cl_X11_49 rfl rfl rfl rfl rfl dX11_drop_23 ?_
    refine cg_nm (fun S3 e_S3 => ?_)
    have h := h S3 e_S3
    exact cg_vret C h dX11_drop_26 (by decide) (by decide)
def k_X11_crashAt (Q : cS → Prop) (dp : Nat) (x0 : Nat) (x1 : Int32) (S : cS) : Prop :=
((x1 < 0 →
  False) ∧
 (¬ x1 < 0 →
  ((x1 ≤ ((nI 1000)) →
    cA S x0 11 ∧ (k_X11_checkUp (fun S_1 => 
    cA S_1 x0 11 ∧ (∀ S2 : cS, S2 = cSi S_1 369 x0 x1 → Q S2)) dp x0 S)) ∧
   (¬ x1 ≤ ((nI 1000)) →
    False))))
set_option maxHeartbeats 1000000 in
set_option maxRecDepth 20000 in
theorem t_X11_crashAt (l : Launch) (x0 : Nat) (x1 : Int32) (S : cS) (dp : Nat) {P : cS → Prop} (h : k_X11_crashAt P dp x0 x1 S) : cMet (cQv P) l yX11_crashAt cX11_crashAt 2 none 1 0 0 20 [.ref x0, .int x1] S dp := by
  intro D Y tp sz
  refine cg_body (by decide +kernel) (Nat.le_of_ble_eq_true rfl) ?_
  intro p e s m args below meth c C
  generalize va_A (cWd Y S) sz = A at C ⊢
  have C : cC p s m args meth c cX11_crashAt 2 none A D Y tp dp RX11 := C
  refine cg_lv (lv' := [(0, .ref x0), (1, .int x1)]) rfl ?_
  unfold k_X11_crashAt at h
  refine cg_iload_n C (i := 1) rfl 1 rfl dX11_crashAt_0 ?_
  refine cg_if_lt C 11 (by decide) dX11_crashAt_1 (fun c_ => ?_) (fun c_ => ?_)
  · have h := h.1 c_
    exact h.elim
  · have h := h.2 c_
    refine cg_iload_n C (i := 1) rfl 1 rfl dX11_crashAt_4 ?_
    refine cg_sipush C (x := nI 1000) rfl dX11_crashAt_5 ?_
    refine cg_icmp_le C 21 (by decide) dX11_crashAt_8 (fun c_ => ?_) (fun c_ => ?_)
    · have h := h.1 c_
      refine cg_aload_n C (i := 0) rfl 0 rfl dX11_crashAt_21 ?_
      obtain ⟨hc_22, h⟩ := h
      refine cg_callv C (t_X11_checkUp l x0 S dp h) cc_X11_177 hc_22.1 hc_22.2 (by decide) rfl rfl ⟨by decide, by decide⟩ ⟨by decide, by decide⟩ rfl (Nat.le_of_ble_eq_true rfl) dX11_crashAt_22 (fun S_1 h => ?_)
      refine cg_aload_n C (i := 0) rfl 0 rfl dX11_crashAt_25 ?_
      refine cg_iload_n C (i := 1) rfl 1 rfl dX11_crashAt_26 ?_
      obtain ⟨hc_27, h⟩ := h
      refine cg_puti C (k := 11) (j := 17) (ty := tyX11) (fty := .int) hc_27.1 hc_27.2 (by decide) rfl (by decide) rfl (by decide) rfl cWs_wsX110 tyX11_ok nmX11 cl_X11_93 rfl rfl rfl rfl rfl dX11_crashAt_27 ?_
      refine cg_nm (fun S2 e_S2 => ?_)
      have h := h S2 e_S2
      exact cg_vret C h dX11_crashAt_30 (by decide) (by decide)
    · have h := h.2 c_
      exact h.elim
def k_X11_committed (Q : Nat → cS → Prop) (dp : Nat) (mc ms : Nat) (x0 : Nat) (S : cS) : Prop :=
cA S x0 11 ∧ (((cr S 358 x0 = none →
  (0 + 1 ≤ mc ∧ 0 + 2 ≤ ms) ∧ (∀ q2 : Nat, q2 ∉ cL S → ∀ S3 : cS, S3 = cNew S q2 10 → (∃ mc4 ms5 : Nat, 0 + 1 + mc4 ≤ mc ∧ 0 + 2 + ms5 ≤ ms ∧ (k_X10_init (fun S_6 => 
  (0 + 1 + mc4 ≤ mc ∧ 0 + 2 + ms5 ≤ ms) ∧ (Q q2 S_6)) dp mc4 ms5 q2 (((-1))) S3)))) ∧
 (∀ b1 : Nat, cr S 358 x0 = some b1 →
  cA S b1 10 ∧ ((0 ≤ mc ∧ 0 ≤ ms) ∧ (k_X10_size (fun r_7 S_7 => 
  cA S_7 b1 10 ∧ ((∃ mc8 ms9 : Nat, 0 + mc8 ≤ mc ∧ 0 + ms9 ≤ ms ∧ (k_X10_copyOf (fun r_10 S_10 => 
  (0 + mc8 ≤ mc ∧ 0 + ms9 ≤ ms) ∧ (Q r_10 S_10)) dp mc8 ms9 b1 ((nI 0)) r_7 S_7)))) dp b1 S)))))
set_option maxHeartbeats 1000000 in
set_option maxRecDepth 20000 in
theorem t_X11_committed (l : Launch) (mc ms : Nat) (x0 : Nat) (S : cS) (dp : Nat) {P : Nat → cS → Prop} (h : k_X11_committed P dp mc ms x0 S) : cMet (cQr P) l yX11_committed cX11_committed 2 (some (.object "SearchMill$View")) 9 mc ms 212 [.ref x0] S dp := by
  intro D Y tp sz
  refine cg_body (by decide +kernel) (Nat.le_of_ble_eq_true rfl) ?_
  intro p e s m args below meth c C
  generalize va_A (cWd Y S) sz = A at C ⊢
  have C : cC p s m args meth c cX11_committed 2 (some (.object "SearchMill$View")) A D Y tp dp RX11 := C
  refine cg_lv (lv' := [(0, .ref x0)]) rfl ?_
  unfold k_X11_committed at h
  refine cg_aload_n C (i := 0) rfl 0 rfl dX11_committed_0 ?_
  obtain ⟨hc_1, h⟩ := h
  obtain ho | ⟨b1, ho⟩ := c_opt (cr S 358 x0)
  · have h := h.1 ho
    refine cg_get C (k := 11) (j := 6) (.null) hc_1.1 hc_1.2 (by decide) rfl (by decide) rfl (show cV _ 11 6 x0 = _ from congrArg va_rf ho) cWs_wsX110 cl_X11_46 rfl dX11_committed_1 ?_
    refine cg_astoreN_n (lv' := [(1, .null), (0, .ref x0)]) C (i := 1) rfl (Nat.le_of_ble_eq_true rfl) rfl dX11_committed_4 ?_
    refine cg_aloadN_n C (i := 1) rfl 0 rfl dX11_committed_5 ?_
    refine cg_ifnonnullN C dX11_committed_6 ?_
    obtain ⟨hc_9, h⟩ := h
    refine cg_new C (k := 10) (N := 2) (fs := [.int 0, .null]) (by decide) rfl cWs_wsX100 tyX10_ok cn_X11_30 ci_X10 ct_X10 (fun j_ hj_ => by rcases (show j_ = 0 ∨ j_ = 1 by omega) with rfl | rfl <;> rfl) rfl hc_9.1 hc_9.2 dX11_committed_9 (fun q2 hf_q2 => ?_)
    have h := h q2 hf_q2
    refine cg_nm (fun S3 e_S3 => ?_)
    have h := h S3 e_S3
    refine cg_dup C rfl dX11_committed_12 ?_
    refine cg_iconst C (x := (-1)) rfl dX11_committed_13 ?_
    obtain ⟨mc4, ms5, hm_1, hm_2, h⟩ := h
    refine cg_callI C (t_X10_init l mc4 ms5 q2 (((-1))) S3 dp h) cz_X11_32 rfl ⟨by decide, by decide⟩ ⟨hm_1, hm_2⟩ rfl (Nat.le_of_ble_eq_true rfl) dX11_committed_14 (fun S_6 h => ?_)
    refine cg_goto C 29 (by decide) dX11_committed_17 ?_
    obtain ⟨hb_29, h⟩ := h
    exact cg_aret C rfl (by first | exact Or.inl ⟨_, rfl⟩ | exact Or.inr ⟨_, rfl⟩) h dX11_committed_29 hb_29.1 hb_29.2
  · have h := h.2 b1 ho
    refine cg_get C (k := 11) (j := 6) (.ref b1) hc_1.1 hc_1.2 (by decide) rfl (by decide) rfl (show cV _ 11 6 x0 = _ from congrArg va_rf ho) cWs_wsX110 cl_X11_46 rfl dX11_committed_1 ?_
    refine cg_astore_n (lv' := [(1, .ref b1), (0, .ref x0)]) C (i := 1) rfl (Nat.le_of_ble_eq_true rfl) rfl dX11_committed_4 ?_
    refine cg_aload_n C (i := 1) rfl 0 rfl dX11_committed_5 ?_
    refine cg_ifnonnull C 20 (by decide) dX11_committed_6 ?_
    refine cg_aload_n C (i := 1) rfl 0 rfl dX11_committed_20 ?_
    refine cg_iconst C (x := nI 0) rfl dX11_committed_21 ?_
    refine cg_aload_n C (i := 1) rfl 0 rfl dX11_committed_22 ?_
    obtain ⟨hc_23, h⟩ := h
    obtain ⟨hb_23, h⟩ := h
    refine cg_calli C (t_X10_size l b1 S dp h) cc_X11_240 hc_23.1 hc_23.2 (by decide) rfl rfl ⟨by decide, by decide⟩ hb_23 rfl (Nat.le_of_ble_eq_true rfl) dX11_committed_23 (fun r_7 S_7 h => ?_)
    simp only [Nat.add_zero]
    obtain ⟨hc_26, h⟩ := h
    obtain ⟨mc8, ms9, hm_1, hm_2, h⟩ := h
    refine cg_callr C (t_X10_copyOf l mc8 ms9 b1 ((nI 0)) r_7 S_7 dp h) cc_X11_218 hc_26.1 hc_26.2 (by decide) rfl rfl ⟨by decide, by decide⟩ ⟨hm_1, hm_2⟩ rfl (Nat.le_of_ble_eq_true rfl) dX11_committed_26 (fun r_10 S_10 h => ?_)
    obtain ⟨hb_29, h⟩ := h
    exact cg_aret C rfl (by first | exact Or.inl ⟨_, rfl⟩ | exact Or.inr ⟨_, rfl⟩) h dX11_committed_29 hb_29.1 hb_29.2
def k_X11_open (Q : Int32 → cS → Prop) (dp : Nat) (mc ms : Nat) (x0 : Nat) (S : cS) : Prop :=
cA S x0 11 ∧ (((¬ ((ci S 370 x0)) = 0 →
  cA S x0 11 ∧ (∀ S1 : cS, S1 = cSi S 370 x0 ((bI false)) → cA S1 x0 11 ∧ (∀ S2 : cS, S2 = cSi S1 369 x0 (((-1))) → cA S2 x0 11 ∧ ((∃ mc3 ms4 : Nat, 0 + mc3 ≤ mc ∧ 0 + ms4 ≤ ms ∧ (k_X11_committed (fun r_5 S_5 => 
  cA S_5 x0 11 ∧ (∀ S6 : cS, S6 = cSr S_5 355 x0 ((some r_5)) → cA S6 x0 11 ∧ ((∃ b7 : Nat, cr S6 355 x0 = some b7 ∧ (cA S6 b7 10 ∧ ((0 + mc3 ≤ mc ∧ 0 + ms4 ≤ ms) ∧ (k_X10_size (fun r_8 S_8 => 
  (0 + mc3 ≤ mc ∧ 0 + ms4 ≤ ms) ∧ (Q r_8 S_8)) dp b7 S6))))))) dp mc3 ms4 x0 S2)))))) ∧
 (((ci S 370 x0)) = 0 →
  False)))
set_option maxHeartbeats 1000000 in
set_option maxRecDepth 20000 in
theorem t_X11_open (l : Launch) (mc ms : Nat) (x0 : Nat) (S : cS) (dp : Nat) {P : Int32 → cS → Prop} (h : k_X11_open P dp mc ms x0 S) : cMet (cQi P) l yX11_open cX11_open 1 (some .int) 10 mc ms 233 [.ref x0] S dp := by
  intro D Y tp sz
  refine cg_body (by decide +kernel) (Nat.le_of_ble_eq_true rfl) ?_
  intro p e s m args below meth c C
  generalize va_A (cWd Y S) sz = A at C ⊢
  have C : cC p s m args meth c cX11_open 1 (some .int) A D Y tp dp RX11 := C
  refine cg_lv (lv' := [(0, .ref x0)]) rfl ?_
  unfold k_X11_open at h
  refine cg_aload_n C (i := 0) rfl 0 rfl dX11_open_0 ?_
  obtain ⟨hc_1, h⟩ := h
  refine cg_get C (k := 11) (j := 18) (.int (ci S 370 x0)) hc_1.1 hc_1.2 (by decide) rfl (by decide) rfl rfl cWs_wsX110 cl_X11_96 rfl dX11_open_1 ?_
  refine cg_if_ne C 17 (by decide) dX11_open_4 (fun c_ => ?_) (fun c_ => ?_)
  · have h := h.1 c_
    refine cg_aload_n C (i := 0) rfl 0 rfl dX11_open_17 ?_
    refine cg_iconst C (x := nI 0) rfl dX11_open_18 ?_
    obtain ⟨hc_19, h⟩ := h
    refine cg_cast (.int (bI false)) rfl ?_
    refine cg_puti C (k := 11) (j := 18) (ty := tyX11) (fty := .boolean) hc_19.1 hc_19.2 (by decide) rfl (by decide) rfl (by decide) rfl cWs_wsX110 tyX11_ok nmX11 cl_X11_96 rfl rfl rfl (bI_nar _) (bI_fit _) dX11_open_19 ?_
    refine cg_nm (fun S1 e_S1 => ?_)
    have h := h S1 e_S1
    refine cg_aload_n C (i := 0) rfl 0 rfl dX11_open_22 ?_
    refine cg_iconst C (x := (-1)) rfl dX11_open_23 ?_
    obtain ⟨hc_24, h⟩ := h
    refine cg_puti C (k := 11) (j := 17) (ty := tyX11) (fty := .int) hc_24.1 hc_24.2 (by decide) rfl (by decide) rfl (by decide) rfl cWs_wsX110 tyX11_ok nmX11 cl_X11_93 rfl rfl rfl rfl rfl dX11_open_24 ?_
    refine cg_nm (fun S2 e_S2 => ?_)
    have h := h S2 e_S2
    refine cg_aload_n C (i := 0) rfl 0 rfl dX11_open_27 ?_
    refine cg_aload_n C (i := 0) rfl 0 rfl dX11_open_28 ?_
    obtain ⟨hc_29, h⟩ := h
    obtain ⟨mc3, ms4, hm_1, hm_2, h⟩ := h
    refine cg_callr C (t_X11_committed l mc3 ms4 x0 S2 dp h) cc_X11_247 hc_29.1 hc_29.2 (by decide) rfl rfl ⟨by decide, by decide⟩ ⟨hm_1, hm_2⟩ rfl (Nat.le_of_ble_eq_true rfl) dX11_open_29 (fun r_5 S_5 h => ?_)
    obtain ⟨hc_32, h⟩ := h
    refine cg_putr C (k := 11) (j := 3) (x := (some r_5)) (ty := tyX11) (fty := tyX11 3) hc_32.1 hc_32.2 (by decide) rfl (by decide) rfl (by decide) rfl cWs_wsX110 tyX11_ok nmX11 cl_X11_35 rfl rfl rfl rfl rfl dX11_open_32 ?_
    refine cg_nm (fun S6 e_S6 => ?_)
    have h := h S6 e_S6
    refine cg_aload_n C (i := 0) rfl 0 rfl dX11_open_35 ?_
    obtain ⟨hc_36, h⟩ := h
    obtain ⟨b7, hb_b7, h⟩ := h
    refine cg_get C (k := 11) (j := 3) (.ref b7) hc_36.1 hc_36.2 (by decide) rfl (by decide) rfl (show cV _ 11 3 x0 = _ from congrArg va_rf hb_b7) cWs_wsX110 cl_X11_35 rfl dX11_open_36 ?_
    obtain ⟨hc_39, h⟩ := h
    obtain ⟨hb_39, h⟩ := h
    refine cg_calli C (t_X10_size l b7 S6 dp h) cc_X11_240 hc_39.1 hc_39.2 (by decide) rfl rfl ⟨by decide, by decide⟩ hb_39 rfl (Nat.le_of_ble_eq_true rfl) dX11_open_39 (fun r_8 S_8 h => ?_)
    simp only [Nat.add_zero]
    obtain ⟨hb_42, h⟩ := h
    exact cg_iret C h dX11_open_42 hb_42.1 hb_42.2
  · have h := h.2 c_
    exact h.elim
def k_X11_isDown (Q : Int32 → cS → Prop) (dp : Nat) (x0 : Nat) (S : cS) : Prop :=
cA S x0 11 ∧ (isZ ((ci S 370 x0)) ∧ (Q ((ci S 370 x0)) S))
set_option maxHeartbeats 1000000 in
set_option maxRecDepth 20000 in
theorem t_X11_isDown (l : Launch) (x0 : Nat) (S : cS) (dp : Nat) {P : Int32 → cS → Prop} (h : k_X11_isDown P dp x0 S) : cMet (cQi P) l yX11_isDown cX11_isDown 1 (some .boolean) 0 0 0 0 [.ref x0] S dp := by
  intro D Y tp sz
  refine cg_body (by decide +kernel) (Nat.le_of_ble_eq_true rfl) ?_
  intro p e s m args below meth c C
  generalize va_A (cWd Y S) sz = A at C ⊢
  have C : cC p s m args meth c cX11_isDown 1 (some .boolean) A D Y tp dp RX11 := C
  refine cg_lv (lv' := [(0, .ref x0)]) rfl ?_
  unfold k_X11_isDown at h
  refine cg_aload_n C (i := 0) rfl 0 rfl dX11_isDown_0 ?_
  obtain ⟨hc_1, h⟩ := h
  refine cg_get C (k := 11) (j := 18) (.int (ci S 370 x0)) hc_1.1 hc_1.2 (by decide) rfl (by decide) rfl rfl cWs_wsX110 cl_X11_96 rfl dX11_isDown_1 ?_
  obtain ⟨hz_4, h⟩ := h
  exact cg_zret C (isZ_nar hz_4) h dX11_isDown_4 (by decide) (by decide)
def k_X11_fileCount_102 (Q : Int32 → cS → Prop) (dp : Nat) (mc ms : Nat)  (x0 : Nat) (x1 : Nat) (x2 : Int32) (cd dd : Nat) (S : cS) : Prop :=
cA S x0 11 ∧ (((cr S 359 x0 = none →
  (cd ≤ mc ∧ dd ≤ ms) ∧ (Q x2 S)) ∧
 (∀ b11 : Nat, cr S 359 x0 = some b11 →
  cA S x0 11 ∧ (((cr S 359 x0 = none →
    False) ∧
   (∀ b12 : Nat, cr S 359 x0 = some b12 →
    cA S b12 10 ∧ ((cd ≤ mc ∧ dd ≤ ms) ∧ (k_X10_newFiles (fun r_13 S_13 => 
    cA S_13 x0 11 ∧ (((cr S_13 359 x0 = none →
      cA S_13 x0 11 ∧ (((cr S_13 358 x0 = none →
        False) ∧
       (∀ b15 : Nat, cr S_13 358 x0 = some b15 →
        False)))) ∧
     (∀ b14 : Nat, cr S_13 359 x0 = some b14 →
      cA S_13 x0 11 ∧ (((cr S_13 358 x0 = none →
        cA S_13 b14 10 ∧ ((cd ≤ mc ∧ dd ≤ ms) ∧ (k_X10_deletionFiles (fun r_17 S_17 => 
        ∀ x2_18 : Int32, x2_18 = (x2 + ((((((nI 1)) + r_13)) + r_17))) → (cd ≤ mc ∧ dd ≤ ms) ∧ (Q x2_18 S_17)) dp b14 none S_13))) ∧
       (∀ b16 : Nat, cr S_13 358 x0 = some b16 →
        cA S_13 b14 10 ∧ ((cd ≤ mc ∧ dd ≤ ms) ∧ (k_X10_deletionFiles (fun r_19 S_19 => 
        ∀ x2_20 : Int32, x2_20 = (x2 + ((((((nI 1)) + r_13)) + r_19))) → (cd ≤ mc ∧ dd ≤ ms) ∧ (Q x2_20 S_19)) dp b14 (some b16) S_13))))))))) dp b12 x1 S))))))))
def k_X11_fileCount_38 (Q : Int32 → cS → Prop) (dp : Nat) (mc ms : Nat) (R38 : Nat → Nat → Int32 → Int32 → Nat → Nat → cS → Prop) (x0 : Nat) (x1 : Nat) (x2 : Int32) (x3 : Int32) (cd dd : Nat) (S : cS) : Prop :=
cA S x0 11 ∧ ((∃ b8 : Nat, cr S 360 x0 = some b8 ∧ (cA S b8 12 ∧ ((cd ≤ mc ∧ dd ≤ ms) ∧ (k_Jx4a65c_size_8abf5 (fun r_9 S_9 => 
((r_9 ≤ x3 →
  cA S_9 x0 11 ∧ (((cr S_9 358 x0 = none →
    k_X11_fileCount_102 Q dp mc ms  x0 x1 x2 cd dd S_9) ∧
   (∀ b10 : Nat, cr S_9 358 x0 = some b10 →
    cA S_9 x0 11 ∧ (((cr S_9 358 x0 = none →
      False) ∧
     (∀ b21 : Nat, cr S_9 358 x0 = some b21 →
      cA S_9 b21 10 ∧ ((cd ≤ mc ∧ dd ≤ ms) ∧ (k_X10_newFiles (fun r_22 S_22 => 
      cA S_22 x0 11 ∧ (((cr S_22 358 x0 = none →
        False) ∧
       (∀ b23 : Nat, cr S_22 358 x0 = some b23 →
        cA S_22 b23 10 ∧ ((cd ≤ mc ∧ dd ≤ ms) ∧ (k_X10_deletionFiles (fun r_24 S_24 => 
        ∀ x2_25 : Int32, x2_25 = (x2 + ((((((nI 1)) + r_22)) + r_24))) → k_X11_fileCount_102 Q dp mc ms  x0 x1 x2_25 cd dd S_24) dp b23 none S_22)))))) dp b21 x1 S_9))))))))) ∧
 (¬ r_9 ≤ x3 →
  cA S_9 x0 11 ∧ ((∃ b26 : Nat, cr S_9 360 x0 = some b26 ∧ (cA S_9 b26 12 ∧ ((cd ≤ mc ∧ dd ≤ ms) ∧ (k_Jx4a65c_get_915e3 (fun r_27 S_27 => 
  cA S_27 r_27 10 ∧ (cA S_27 r_27 10 ∧ ((cd ≤ mc ∧ dd ≤ ms) ∧ (k_X10_newFiles (fun r_28 S_28 => 
  ∀ x2_29 : Int32, x2_29 = (x2 + r_28) → ∀ x3_30 : Int32, x3_30 = x3 + nI 1 → R38 x0 x1 x2_29 x3_30 cd dd S_28) dp r_27 x1 S_27)))) dp b26 x3 S_9)))))))) dp b8 S)))))
def k_X11_fileCount_38L (Q : Int32 → cS → Prop) (dp : Nat) (mc ms : Nat)  (x0 : Nat) (x1 : Nat) (x2 : Int32) (x3 : Int32) (cd dd : Nat) (S : cS) : Prop :=
  lfp (X := Nat × Nat × Int32 × Int32 × Nat × Nat × cS) (fun P y => k_X11_fileCount_38 Q dp mc ms  (fun b0 b1 b2 b3 b4 b5 S => P (b0, b1, b2, b3, b4, b5, S)) y.1 y.2.1 y.2.2.1 y.2.2.2.1 y.2.2.2.2.1 y.2.2.2.2.2.1 y.2.2.2.2.2.2) (x0, x1, x2, x3, cd, dd, S)
def k_X11_fileCount_34 (Q : Int32 → cS → Prop) (dp : Nat) (mc ms : Nat)  (x0 : Nat) (x1 : Nat) (t0 : Int32) (t1 : Int32) (cd dd : Nat) (S : cS) : Prop :=
∀ x2_7 : Int32, x2_7 = (t1 + t0) → k_X11_fileCount_38L Q dp mc ms  x0 x1 x2_7 (((nI 0))) cd dd S
def k_X11_fileCount_33 (Q : Int32 → cS → Prop) (dp : Nat) (mc ms : Nat)  (x0 : Nat) (x1 : Nat) (t0 : Int32) (cd dd : Nat) (S : cS) : Prop :=
k_X11_fileCount_34 Q dp mc ms  x0 x1 ((nI 0)) t0 cd dd S
def k_X11_fileCount (Q : Int32 → cS → Prop) (dp : Nat) (mc ms : Nat) (x0 : Nat) (S : cS) : Prop :=
cA S x0 11 ∧ ((∃ n1 : Nat, (ci S 366 x0) = nI n1 ∧ n1 < 2 ^ 20 ∧ 0 + 1 ≤ mc ∧ 0 + n1 ≤ ms ∧ (∀ q2 : Nat, q2 ∉ cL S → ∀ S3 : cS, S3 = cNewA S q2 16 n1 → cA S3 x0 11 ∧ ((∃ b4 : Nat, cr S3 355 x0 = some b4 ∧ (cA S3 b4 10 ∧ ((0 + 1 ≤ mc ∧ 0 + n1 ≤ ms) ∧ (k_X10_newFiles (fun r_5 S_5 => 
cA S_5 x0 11 ∧ (((cr S_5 356 x0 = none →
  k_X11_fileCount_33 Q dp mc ms  x0 q2 r_5 (0 + 1) (0 + n1) S_5) ∧
 (∀ b6 : Nat, cr S_5 356 x0 = some b6 →
  cA S_5 x0 11 ∧ (((((ci S_5 357 x0)) ≤ 0 →
    k_X11_fileCount_33 Q dp mc ms  x0 q2 r_5 (0 + 1) (0 + n1) S_5) ∧
   (¬ ((ci S_5 357 x0)) ≤ 0 →
    k_X11_fileCount_34 Q dp mc ms  x0 q2 ((nI 1)) r_5 (0 + 1) (0 + n1) S_5))))))) dp b4 q2 S3))))))))
section S_X11_fileCount
variable {p : Program} {l : Launch} {e : Env} {s : State} {m : MethodId} {args : Array Value} {below : List Frame} {meth : Method} {c : Code} {A : Nat → Prop} {D : va_G} {Y : cY} {tp dp : Nat}
set_option maxRecDepth 20000 in
theorem tb_X11_fileCount_102 {mc ms : Nat} (C : cC p s m args meth c cX11_fileCount 4 (some .int) A D Y tp dp RX11) {post : Int32 → cS → Prop}   (x0 : Nat) (x1 : Nat) (x2 : Int32) (cd dd : Nat) (S : cS) (h : k_X11_fileCount_102 post dp mc ms  x0 x1 x2 cd dd S) : cG p l e (cRm 6 mc ms 132) s m args below meth c A D Y 4 (MQ below (cQi post D Y A) args s mc ms A) cd dd 102 [(0, .ref x0), (1, .ref x1), (2, .int x2)] [] S := by
  unfold k_X11_fileCount_102 at h
  refine cg_aload_n C (i := 0) rfl 0 rfl dX11_fileCount_102 ?_
  obtain ⟨hc_103, h⟩ := h
  obtain ho | ⟨b11, ho⟩ := c_opt (cr S 359 x0)
  · have h := h.1 ho
    refine cg_get C (k := 11) (j := 7) (.null) hc_103.1 hc_103.2 (by decide) rfl (by decide) rfl (show cV _ 11 7 x0 = _ from congrArg va_rf ho) cWs_wsX110 cl_X11_49 rfl dX11_fileCount_103 ?_
    refine cg_ifnullN C 134 (by decide) dX11_fileCount_106 ?_
    refine cg_iload_n C (i := 2) rfl 2 rfl dX11_fileCount_134 ?_
    obtain ⟨hb_135, h⟩ := h
    exact cg_iret C h dX11_fileCount_135 hb_135.1 hb_135.2
  · have h := h.2 b11 ho
    refine cg_get C (k := 11) (j := 7) (.ref b11) hc_103.1 hc_103.2 (by decide) rfl (by decide) rfl (show cV _ 11 7 x0 = _ from congrArg va_rf ho) cWs_wsX110 cl_X11_49 rfl dX11_fileCount_103 ?_
    refine cg_ifnull C dX11_fileCount_106 ?_
    refine cg_iload_n C (i := 2) rfl 2 rfl dX11_fileCount_109 ?_
    refine cg_iconst C (x := nI 1) rfl dX11_fileCount_110 ?_
    refine cg_aload_n C (i := 0) rfl 0 rfl dX11_fileCount_111 ?_
    obtain ⟨hc_112, h⟩ := h
    obtain ho | ⟨b12, ho⟩ := c_opt (cr S 359 x0)
    · have h := h.1 ho
      refine cg_get C (k := 11) (j := 7) (.null) hc_112.1 hc_112.2 (by decide) rfl (by decide) rfl (show cV _ 11 7 x0 = _ from congrArg va_rf ho) cWs_wsX110 cl_X11_49 rfl dX11_fileCount_112 ?_
      refine cg_aload_n C (i := 1) rfl 1 rfl dX11_fileCount_115 ?_
      exact h.elim
    · have h := h.2 b12 ho
      refine cg_get C (k := 11) (j := 7) (.ref b12) hc_112.1 hc_112.2 (by decide) rfl (by decide) rfl (show cV _ 11 7 x0 = _ from congrArg va_rf ho) cWs_wsX110 cl_X11_49 rfl dX11_fileCount_112 ?_
      refine cg_aload_n C (i := 1) rfl 1 rfl dX11_fileCount_115 ?_
      obtain ⟨hc_116, h⟩ := h
      obtain ⟨hb_116, h⟩ := h
      refine cg_calli C (t_X10_newFiles l b12 x1 S dp h) cc_X11_525 hc_116.1 hc_116.2 (by decide) rfl rfl ⟨by decide, by decide⟩ hb_116 rfl (Nat.le_of_ble_eq_true rfl) dX11_fileCount_116 (fun r_13 S_13 h => ?_)
      simp only [Nat.add_zero]
      refine cg_iadd C dX11_fileCount_119 ?_
      refine cg_aload_n C (i := 0) rfl 0 rfl dX11_fileCount_120 ?_
      obtain ⟨hc_121, h⟩ := h
      obtain ho | ⟨b14, ho⟩ := c_opt (cr S_13 359 x0)
      · have h := h.1 ho
        refine cg_get C (k := 11) (j := 7) (.null) hc_121.1 hc_121.2 (by decide) rfl (by decide) rfl (show cV _ 11 7 x0 = _ from congrArg va_rf ho) cWs_wsX110 cl_X11_49 rfl dX11_fileCount_121 ?_
        refine cg_aload_n C (i := 0) rfl 0 rfl dX11_fileCount_124 ?_
        obtain ⟨hc_125, h⟩ := h
        obtain ho | ⟨b15, ho⟩ := c_opt (cr S_13 358 x0)
        · have h := h.1 ho
          refine cg_get C (k := 11) (j := 6) (.null) hc_125.1 hc_125.2 (by decide) rfl (by decide) rfl (show cV _ 11 6 x0 = _ from congrArg va_rf ho) cWs_wsX110 cl_X11_46 rfl dX11_fileCount_125 ?_
          exact h.elim
        · have h := h.2 b15 ho
          refine cg_get C (k := 11) (j := 6) (.ref b15) hc_125.1 hc_125.2 (by decide) rfl (by decide) rfl (show cV _ 11 6 x0 = _ from congrArg va_rf ho) cWs_wsX110 cl_X11_46 rfl dX11_fileCount_125 ?_
          exact h.elim
      · have h := h.2 b14 ho
        refine cg_get C (k := 11) (j := 7) (.ref b14) hc_121.1 hc_121.2 (by decide) rfl (by decide) rfl (show cV _ 11 7 x0 = _ from congrArg va_rf ho) cWs_wsX110 cl_X11_49 rfl dX11_fileCount_121 ?_
        refine cg_aload_n C (i := 0) rfl 0 rfl dX11_fileCount_124 ?_
        obtain ⟨hc_125, h⟩ := h
        obtain ho | ⟨b16, ho⟩ := c_opt (cr S_13 358 x0)
        · have h := h.1 ho
          refine cg_get C (k := 11) (j := 6) (.null) hc_125.1 hc_125.2 (by decide) rfl (by decide) rfl (show cV _ 11 6 x0 = _ from congrArg va_rf ho) cWs_wsX110 cl_X11_46 rfl dX11_fileCount_125 ?_
          obtain ⟨hc_128, h⟩ := h
          obtain ⟨hb_128, h⟩ := h
          refine cg_calli C (t_X10_deletionFiles l b14 none S_13 dp h) cc_X11_529 hc_128.1 hc_128.2 (by decide) rfl rfl ⟨by decide, by decide⟩ hb_128 rfl (Nat.le_of_ble_eq_true rfl) dX11_fileCount_128 (fun r_17 S_17 h => ?_)
          simp only [Nat.add_zero]
          refine cg_iadd C dX11_fileCount_131 ?_
          refine cg_iadd C dX11_fileCount_132 ?_
          refine cg_nmI (fun x2_18 e_x2_18 => ?_)
          have h := h x2_18 e_x2_18
          refine cg_istore_n C (i := 2) (lv' := [(2, .int x2_18), (0, .ref x0), (1, .ref x1)]) rfl (Nat.le_of_ble_eq_true rfl) rfl dX11_fileCount_133 ?_
          refine cg_iload_n C (i := 2) rfl 0 rfl dX11_fileCount_134 ?_
          obtain ⟨hb_135, h⟩ := h
          exact cg_iret C h dX11_fileCount_135 hb_135.1 hb_135.2
        · have h := h.2 b16 ho
          refine cg_get C (k := 11) (j := 6) (.ref b16) hc_125.1 hc_125.2 (by decide) rfl (by decide) rfl (show cV _ 11 6 x0 = _ from congrArg va_rf ho) cWs_wsX110 cl_X11_46 rfl dX11_fileCount_125 ?_
          obtain ⟨hc_128, h⟩ := h
          obtain ⟨hb_128, h⟩ := h
          refine cg_calli C (t_X10_deletionFiles l b14 (some b16) S_13 dp h) cc_X11_529 hc_128.1 hc_128.2 (by decide) rfl rfl ⟨by decide, by decide⟩ hb_128 rfl (Nat.le_of_ble_eq_true rfl) dX11_fileCount_128 (fun r_19 S_19 h => ?_)
          simp only [Nat.add_zero]
          refine cg_iadd C dX11_fileCount_131 ?_
          refine cg_iadd C dX11_fileCount_132 ?_
          refine cg_nmI (fun x2_20 e_x2_20 => ?_)
          have h := h x2_20 e_x2_20
          refine cg_istore_n C (i := 2) (lv' := [(2, .int x2_20), (0, .ref x0), (1, .ref x1)]) rfl (Nat.le_of_ble_eq_true rfl) rfl dX11_fileCount_133 ?_
          refine cg_iload_n C (i := 2) rfl 0 rfl dX11_fileCount_134 ?_
          obtain ⟨hb_135, h⟩ := h
          exact cg_iret C h dX11_fileCount_135 hb_135.1 hb_135.2
set_option maxRecDepth 20000 in
theorem tb_X11_fileCount_38 {mc ms : Nat} (C : cC p s m args meth c cX11_fileCount 4 (some .int) A D Y tp dp RX11) {post : Int32 → cS → Prop} {R38 : Nat → Nat → Int32 → Int32 → Nat → Nat → cS → Prop} (hR38 : ∀ (x0 : Nat) (x1 : Nat) (x2 : Int32) (x3 : Int32) (cd dd : Nat) (S : cS), R38 x0 x1 x2 x3 cd dd S → cG p l e (cRm 6 mc ms 132) s m args below meth c A D Y 4 (MQ below (cQi post D Y A) args s mc ms A) cd dd 38 [(0, .ref x0), (1, .ref x1), (2, .int x2), (3, .int x3)] [] S) (x0 : Nat) (x1 : Nat) (x2 : Int32) (x3 : Int32) (cd dd : Nat) (S : cS) (h : k_X11_fileCount_38 post dp mc ms R38 x0 x1 x2 x3 cd dd S) : cG p l e (cRm 6 mc ms 132) s m args below meth c A D Y 4 (MQ below (cQi post D Y A) args s mc ms A) cd dd 38 [(0, .ref x0), (1, .ref x1), (2, .int x2), (3, .int x3)] [] S := by
  unfold k_X11_fileCount_38 at h
  refine cg_iload_n C (i := 3) rfl 3 rfl dX11_fileCount_38 ?_
  refine cg_aload_n C (i := 0) rfl 0 rfl dX11_fileCount_39 ?_
  obtain ⟨hc_40, h⟩ := h
  obtain ⟨b8, hb_b8, h⟩ := h
  refine cg_get C (k := 11) (j := 8) (.ref b8) hc_40.1 hc_40.2 (by decide) rfl (by decide) rfl (show cV _ 11 8 x0 = _ from congrArg va_rf hb_b8) cWs_wsX110 cl_X11_52 rfl dX11_fileCount_40 ?_
  obtain ⟨hc_43, h⟩ := h
  obtain ⟨hb_43, h⟩ := h
  refine cg_calli C (t_Jx4a65c_size_8abf5 l b8 S dp h) cc_X11_180 hc_43.1 hc_43.2 (by decide) rfl rfl ⟨by decide, by decide⟩ hb_43 rfl (Nat.le_of_ble_eq_true rfl) dX11_fileCount_43 (fun r_9 S_9 h => ?_)
  simp only [Nat.add_zero]
  refine cg_icmp_ge C 73 (by decide) dX11_fileCount_46 (fun c_ => ?_) (fun c_ => ?_)
  · have h := h.1 c_
    refine cg_aload_n C (i := 0) rfl 0 rfl dX11_fileCount_73 ?_
    obtain ⟨hc_74, h⟩ := h
    obtain ho | ⟨b10, ho⟩ := c_opt (cr S_9 358 x0)
    · have h := h.1 ho
      refine cg_get C (k := 11) (j := 6) (.null) hc_74.1 hc_74.2 (by decide) rfl (by decide) rfl (show cV _ 11 6 x0 = _ from congrArg va_rf ho) cWs_wsX110 cl_X11_46 rfl dX11_fileCount_74 ?_
      refine cg_ifnullN C 102 (by decide) dX11_fileCount_77 ?_
      exact cg_sub [0, 1, 2] rfl (tb_X11_fileCount_102 C   x0 x1 x2 cd dd S_9 h)
    · have h := h.2 b10 ho
      refine cg_get C (k := 11) (j := 6) (.ref b10) hc_74.1 hc_74.2 (by decide) rfl (by decide) rfl (show cV _ 11 6 x0 = _ from congrArg va_rf ho) cWs_wsX110 cl_X11_46 rfl dX11_fileCount_74 ?_
      refine cg_ifnull C dX11_fileCount_77 ?_
      refine cg_iload_n C (i := 2) rfl 2 rfl dX11_fileCount_80 ?_
      refine cg_iconst C (x := nI 1) rfl dX11_fileCount_81 ?_
      refine cg_aload_n C (i := 0) rfl 0 rfl dX11_fileCount_82 ?_
      obtain ⟨hc_83, h⟩ := h
      obtain ho | ⟨b21, ho⟩ := c_opt (cr S_9 358 x0)
      · have h := h.1 ho
        refine cg_get C (k := 11) (j := 6) (.null) hc_83.1 hc_83.2 (by decide) rfl (by decide) rfl (show cV _ 11 6 x0 = _ from congrArg va_rf ho) cWs_wsX110 cl_X11_46 rfl dX11_fileCount_83 ?_
        refine cg_aload_n C (i := 1) rfl 1 rfl dX11_fileCount_86 ?_
        exact h.elim
      · have h := h.2 b21 ho
        refine cg_get C (k := 11) (j := 6) (.ref b21) hc_83.1 hc_83.2 (by decide) rfl (by decide) rfl (show cV _ 11 6 x0 = _ from congrArg va_rf ho) cWs_wsX110 cl_X11_46 rfl dX11_fileCount_83 ?_
        refine cg_aload_n C (i := 1) rfl 1 rfl dX11_fileCount_86 ?_
        obtain ⟨hc_87, h⟩ := h
        obtain ⟨hb_87, h⟩ := h
        refine cg_calli C (t_X10_newFiles l b21 x1 S_9 dp h) cc_X11_525 hc_87.1 hc_87.2 (by decide) rfl rfl ⟨by decide, by decide⟩ hb_87 rfl (Nat.le_of_ble_eq_true rfl) dX11_fileCount_87 (fun r_22 S_22 h => ?_)
        simp only [Nat.add_zero]
        refine cg_iadd C dX11_fileCount_90 ?_
        refine cg_aload_n C (i := 0) rfl 0 rfl dX11_fileCount_91 ?_
        obtain ⟨hc_92, h⟩ := h
        obtain ho | ⟨b23, ho⟩ := c_opt (cr S_22 358 x0)
        · have h := h.1 ho
          refine cg_get C (k := 11) (j := 6) (.null) hc_92.1 hc_92.2 (by decide) rfl (by decide) rfl (show cV _ 11 6 x0 = _ from congrArg va_rf ho) cWs_wsX110 cl_X11_46 rfl dX11_fileCount_92 ?_
          refine cg_null C dX11_fileCount_95 ?_
          exact h.elim
        · have h := h.2 b23 ho
          refine cg_get C (k := 11) (j := 6) (.ref b23) hc_92.1 hc_92.2 (by decide) rfl (by decide) rfl (show cV _ 11 6 x0 = _ from congrArg va_rf ho) cWs_wsX110 cl_X11_46 rfl dX11_fileCount_92 ?_
          refine cg_null C dX11_fileCount_95 ?_
          obtain ⟨hc_96, h⟩ := h
          obtain ⟨hb_96, h⟩ := h
          refine cg_calli C (t_X10_deletionFiles l b23 none S_22 dp h) cc_X11_529 hc_96.1 hc_96.2 (by decide) rfl rfl ⟨by decide, by decide⟩ hb_96 rfl (Nat.le_of_ble_eq_true rfl) dX11_fileCount_96 (fun r_24 S_24 h => ?_)
          simp only [Nat.add_zero]
          refine cg_iadd C dX11_fileCount_99 ?_
          refine cg_iadd C dX11_fileCount_100 ?_
          refine cg_nmI (fun x2_25 e_x2_25 => ?_)
          have h := h x2_25 e_x2_25
          refine cg_istore_n C (i := 2) (lv' := [(2, .int x2_25), (0, .ref x0), (1, .ref x1), (3, .int x3)]) rfl (Nat.le_of_ble_eq_true rfl) rfl dX11_fileCount_101 ?_
          exact cg_sub [1, 2, 0] rfl (tb_X11_fileCount_102 C   x0 x1 x2_25 cd dd S_24 h)
  · have h := h.2 c_
    refine cg_iload_n C (i := 2) rfl 2 rfl dX11_fileCount_49 ?_
    refine cg_aload_n C (i := 0) rfl 0 rfl dX11_fileCount_50 ?_
    obtain ⟨hc_51, h⟩ := h
    obtain ⟨b26, hb_b26, h⟩ := h
    refine cg_get C (k := 11) (j := 8) (.ref b26) hc_51.1 hc_51.2 (by decide) rfl (by decide) rfl (show cV _ 11 8 x0 = _ from congrArg va_rf hb_b26) cWs_wsX110 cl_X11_52 rfl dX11_fileCount_51 ?_
    refine cg_iload_n C (i := 3) rfl 3 rfl dX11_fileCount_54 ?_
    obtain ⟨hc_55, h⟩ := h
    obtain ⟨hb_55, h⟩ := h
    refine cg_callr C (t_Jx4a65c_get_915e3 l b26 x3 S_9 dp h) cc_X11_277 hc_55.1 hc_55.2 (by decide) rfl rfl ⟨by decide, by decide⟩ hb_55 rfl (Nat.le_of_ble_eq_true rfl) dX11_fileCount_55 (fun r_27 S_27 h => ?_)
    simp only [Nat.add_zero]
    obtain ⟨hc_58, h⟩ := h
    refine cg_ccast C (k := 10) hc_58.1 hc_58.2 (by decide) rfl cnc_X11_30 dX11_fileCount_58 ?_
    refine cg_aload_n C (i := 1) rfl 1 rfl dX11_fileCount_61 ?_
    obtain ⟨hc_62, h⟩ := h
    obtain ⟨hb_62, h⟩ := h
    refine cg_calli C (t_X10_newFiles l r_27 x1 S_27 dp h) cc_X11_525 hc_62.1 hc_62.2 (by decide) rfl rfl ⟨by decide, by decide⟩ hb_62 rfl (Nat.le_of_ble_eq_true rfl) dX11_fileCount_62 (fun r_28 S_28 h => ?_)
    simp only [Nat.add_zero]
    refine cg_iadd C dX11_fileCount_65 ?_
    refine cg_nmI (fun x2_29 e_x2_29 => ?_)
    have h := h x2_29 e_x2_29
    refine cg_istore_n C (i := 2) (lv' := [(2, .int x2_29), (0, .ref x0), (1, .ref x1), (3, .int x3)]) rfl (Nat.le_of_ble_eq_true rfl) rfl dX11_fileCount_66 ?_
    obtain ⟨x3_30, e_x3_30⟩ : ∃ z : Int32, z = x3 + nI 1 := ⟨_, rfl⟩
    have h := h x3_30 e_x3_30
    refine cg_iinc C (lv' := [(3, .int x3_30), (2, .int x2_29), (0, .ref x0), (1, .ref x1)]) 3 rfl (by rw [e_x3_30]; rfl) (Nat.le_of_ble_eq_true rfl) rfl dX11_fileCount_67 ?_
    refine cg_goto C 38 (by decide) dX11_fileCount_70 ?_
    exact cg_sub [2, 3, 1, 0] rfl (hR38 x0 x1 x2_29 x3_30 cd dd S_28 h)
set_option maxRecDepth 20000 in
theorem tl_X11_fileCount_38 {mc ms : Nat} (C : cC p s m args meth c cX11_fileCount 4 (some .int) A D Y tp dp RX11) {post : Int32 → cS → Prop}   (x0 : Nat) (x1 : Nat) (x2 : Int32) (x3 : Int32) (cd dd : Nat) (S : cS) (h : k_X11_fileCount_38L post dp mc ms  x0 x1 x2 x3 cd dd S) : cG p l e (cRm 6 mc ms 132) s m args below meth c A D Y 4 (MQ below (cQi post D Y A) args s mc ms A) cd dd 38 [(0, .ref x0), (1, .ref x1), (2, .int x2), (3, .int x3)] [] S :=
  h (fun y => cG p l e (cRm 6 mc ms 132) s m args below meth c A D Y 4 (MQ below (cQi post D Y A) args s mc ms A) (y.2.2.2.2.1) (y.2.2.2.2.2.1) 38 [(0, .ref (y.1)), (1, .ref (y.2.1)), (2, .int (y.2.2.1)), (3, .int (y.2.2.2.1))] [] (y.2.2.2.2.2.2)) (fun y hy => tb_X11_fileCount_38 C   (fun b0 b1 b2 b3 b4 b5 S z => z) (y.1) (y.2.1) (y.2.2.1) (y.2.2.2.1) (y.2.2.2.2.1) (y.2.2.2.2.2.1) (y.2.2.2.2.2.2) hy)
set_option maxRecDepth 20000 in
theorem tb_X11_fileCount_34 {mc ms : Nat} (C : cC p s m args meth c cX11_fileCount 4 (some .int) A D Y tp dp RX11) {post : Int32 → cS → Prop}   (x0 : Nat) (x1 : Nat) (t0 : Int32) (t1 : Int32) (cd dd : Nat) (S : cS) (h : k_X11_fileCount_34 post dp mc ms  x0 x1 t0 t1 cd dd S) : cG p l e (cRm 6 mc ms 132) s m args below meth c A D Y 4 (MQ below (cQi post D Y A) args s mc ms A) cd dd 34 [(0, .ref x0), (1, .ref x1)] [.int t0, .int t1] S := by
  unfold k_X11_fileCount_34 at h
  refine cg_iadd C dX11_fileCount_34 ?_
  refine cg_nmI (fun x2_7 e_x2_7 => ?_)
  have h := h x2_7 e_x2_7
  refine cg_istore_n C (i := 2) (lv' := [(2, .int x2_7), (0, .ref x0), (1, .ref x1)]) rfl (Nat.le_of_ble_eq_true rfl) rfl dX11_fileCount_35 ?_
  refine cg_iconst C (x := nI 0) rfl dX11_fileCount_36 ?_
  refine cg_istore_n C (i := 3) (lv' := [(3, .int ((nI 0))), (2, .int x2_7), (0, .ref x0), (1, .ref x1)]) rfl (Nat.le_of_ble_eq_true rfl) rfl dX11_fileCount_37 ?_
  exact cg_sub [2, 3, 1, 0] rfl (tl_X11_fileCount_38 C   x0 x1 x2_7 (((nI 0))) cd dd S h)
set_option maxRecDepth 20000 in
theorem tb_X11_fileCount_33 {mc ms : Nat} (C : cC p s m args meth c cX11_fileCount 4 (some .int) A D Y tp dp RX11) {post : Int32 → cS → Prop}   (x0 : Nat) (x1 : Nat) (t0 : Int32) (cd dd : Nat) (S : cS) (h : k_X11_fileCount_33 post dp mc ms  x0 x1 t0 cd dd S) : cG p l e (cRm 6 mc ms 132) s m args below meth c A D Y 4 (MQ below (cQi post D Y A) args s mc ms A) cd dd 33 [(0, .ref x0), (1, .ref x1)] [.int t0] S := by
  unfold k_X11_fileCount_33 at h
  refine cg_iconst C (x := nI 0) rfl dX11_fileCount_33 ?_
  exact cg_sub [0, 1] rfl (tb_X11_fileCount_34 C   x0 x1 ((nI 0)) t0 cd dd S h)
end S_X11_fileCount
set_option maxHeartbeats 1000000 in
set_option maxRecDepth 20000 in
theorem t_X11_fileCount (l : Launch) (mc ms : Nat) (x0 : Nat) (S : cS) (dp : Nat) {P : Int32 → cS → Prop} (h : k_X11_fileCount P dp mc ms x0 S) : cMet (cQi P) l yX11_fileCount cX11_fileCount 4 (some .int) 6 mc ms 132 [.ref x0] S dp := by
  intro D Y tp sz
  refine cg_body (by decide +kernel) (Nat.le_of_ble_eq_true rfl) ?_
  intro p e s m args below meth c C
  generalize va_A (cWd Y S) sz = A at C ⊢
  have C : cC p s m args meth c cX11_fileCount 4 (some .int) A D Y tp dp RX11 := C
  refine cg_lv (lv' := [(0, .ref x0)]) rfl ?_
  unfold k_X11_fileCount at h
  refine cg_aload_n C (i := 0) rfl 0 rfl dX11_fileCount_0 ?_
  obtain ⟨hc_1, h⟩ := h
  refine cg_get C (k := 11) (j := 14) (.int (ci S 366 x0)) hc_1.1 hc_1.2 (by decide) rfl (by decide) rfl rfl cWs_wsX110 cl_X11_84 rfl dX11_fileCount_1 ?_
  obtain ⟨n1, hn_1, hn_2, hn_3, hn_4, h⟩ := h
  refine cg_cast (.int (nI n1)) (congrArg Value.int hn_1) ?_
  refine cg_newZ C n1 hn_2 ca_boolean hn_3 hn_4 dX11_fileCount_4 (fun q2 hf_q2 => ?_)
  have h := h q2 hf_q2
  refine cg_nm (fun S3 e_S3 => ?_)
  have h := h S3 e_S3
  refine cg_astore_n (lv' := [(1, .ref q2), (0, .ref x0)]) C (i := 1) rfl (Nat.le_of_ble_eq_true rfl) rfl dX11_fileCount_6 ?_
  refine cg_aload_n C (i := 0) rfl 1 rfl dX11_fileCount_7 ?_
  obtain ⟨hc_8, h⟩ := h
  obtain ⟨b4, hb_b4, h⟩ := h
  refine cg_get C (k := 11) (j := 3) (.ref b4) hc_8.1 hc_8.2 (by decide) rfl (by decide) rfl (show cV _ 11 3 x0 = _ from congrArg va_rf hb_b4) cWs_wsX110 cl_X11_35 rfl dX11_fileCount_8 ?_
  refine cg_aload_n C (i := 1) rfl 0 rfl dX11_fileCount_11 ?_
  obtain ⟨hc_12, h⟩ := h
  obtain ⟨hb_12, h⟩ := h
  refine cg_calli C (t_X10_newFiles l b4 q2 S3 dp h) cc_X11_525 hc_12.1 hc_12.2 (by decide) rfl rfl ⟨by decide, by decide⟩ hb_12 rfl (Nat.le_of_ble_eq_true rfl) dX11_fileCount_12 (fun r_5 S_5 h => ?_)
  simp only [Nat.add_zero]
  refine cg_aload_n C (i := 0) rfl 1 rfl dX11_fileCount_15 ?_
  obtain ⟨hc_16, h⟩ := h
  obtain ho | ⟨b6, ho⟩ := c_opt (cr S_5 356 x0)
  · have h := h.1 ho
    refine cg_get C (k := 11) (j := 4) (.null) hc_16.1 hc_16.2 (by decide) rfl (by decide) rfl (show cV _ 11 4 x0 = _ from congrArg va_rf ho) cWs_wsX110 cl_X11_39 rfl dX11_fileCount_16 ?_
    refine cg_ifnullN C 33 (by decide) dX11_fileCount_19 ?_
    exact cg_sub [1, 0] rfl (tb_X11_fileCount_33 C   x0 q2 r_5 (0 + 1) (0 + n1) S_5 h)
  · have h := h.2 b6 ho
    refine cg_get C (k := 11) (j := 4) (.ref b6) hc_16.1 hc_16.2 (by decide) rfl (by decide) rfl (show cV _ 11 4 x0 = _ from congrArg va_rf ho) cWs_wsX110 cl_X11_39 rfl dX11_fileCount_16 ?_
    refine cg_ifnull C dX11_fileCount_19 ?_
    refine cg_aload_n C (i := 0) rfl 1 rfl dX11_fileCount_22 ?_
    obtain ⟨hc_23, h⟩ := h
    refine cg_get C (k := 11) (j := 5) (.int (ci S_5 357 x0)) hc_23.1 hc_23.2 (by decide) rfl (by decide) rfl rfl cWs_wsX110 cl_X11_42 rfl dX11_fileCount_23 ?_
    refine cg_if_le C 33 (by decide) dX11_fileCount_26 (fun c_ => ?_) (fun c_ => ?_)
    · have h := h.1 c_
      exact cg_sub [1, 0] rfl (tb_X11_fileCount_33 C   x0 q2 r_5 (0 + 1) (0 + n1) S_5 h)
    · have h := h.2 c_
      refine cg_iconst C (x := nI 1) rfl dX11_fileCount_29 ?_
      refine cg_goto C 34 (by decide) dX11_fileCount_30 ?_
      exact cg_sub [1, 0] rfl (tb_X11_fileCount_34 C   x0 q2 ((nI 1)) r_5 (0 + 1) (0 + n1) S_5 h)
def k_X11_files (Q : Int32 → cS → Prop) (dp : Nat) (mc ms : Nat) (x0 : Nat) (S : cS) : Prop :=
cA S x0 11 ∧ ((0 ≤ mc ∧ 0 ≤ ms) ∧ (k_X11_checkUp (fun S_1 => 
cA S_1 x0 11 ∧ ((∃ mc2 ms3 : Nat, 0 + mc2 ≤ mc ∧ 0 + ms3 ≤ ms ∧ (k_X11_fileCount (fun r_4 S_4 => 
(0 + mc2 ≤ mc ∧ 0 + ms3 ≤ ms) ∧ (Q r_4 S_4)) dp mc2 ms3 x0 S_1)))) dp x0 S))
set_option maxHeartbeats 1000000 in
set_option maxRecDepth 20000 in
theorem t_X11_files (l : Launch) (mc ms : Nat) (x0 : Nat) (S : cS) (dp : Nat) {P : Int32 → cS → Prop} (h : k_X11_files P dp mc ms x0 S) : cMet (cQi P) l yX11_files cX11_files 1 (some .int) 7 mc ms 155 [.ref x0] S dp := by
  intro D Y tp sz
  refine cg_body (by decide +kernel) (Nat.le_of_ble_eq_true rfl) ?_
  intro p e s m args below meth c C
  generalize va_A (cWd Y S) sz = A at C ⊢
  have C : cC p s m args meth c cX11_files 1 (some .int) A D Y tp dp RX11 := C
  refine cg_lv (lv' := [(0, .ref x0)]) rfl ?_
  unfold k_X11_files at h
  refine cg_aload_n C (i := 0) rfl 0 rfl dX11_files_0 ?_
  obtain ⟨hc_1, h⟩ := h
  obtain ⟨hb_1, h⟩ := h
  refine cg_callv C (t_X11_checkUp l x0 S dp h) cc_X11_177 hc_1.1 hc_1.2 (by decide) rfl rfl ⟨by decide, by decide⟩ hb_1 rfl (Nat.le_of_ble_eq_true rfl) dX11_files_1 (fun S_1 h => ?_)
  simp only [Nat.add_zero]
  refine cg_aload_n C (i := 0) rfl 0 rfl dX11_files_4 ?_
  obtain ⟨hc_5, h⟩ := h
  obtain ⟨mc2, ms3, hm_1, hm_2, h⟩ := h
  refine cg_calli C (t_X11_fileCount l mc2 ms3 x0 S_1 dp h) cc_X11_251 hc_5.1 hc_5.2 (by decide) rfl rfl ⟨by decide, by decide⟩ ⟨hm_1, hm_2⟩ rfl (Nat.le_of_ble_eq_true rfl) dX11_files_5 (fun r_4 S_4 h => ?_)
  obtain ⟨hb_8, h⟩ := h
  exact cg_iret C h dX11_files_8 hb_8.1 hb_8.2
def k_X11_writes (Q : Int32 → cS → Prop) (dp : Nat) (x0 : Nat) (S : cS) : Prop :=
cA S x0 11 ∧ (Q ((ci S 368 x0)) S)
set_option maxHeartbeats 1000000 in
set_option maxRecDepth 20000 in
theorem t_X11_writes (l : Launch) (x0 : Nat) (S : cS) (dp : Nat) {P : Int32 → cS → Prop} (h : k_X11_writes P dp x0 S) : cMet (cQi P) l yX11_writes cX11_writes 1 (some .int) 0 0 0 0 [.ref x0] S dp := by
  intro D Y tp sz
  refine cg_body (by decide +kernel) (Nat.le_of_ble_eq_true rfl) ?_
  intro p e s m args below meth c C
  generalize va_A (cWd Y S) sz = A at C ⊢
  have C : cC p s m args meth c cX11_writes 1 (some .int) A D Y tp dp RX11 := C
  refine cg_lv (lv' := [(0, .ref x0)]) rfl ?_
  unfold k_X11_writes at h
  refine cg_aload_n C (i := 0) rfl 0 rfl dX11_writes_0 ?_
  obtain ⟨hc_1, h⟩ := h
  refine cg_get C (k := 11) (j := 16) (.int (ci S 368 x0)) hc_1.1 hc_1.2 (by decide) rfl (by decide) rfl rfl cWs_wsX110 cl_X11_90 rfl dX11_writes_1 ?_
  exact cg_iret C h dX11_writes_4 (by decide) (by decide)
def k_X11_segments (Q : Int32 → cS → Prop) (dp : Nat) (x0 : Nat) (S : cS) : Prop :=
cA S x0 11 ∧ (k_X11_checkUp (fun S_1 => 
cA S_1 x0 11 ∧ ((∃ b2 : Nat, cr S_1 355 x0 = some b2 ∧ (cA S_1 b2 10 ∧ (k_X10_size (fun r_3 S_3 => 
Q r_3 S_3) dp b2 S_1))))) dp x0 S)
set_option maxHeartbeats 1000000 in
set_option maxRecDepth 20000 in
theorem t_X11_segments (l : Launch) (x0 : Nat) (S : cS) (dp : Nat) {P : Int32 → cS → Prop} (h : k_X11_segments P dp x0 S) : cMet (cQi P) l yX11_segments cX11_segments 1 (some .int) 2 0 0 40 [.ref x0] S dp := by
  intro D Y tp sz
  refine cg_body (by decide +kernel) (Nat.le_of_ble_eq_true rfl) ?_
  intro p e s m args below meth c C
  generalize va_A (cWd Y S) sz = A at C ⊢
  have C : cC p s m args meth c cX11_segments 1 (some .int) A D Y tp dp RX11 := C
  refine cg_lv (lv' := [(0, .ref x0)]) rfl ?_
  unfold k_X11_segments at h
  refine cg_aload_n C (i := 0) rfl 0 rfl dX11_segments_0 ?_
  obtain ⟨hc_1, h⟩ := h
  refine cg_callv C (t_X11_checkUp l x0 S dp h) cc_X11_177 hc_1.1 hc_1.2 (by decide) rfl rfl ⟨by decide, by decide⟩ ⟨by decide, by decide⟩ rfl (Nat.le_of_ble_eq_true rfl) dX11_segments_1 (fun S_1 h => ?_)
  refine cg_aload_n C (i := 0) rfl 0 rfl dX11_segments_4 ?_
  obtain ⟨hc_5, h⟩ := h
  obtain ⟨b2, hb_b2, h⟩ := h
  refine cg_get C (k := 11) (j := 3) (.ref b2) hc_5.1 hc_5.2 (by decide) rfl (by decide) rfl (show cV _ 11 3 x0 = _ from congrArg va_rf hb_b2) cWs_wsX110 cl_X11_35 rfl dX11_segments_5 ?_
  obtain ⟨hc_8, h⟩ := h
  refine cg_calli C (t_X10_size l b2 S_1 dp h) cc_X11_240 hc_8.1 hc_8.2 (by decide) rfl rfl ⟨by decide, by decide⟩ ⟨by decide, by decide⟩ rfl (Nat.le_of_ble_eq_true rfl) dX11_segments_8 (fun r_3 S_3 h => ?_)
  exact cg_iret C h dX11_segments_11 (by decide) (by decide)
def k_X11_holdingAt (Q : Nat → cS → Prop) (dp : Nat) (x0 : Nat) (x1 : Int32) (S : cS) : Prop :=
cA S x0 11 ∧ ((∃ b1 : Nat, cr S 355 x0 = some b1 ∧ (cA S b1 10 ∧ (k_X10_at (fun r_2 S_2 => 
((r_2 = none →
  cA S_2 x0 11 ∧ (((¬ ((ci S_2 370 x0)) = 0 →
    False) ∧
   (((ci S_2 370 x0)) = 0 →
    False)))) ∧
 (∀ b3 : Nat, r_2 = some b3 →
  cA S_2 x0 11 ∧ (((¬ ((ci S_2 370 x0)) = 0 →
    False) ∧
   (((ci S_2 370 x0)) = 0 →
    Q b3 S_2)))))) dp b1 x1 S))))
set_option maxHeartbeats 1000000 in
set_option maxRecDepth 20000 in
theorem t_X11_holdingAt (l : Launch) (x0 : Nat) (x1 : Int32) (S : cS) (dp : Nat) {P : Nat → cS → Prop} (h : k_X11_holdingAt P dp x0 x1 S) : cMet (cQr P) l yX11_holdingAt cX11_holdingAt 3 (some (.object "SearchMill$Holding")) 4 0 0 85 [.ref x0, .int x1] S dp := by
  intro D Y tp sz
  refine cg_body (by decide +kernel) (Nat.le_of_ble_eq_true rfl) ?_
  intro p e s m args below meth c C
  generalize va_A (cWd Y S) sz = A at C ⊢
  have C : cC p s m args meth c cX11_holdingAt 3 (some (.object "SearchMill$Holding")) A D Y tp dp RX11 := C
  refine cg_lv (lv' := [(0, .ref x0), (1, .int x1)]) rfl ?_
  unfold k_X11_holdingAt at h
  refine cg_aload_n C (i := 0) rfl 0 rfl dX11_holdingAt_0 ?_
  obtain ⟨hc_1, h⟩ := h
  obtain ⟨b1, hb_b1, h⟩ := h
  refine cg_get C (k := 11) (j := 3) (.ref b1) hc_1.1 hc_1.2 (by decide) rfl (by decide) rfl (show cV _ 11 3 x0 = _ from congrArg va_rf hb_b1) cWs_wsX110 cl_X11_35 rfl dX11_holdingAt_1 ?_
  refine cg_iload_n C (i := 1) rfl 1 rfl dX11_holdingAt_4 ?_
  obtain ⟨hc_5, h⟩ := h
  refine cg_callq C (t_X10_at l b1 x1 S dp h) cc_X11_478 hc_5.1 hc_5.2 (by decide) rfl rfl ⟨by decide, by decide⟩ ⟨by decide, by decide⟩ rfl (Nat.le_of_ble_eq_true rfl) dX11_holdingAt_5 (fun r_2 S_2 h => ?_)
  obtain ho | ⟨b3, ho⟩ := c_opt r_2
  · replace h := h.1 ho
    subst ho
    refine cg_cast (.null) rfl ?_
    refine cg_astoreN_n (lv' := [(2, .null), (0, .ref x0), (1, .int x1)]) C (i := 2) rfl (Nat.le_of_ble_eq_true rfl) rfl dX11_holdingAt_8 ?_
    refine cg_aload_n C (i := 0) rfl 1 rfl dX11_holdingAt_9 ?_
    obtain ⟨hc_10, h⟩ := h
    refine cg_get C (k := 11) (j := 18) (.int (ci S_2 370 x0)) hc_10.1 hc_10.2 (by decide) rfl (by decide) rfl rfl cWs_wsX110 cl_X11_96 rfl dX11_holdingAt_10 ?_
    refine cg_if_ne C 20 (by decide) dX11_holdingAt_13 (fun c_ => ?_) (fun c_ => ?_)
    · have h := h.1 c_
      exact h.elim
    · have h := h.2 c_
      refine cg_aloadN_n C (i := 2) rfl 0 rfl dX11_holdingAt_16 ?_
      refine cg_ifnonnullN C dX11_holdingAt_17 ?_
      exact h.elim
  · replace h := h.2 b3 ho
    subst ho
    refine cg_cast (.ref b3) rfl ?_
    refine cg_astore_n (lv' := [(2, .ref b3), (0, .ref x0), (1, .int x1)]) C (i := 2) rfl (Nat.le_of_ble_eq_true rfl) rfl dX11_holdingAt_8 ?_
    refine cg_aload_n C (i := 0) rfl 1 rfl dX11_holdingAt_9 ?_
    obtain ⟨hc_10, h⟩ := h
    refine cg_get C (k := 11) (j := 18) (.int (ci S_2 370 x0)) hc_10.1 hc_10.2 (by decide) rfl (by decide) rfl rfl cWs_wsX110 cl_X11_96 rfl dX11_holdingAt_10 ?_
    refine cg_if_ne C 20 (by decide) dX11_holdingAt_13 (fun c_ => ?_) (fun c_ => ?_)
    · have h := h.1 c_
      exact h.elim
    · have h := h.2 c_
      refine cg_aload_n C (i := 2) rfl 0 rfl dX11_holdingAt_16 ?_
      refine cg_ifnonnull C 31 (by decide) dX11_holdingAt_17 ?_
      refine cg_aload_n C (i := 2) rfl 0 rfl dX11_holdingAt_31 ?_
      exact cg_aret C rfl (by first | exact Or.inl ⟨_, rfl⟩ | exact Or.inr ⟨_, rfl⟩) h dX11_holdingAt_32 (by decide) (by decide)
def k_X11_segmentAt (Q : Int32 → cS → Prop) (dp : Nat) (x0 : Nat) (x1 : Int32) (S : cS) : Prop :=
cA S x0 11 ∧ (k_X11_holdingAt (fun r_1 S_1 => 
cA S_1 r_1 2 ∧ ((∃ b2 : Nat, cr S_1 64 r_1 = some b2 ∧ (cA S_1 b2 8 ∧ (Q ((ci S_1 256 b2)) S_1))))) dp x0 x1 S)
set_option maxHeartbeats 1000000 in
set_option maxRecDepth 20000 in
theorem t_X11_segmentAt (l : Launch) (x0 : Nat) (x1 : Int32) (S : cS) (dp : Nat) {P : Int32 → cS → Prop} (h : k_X11_segmentAt P dp x0 x1 S) : cMet (cQi P) l yX11_segmentAt cX11_segmentAt 2 (some .int) 5 0 0 107 [.ref x0, .int x1] S dp := by
  intro D Y tp sz
  refine cg_body (by decide +kernel) (Nat.le_of_ble_eq_true rfl) ?_
  intro p e s m args below meth c C
  generalize va_A (cWd Y S) sz = A at C ⊢
  have C : cC p s m args meth c cX11_segmentAt 2 (some .int) A D Y tp dp RX11 := C
  refine cg_lv (lv' := [(0, .ref x0), (1, .int x1)]) rfl ?_
  unfold k_X11_segmentAt at h
  refine cg_aload_n C (i := 0) rfl 0 rfl dX11_segmentAt_0 ?_
  refine cg_iload_n C (i := 1) rfl 1 rfl dX11_segmentAt_1 ?_
  obtain ⟨hc_2, h⟩ := h
  refine cg_callr C (t_X11_holdingAt l x0 x1 S dp h) cc_X11_254 hc_2.1 hc_2.2 (by decide) rfl rfl ⟨by decide, by decide⟩ ⟨by decide, by decide⟩ rfl (Nat.le_of_ble_eq_true rfl) dX11_segmentAt_2 (fun r_1 S_1 h => ?_)
  obtain ⟨hc_5, h⟩ := h
  obtain ⟨b2, hb_b2, h⟩ := h
  refine cg_get C (k := 2) (j := 0) (.ref b2) hc_5.1 hc_5.2 (by decide) rfl (by decide) rfl (show cV _ 2 0 r_1 = _ from congrArg va_rf hb_b2) cWs_wsX20 cl_X11_258 rfl dX11_segmentAt_5 ?_
  obtain ⟨hc_8, h⟩ := h
  refine cg_get C (k := 8) (j := 0) (.int (ci S_1 256 b2)) hc_8.1 hc_8.2 (by decide) rfl (by decide) rfl rfl cWs_wsX80 cl_X11_264 rfl dX11_segmentAt_8 ?_
  exact cg_iret C h dX11_segmentAt_11 (by decide) (by decide)
def k_X11_live (Q : Int32 → cS → Prop) (dp : Nat) (x0 : Nat) (x1 : Int32) (S : cS) : Prop :=
cA S x0 11 ∧ (k_X11_holdingAt (fun r_1 S_1 => 
cA S_1 r_1 2 ∧ (k_X2_liveCount (fun r_2 S_2 => 
Q r_2 S_2) dp r_1 S_1)) dp x0 x1 S)
set_option maxHeartbeats 1000000 in
set_option maxRecDepth 20000 in
theorem t_X11_live (l : Launch) (x0 : Nat) (x1 : Int32) (S : cS) (dp : Nat) {P : Int32 → cS → Prop} (h : k_X11_live P dp x0 x1 S) : cMet (cQi P) l yX11_live cX11_live 2 (some .int) 5 0 0 107 [.ref x0, .int x1] S dp := by
  intro D Y tp sz
  refine cg_body (by decide +kernel) (Nat.le_of_ble_eq_true rfl) ?_
  intro p e s m args below meth c C
  generalize va_A (cWd Y S) sz = A at C ⊢
  have C : cC p s m args meth c cX11_live 2 (some .int) A D Y tp dp RX11 := C
  refine cg_lv (lv' := [(0, .ref x0), (1, .int x1)]) rfl ?_
  unfold k_X11_live at h
  refine cg_aload_n C (i := 0) rfl 0 rfl dX11_live_0 ?_
  refine cg_iload_n C (i := 1) rfl 1 rfl dX11_live_1 ?_
  obtain ⟨hc_2, h⟩ := h
  refine cg_callr C (t_X11_holdingAt l x0 x1 S dp h) cc_X11_254 hc_2.1 hc_2.2 (by decide) rfl rfl ⟨by decide, by decide⟩ ⟨by decide, by decide⟩ rfl (Nat.le_of_ble_eq_true rfl) dX11_live_2 (fun r_1 S_1 h => ?_)
  obtain ⟨hc_5, h⟩ := h
  refine cg_calli C (t_X2_liveCount l r_1 S_1 dp h) cc_X11_267 hc_5.1 hc_5.2 (by decide) rfl rfl ⟨by decide, by decide⟩ ⟨by decide, by decide⟩ rfl (Nat.le_of_ble_eq_true rfl) dX11_live_5 (fun r_2 S_2 h => ?_)
  exact cg_iret C h dX11_live_8 (by decide) (by decide)
def k_X11_keyAt (Q : Int32 → cS → Prop) (dp : Nat) (x0 : Nat) (x1 : Int32) (x2 : Int32) (S : cS) : Prop :=
cA S x0 11 ∧ (k_X11_holdingAt (fun r_1 S_1 => 
cA S_1 r_1 2 ∧ ((∃ b2 : Nat, cr S_1 64 r_1 = some b2 ∧ (((x2 < 0 →
  False) ∧
 (¬ x2 < 0 →
  cA S_1 b2 8 ∧ (k_X8_size (fun r_3 S_3 => 
  ((x2 < r_3 →
    cA S_3 b2 8 ∧ ((∃ b4 : Nat, cr S_3 257 b2 = some b4 ∧ (cA S_3 b4 12 ∧ (k_Jx4a65c_get_915e3 (fun r_5 S_5 => 
    cA S_5 r_5 0 ∧ (cA S_5 r_5 0 ∧ (Q ((ci S_5 0 r_5)) S_5))) dp b4 x2 S_3))))) ∧
   (¬ x2 < r_3 →
    False))) dp b2 S_1))))))) dp x0 x1 S)
set_option maxHeartbeats 1000000 in
set_option maxRecDepth 20000 in
theorem t_X11_keyAt (l : Launch) (x0 : Nat) (x1 : Int32) (x2 : Int32) (S : cS) (dp : Nat) {P : Int32 → cS → Prop} (h : k_X11_keyAt P dp x0 x1 x2 S) : cMet (cQi P) l yX11_keyAt cX11_keyAt 4 (some .int) 5 0 0 107 [.ref x0, .int x1, .int x2] S dp := by
  intro D Y tp sz
  refine cg_body (by decide +kernel) (Nat.le_of_ble_eq_true rfl) ?_
  intro p e s m args below meth c C
  generalize va_A (cWd Y S) sz = A at C ⊢
  have C : cC p s m args meth c cX11_keyAt 4 (some .int) A D Y tp dp RX11 := C
  refine cg_lv (lv' := [(0, .ref x0), (1, .int x1), (2, .int x2)]) rfl ?_
  unfold k_X11_keyAt at h
  refine cg_aload_n C (i := 0) rfl 0 rfl dX11_keyAt_0 ?_
  refine cg_iload_n C (i := 1) rfl 1 rfl dX11_keyAt_1 ?_
  obtain ⟨hc_2, h⟩ := h
  refine cg_callr C (t_X11_holdingAt l x0 x1 S dp h) cc_X11_254 hc_2.1 hc_2.2 (by decide) rfl rfl ⟨by decide, by decide⟩ ⟨by decide, by decide⟩ rfl (Nat.le_of_ble_eq_true rfl) dX11_keyAt_2 (fun r_1 S_1 h => ?_)
  obtain ⟨hc_5, h⟩ := h
  obtain ⟨b2, hb_b2, h⟩ := h
  refine cg_get C (k := 2) (j := 0) (.ref b2) hc_5.1 hc_5.2 (by decide) rfl (by decide) rfl (show cV _ 2 0 r_1 = _ from congrArg va_rf hb_b2) cWs_wsX20 cl_X11_258 rfl dX11_keyAt_5 ?_
  refine cg_astore_n (lv' := [(3, .ref b2), (0, .ref x0), (1, .int x1), (2, .int x2)]) C (i := 3) rfl (Nat.le_of_ble_eq_true rfl) rfl dX11_keyAt_8 ?_
  refine cg_iload_n C (i := 2) rfl 3 rfl dX11_keyAt_9 ?_
  refine cg_if_lt C 21 (by decide) dX11_keyAt_10 (fun c_ => ?_) (fun c_ => ?_)
  · have h := h.1 c_
    exact h.elim
  · have h := h.2 c_
    refine cg_iload_n C (i := 2) rfl 3 rfl dX11_keyAt_13 ?_
    refine cg_aload_n C (i := 3) rfl 0 rfl dX11_keyAt_14 ?_
    obtain ⟨hc_15, h⟩ := h
    refine cg_calli C (t_X8_size l b2 S_1 dp h) cc_X11_268 hc_15.1 hc_15.2 (by decide) rfl rfl ⟨by decide, by decide⟩ ⟨by decide, by decide⟩ rfl (Nat.le_of_ble_eq_true rfl) dX11_keyAt_15 (fun r_3 S_3 h => ?_)
    refine cg_icmp_lt C 32 (by decide) dX11_keyAt_18 (fun c_ => ?_) (fun c_ => ?_)
    · have h := h.1 c_
      refine cg_aload_n C (i := 3) rfl 0 rfl dX11_keyAt_32 ?_
      obtain ⟨hc_33, h⟩ := h
      obtain ⟨b4, hb_b4, h⟩ := h
      refine cg_get C (k := 8) (j := 1) (.ref b4) hc_33.1 hc_33.2 (by decide) rfl (by decide) rfl (show cV _ 8 1 b2 = _ from congrArg va_rf hb_b4) cWs_wsX80 cl_X11_274 rfl dX11_keyAt_33 ?_
      refine cg_iload_n C (i := 2) rfl 3 rfl dX11_keyAt_36 ?_
      obtain ⟨hc_37, h⟩ := h
      refine cg_callr C (t_Jx4a65c_get_915e3 l b4 x2 S_3 dp h) cc_X11_277 hc_37.1 hc_37.2 (by decide) rfl rfl ⟨by decide, by decide⟩ ⟨by decide, by decide⟩ rfl (Nat.le_of_ble_eq_true rfl) dX11_keyAt_37 (fun r_5 S_5 h => ?_)
      obtain ⟨hc_40, h⟩ := h
      refine cg_ccast C (k := 0) hc_40.1 hc_40.2 (by decide) rfl cnc_X11_16 dX11_keyAt_40 ?_
      obtain ⟨hc_43, h⟩ := h
      refine cg_get C (k := 0) (j := 0) (.int (ci S_5 0 r_5)) hc_43.1 hc_43.2 (by decide) rfl (by decide) rfl rfl cWs_wsX00 cl_X11_193 rfl dX11_keyAt_43 ?_
      exact cg_iret C h dX11_keyAt_46 (by decide) (by decide)
    · have h := h.2 c_
      exact h.elim
def k_X11_look_52 (Q : Int32 → cS → Prop) (dp : Nat) (mc ms : Nat)  (x0 : Nat) (t0 : Nat) (cd dd : Nat) (S : cS) : Prop :=
cA S x0 11 ∧ (cA S t0 10 ∧ (∀ S7 : cS, S7 = cSi S 320 t0 ((ci S 361 x0)) → cA S7 x0 11 ∧ ((∃ b8 : Nat, cr S7 360 x0 = some b8 ∧ (cA S7 b8 12 ∧ ((∃ mc9 ms10 : Nat, cd + mc9 ≤ mc ∧ dd + ms10 ≤ ms ∧ (k_Jx4a65c_add_9ea2d (fun r_11 S_11 => 
cA S_11 x0 11 ∧ (cA S_11 x0 11 ∧ (∀ S12 : cS, S12 = cSi S_11 361 x0 ((((ci S_11 361 x0)) + ((nI 1)))) → cA S12 t0 10 ∧ ((cd + mc9 ≤ mc ∧ dd + ms10 ≤ ms) ∧ (Q ((ci S12 320 t0)) S12))))) dp mc9 ms10 b8 t0 S7))))))))
def k_X11_look (Q : Int32 → cS → Prop) (dp : Nat) (mc ms : Nat) (x0 : Nat) (x1 : Int32) (S : cS) : Prop :=
cA S x0 11 ∧ ((0 ≤ mc ∧ 0 ≤ ms) ∧ (k_X11_checkUp (fun S_1 => 
cA S_1 x0 11 ∧ ((∃ b2 : Nat, cr S_1 360 x0 = some b2 ∧ (cA S_1 b2 12 ∧ ((0 ≤ mc ∧ 0 ≤ ms) ∧ (k_Jx4a65c_size_8abf5 (fun r_3 S_3 => 
((r_3 < ((nI 5)) →
  ((x1 = 0 →
    cA S_3 x0 11 ∧ ((∃ mc4 ms5 : Nat, 0 + mc4 ≤ mc ∧ 0 + ms5 ≤ ms ∧ (k_X11_committed (fun r_6 S_6 => 
    k_X11_look_52 Q dp mc ms  x0 r_6 (0 + mc4) (0 + ms5) S_6) dp mc4 ms5 x0 S_3)))) ∧
   (¬ x1 = 0 →
    cA S_3 x0 11 ∧ ((∃ b13 : Nat, cr S_3 355 x0 = some b13 ∧ (cA S_3 x0 11 ∧ ((∃ b14 : Nat, cr S_3 355 x0 = some b14 ∧ (cA S_3 b14 10 ∧ ((0 ≤ mc ∧ 0 ≤ ms) ∧ (k_X10_size (fun r_15 S_15 => 
    cA S_15 b13 10 ∧ ((∃ mc16 ms17 : Nat, 0 + mc16 ≤ mc ∧ 0 + ms17 ≤ ms ∧ (k_X10_copyOf (fun r_18 S_18 => 
    k_X11_look_52 Q dp mc ms  x0 r_18 (0 + mc16) (0 + ms17) S_18) dp mc16 ms17 b13 ((nI 0)) r_15 S_15)))) dp b14 S_3))))))))))) ∧
 (¬ r_3 < ((nI 5)) →
  False))) dp b2 S_1)))))) dp x0 S))
section S_X11_look
variable {p : Program} {l : Launch} {e : Env} {s : State} {m : MethodId} {args : Array Value} {below : List Frame} {meth : Method} {c : Code} {A : Nat → Prop} {D : va_G} {Y : cY} {tp dp : Nat}
set_option maxRecDepth 20000 in
theorem tb_X11_look_52 {mc ms : Nat} (C : cC p s m args meth c cX11_look 3 (some .int) A D Y tp dp RX11) {post : Int32 → cS → Prop}   (x0 : Nat) (t0 : Nat) (cd dd : Nat) (S : cS) (h : k_X11_look_52 post dp mc ms  x0 t0 cd dd S) : cG p l e (cRm 10 mc ms 233) s m args below meth c A D Y 3 (MQ below (cQi post D Y A) args s mc ms A) cd dd 52 [(0, .ref x0)] [.ref t0] S := by
  unfold k_X11_look_52 at h
  refine cg_astore_n (lv' := [(2, .ref t0), (0, .ref x0)]) C (i := 2) rfl (Nat.le_of_ble_eq_true rfl) rfl dX11_look_52 ?_
  refine cg_aload_n C (i := 2) rfl 0 rfl dX11_look_53 ?_
  refine cg_aload_n C (i := 0) rfl 1 rfl dX11_look_54 ?_
  obtain ⟨hc_55, h⟩ := h
  refine cg_get C (k := 11) (j := 9) (.int (ci S 361 x0)) hc_55.1 hc_55.2 (by decide) rfl (by decide) rfl rfl cWs_wsX110 cl_X11_55 rfl dX11_look_55 ?_
  obtain ⟨hc_58, h⟩ := h
  refine cg_puti C (k := 10) (j := 0) (ty := tyX10) (fty := .int) hc_58.1 hc_58.2 (by decide) rfl (by decide) rfl (by decide) rfl cWs_wsX100 tyX10_ok nmX10 cl_X11_316 rfl rfl rfl rfl rfl dX11_look_58 ?_
  refine cg_nm (fun S7 e_S7 => ?_)
  have h := h S7 e_S7
  refine cg_aload_n C (i := 0) rfl 1 rfl dX11_look_61 ?_
  obtain ⟨hc_62, h⟩ := h
  obtain ⟨b8, hb_b8, h⟩ := h
  refine cg_get C (k := 11) (j := 8) (.ref b8) hc_62.1 hc_62.2 (by decide) rfl (by decide) rfl (show cV _ 11 8 x0 = _ from congrArg va_rf hb_b8) cWs_wsX110 cl_X11_52 rfl dX11_look_62 ?_
  refine cg_aload_n C (i := 2) rfl 0 rfl dX11_look_65 ?_
  obtain ⟨hc_66, h⟩ := h
  obtain ⟨mc9, ms10, hm_1, hm_2, h⟩ := h
  refine cg_calli C (t_Jx4a65c_add_9ea2d l mc9 ms10 b8 t0 S7 dp h) cc_X11_200 hc_66.1 hc_66.2 (by decide) rfl rfl ⟨by decide, by decide⟩ ⟨hm_1, hm_2⟩ rfl (Nat.le_of_ble_eq_true rfl) dX11_look_66 (fun r_11 S_11 h => ?_)
  refine cg_pop C rfl dX11_look_69 ?_
  refine cg_aload_n C (i := 0) rfl 1 rfl dX11_look_70 ?_
  refine cg_dup C rfl dX11_look_71 ?_
  obtain ⟨hc_72, h⟩ := h
  refine cg_get C (k := 11) (j := 9) (.int (ci S_11 361 x0)) hc_72.1 hc_72.2 (by decide) rfl (by decide) rfl rfl cWs_wsX110 cl_X11_55 rfl dX11_look_72 ?_
  refine cg_iconst C (x := nI 1) rfl dX11_look_75 ?_
  refine cg_iadd C dX11_look_76 ?_
  obtain ⟨hc_77, h⟩ := h
  refine cg_puti C (k := 11) (j := 9) (ty := tyX11) (fty := .int) hc_77.1 hc_77.2 (by decide) rfl (by decide) rfl (by decide) rfl cWs_wsX110 tyX11_ok nmX11 cl_X11_55 rfl rfl rfl rfl rfl dX11_look_77 ?_
  refine cg_nm (fun S12 e_S12 => ?_)
  have h := h S12 e_S12
  refine cg_aload_n C (i := 2) rfl 0 rfl dX11_look_80 ?_
  obtain ⟨hc_81, h⟩ := h
  refine cg_get C (k := 10) (j := 0) (.int (ci S12 320 t0)) hc_81.1 hc_81.2 (by decide) rfl (by decide) rfl rfl cWs_wsX100 cl_X11_316 rfl dX11_look_81 ?_
  obtain ⟨hb_84, h⟩ := h
  exact cg_iret C h dX11_look_84 hb_84.1 hb_84.2
end S_X11_look
set_option maxHeartbeats 1000000 in
set_option maxRecDepth 20000 in
theorem t_X11_look (l : Launch) (mc ms : Nat) (x0 : Nat) (x1 : Int32) (S : cS) (dp : Nat) {P : Int32 → cS → Prop} (h : k_X11_look P dp mc ms x0 x1 S) : cMet (cQi P) l yX11_look cX11_look 3 (some .int) 10 mc ms 233 [.ref x0, .int x1] S dp := by
  intro D Y tp sz
  refine cg_body (by decide +kernel) (Nat.le_of_ble_eq_true rfl) ?_
  intro p e s m args below meth c C
  generalize va_A (cWd Y S) sz = A at C ⊢
  have C : cC p s m args meth c cX11_look 3 (some .int) A D Y tp dp RX11 := C
  refine cg_lv (lv' := [(0, .ref x0), (1, .int x1)]) rfl ?_
  unfold k_X11_look at h
  refine cg_aload_n C (i := 0) rfl 0 rfl dX11_look_0 ?_
  obtain ⟨hc_1, h⟩ := h
  obtain ⟨hb_1, h⟩ := h
  refine cg_callv C (t_X11_checkUp l x0 S dp h) cc_X11_177 hc_1.1 hc_1.2 (by decide) rfl rfl ⟨by decide, by decide⟩ hb_1 rfl (Nat.le_of_ble_eq_true rfl) dX11_look_1 (fun S_1 h => ?_)
  simp only [Nat.add_zero]
  refine cg_aload_n C (i := 0) rfl 0 rfl dX11_look_4 ?_
  obtain ⟨hc_5, h⟩ := h
  obtain ⟨b2, hb_b2, h⟩ := h
  refine cg_get C (k := 11) (j := 8) (.ref b2) hc_5.1 hc_5.2 (by decide) rfl (by decide) rfl (show cV _ 11 8 x0 = _ from congrArg va_rf hb_b2) cWs_wsX110 cl_X11_52 rfl dX11_look_5 ?_
  obtain ⟨hc_8, h⟩ := h
  obtain ⟨hb_8, h⟩ := h
  refine cg_calli C (t_Jx4a65c_size_8abf5 l b2 S_1 dp h) cc_X11_180 hc_8.1 hc_8.2 (by decide) rfl rfl ⟨by decide, by decide⟩ hb_8 rfl (Nat.le_of_ble_eq_true rfl) dX11_look_8 (fun r_3 S_3 h => ?_)
  simp only [Nat.add_zero]
  refine cg_iconst C (x := nI 5) rfl dX11_look_11 ?_
  refine cg_icmp_lt C 26 (by decide) dX11_look_12 (fun c_ => ?_) (fun c_ => ?_)
  · have h := h.1 c_
    refine cg_iload_n C (i := 1) rfl 1 rfl dX11_look_26 ?_
    refine cg_if_eq C 48 (by decide) dX11_look_27 (fun c_ => ?_) (fun c_ => ?_)
    · have h := h.1 c_
      refine cg_aload_n C (i := 0) rfl 0 rfl dX11_look_48 ?_
      obtain ⟨hc_49, h⟩ := h
      obtain ⟨mc4, ms5, hm_1, hm_2, h⟩ := h
      refine cg_callr C (t_X11_committed l mc4 ms5 x0 S_3 dp h) cc_X11_247 hc_49.1 hc_49.2 (by decide) rfl rfl ⟨by decide, by decide⟩ ⟨hm_1, hm_2⟩ rfl (Nat.le_of_ble_eq_true rfl) dX11_look_49 (fun r_6 S_6 h => ?_)
      exact cg_sub [0] rfl (tb_X11_look_52 C   x0 r_6 (0 + mc4) (0 + ms5) S_6 h)
    · have h := h.2 c_
      refine cg_aload_n C (i := 0) rfl 0 rfl dX11_look_30 ?_
      obtain ⟨hc_31, h⟩ := h
      obtain ⟨b13, hb_b13, h⟩ := h
      refine cg_get C (k := 11) (j := 3) (.ref b13) hc_31.1 hc_31.2 (by decide) rfl (by decide) rfl (show cV _ 11 3 x0 = _ from congrArg va_rf hb_b13) cWs_wsX110 cl_X11_35 rfl dX11_look_31 ?_
      refine cg_iconst C (x := nI 0) rfl dX11_look_34 ?_
      refine cg_aload_n C (i := 0) rfl 0 rfl dX11_look_35 ?_
      obtain ⟨hc_36, h⟩ := h
      obtain ⟨b14, hb_b14, h⟩ := h
      refine cg_get C (k := 11) (j := 3) (.ref b14) hc_36.1 hc_36.2 (by decide) rfl (by decide) rfl (show cV _ 11 3 x0 = _ from congrArg va_rf hb_b14) cWs_wsX110 cl_X11_35 rfl dX11_look_36 ?_
      obtain ⟨hc_39, h⟩ := h
      obtain ⟨hb_39, h⟩ := h
      refine cg_calli C (t_X10_size l b14 S_3 dp h) cc_X11_240 hc_39.1 hc_39.2 (by decide) rfl rfl ⟨by decide, by decide⟩ hb_39 rfl (Nat.le_of_ble_eq_true rfl) dX11_look_39 (fun r_15 S_15 h => ?_)
      simp only [Nat.add_zero]
      obtain ⟨hc_42, h⟩ := h
      obtain ⟨mc16, ms17, hm_1, hm_2, h⟩ := h
      refine cg_callr C (t_X10_copyOf l mc16 ms17 b13 ((nI 0)) r_15 S_15 dp h) cc_X11_218 hc_42.1 hc_42.2 (by decide) rfl rfl ⟨by decide, by decide⟩ ⟨hm_1, hm_2⟩ rfl (Nat.le_of_ble_eq_true rfl) dX11_look_42 (fun r_18 S_18 h => ?_)
      refine cg_goto C 52 (by decide) dX11_look_45 ?_
      exact cg_sub [0] rfl (tb_X11_look_52 C   x0 r_18 (0 + mc16) (0 + ms17) S_18 h)
  · have h := h.2 c_
    exact h.elim
def k_X11_snapshotOf_2 (Q : Nat → cS → Prop) (dp : Nat) (R2 : Nat → Int32 → Int32 → cS → Prop) (x0 : Nat) (x1 : Int32) (x2 : Int32) (S : cS) : Prop :=
cA S x0 11 ∧ ((∃ b1 : Nat, cr S 360 x0 = some b1 ∧ (cA S b1 12 ∧ (k_Jx4a65c_size_8abf5 (fun r_2 S_2 => 
((r_2 ≤ x2 →
  False) ∧
 (¬ r_2 ≤ x2 →
  cA S_2 x0 11 ∧ ((∃ b3 : Nat, cr S_2 360 x0 = some b3 ∧ (cA S_2 b3 12 ∧ (k_Jx4a65c_get_915e3 (fun r_4 S_4 => 
  cA S_4 r_4 10 ∧ (cA S_4 r_4 10 ∧ (((¬ ((ci S_4 320 r_4)) = x1 →
    ∀ x2_5 : Int32, x2_5 = x2 + nI 1 → R2 x0 x1 x2_5 S_4) ∧
   (((ci S_4 320 r_4)) = x1 →
    cA S_4 x0 11 ∧ ((∃ b6 : Nat, cr S_4 360 x0 = some b6 ∧ (cA S_4 b6 12 ∧ (k_Jx4a65c_get_915e3 (fun r_7 S_7 => 
    cA S_7 r_7 10 ∧ (Q r_7 S_7)) dp b6 x2 S_4))))))))) dp b3 x2 S_2))))))) dp b1 S))))
def k_X11_snapshotOf_2L (Q : Nat → cS → Prop) (dp : Nat)  (x0 : Nat) (x1 : Int32) (x2 : Int32) (S : cS) : Prop :=
  lfp (X := Nat × Int32 × Int32 × cS) (fun P y => k_X11_snapshotOf_2 Q dp  (fun b0 b1 b2 S => P (b0, b1, b2, S)) y.1 y.2.1 y.2.2.1 y.2.2.2) (x0, x1, x2, S)
def k_X11_snapshotOf (Q : Nat → cS → Prop) (dp : Nat) (x0 : Nat) (x1 : Int32) (S : cS) : Prop :=
k_X11_snapshotOf_2L Q dp  x0 x1 (((nI 0))) S
section S_X11_snapshotOf
variable {p : Program} {l : Launch} {e : Env} {s : State} {m : MethodId} {args : Array Value} {below : List Frame} {meth : Method} {c : Code} {A : Nat → Prop} {D : va_G} {Y : cY} {tp dp : Nat}
set_option maxRecDepth 20000 in
theorem tb_X11_snapshotOf_2 (C : cC p s m args meth c cX11_snapshotOf 3 (some (.object "SearchMill$View")) A D Y tp dp RX11) {post : Nat → cS → Prop} {R2 : Nat → Int32 → Int32 → cS → Prop} (hR2 : ∀ (x0 : Nat) (x1 : Int32) (x2 : Int32) (S : cS), R2 x0 x1 x2 S → cG p l e (cRm 3 0 0 64) s m args below meth c A D Y 3 (MQ below (cQr post D Y A) args s 0 0 A) 0 0 2 [(0, .ref x0), (1, .int x1), (2, .int x2)] [] S) (x0 : Nat) (x1 : Int32) (x2 : Int32) (S : cS) (h : k_X11_snapshotOf_2 post dp R2 x0 x1 x2 S) : cG p l e (cRm 3 0 0 64) s m args below meth c A D Y 3 (MQ below (cQr post D Y A) args s 0 0 A) 0 0 2 [(0, .ref x0), (1, .int x1), (2, .int x2)] [] S := by
  unfold k_X11_snapshotOf_2 at h
  refine cg_iload_n C (i := 2) rfl 2 rfl dX11_snapshotOf_2 ?_
  refine cg_aload_n C (i := 0) rfl 0 rfl dX11_snapshotOf_3 ?_
  obtain ⟨hc_4, h⟩ := h
  obtain ⟨b1, hb_b1, h⟩ := h
  refine cg_get C (k := 11) (j := 8) (.ref b1) hc_4.1 hc_4.2 (by decide) rfl (by decide) rfl (show cV _ 11 8 x0 = _ from congrArg va_rf hb_b1) cWs_wsX110 cl_X11_52 rfl dX11_snapshotOf_4 ?_
  obtain ⟨hc_7, h⟩ := h
  refine cg_calli C (t_Jx4a65c_size_8abf5 l b1 S dp h) cc_X11_180 hc_7.1 hc_7.2 (by decide) rfl rfl ⟨by decide, by decide⟩ ⟨by decide, by decide⟩ rfl (Nat.le_of_ble_eq_true rfl) dX11_snapshotOf_7 (fun r_2 S_2 h => ?_)
  refine cg_icmp_ge C 49 (by decide) dX11_snapshotOf_10 (fun c_ => ?_) (fun c_ => ?_)
  · have h := h.1 c_
    exact h.elim
  · have h := h.2 c_
    refine cg_aload_n C (i := 0) rfl 0 rfl dX11_snapshotOf_13 ?_
    obtain ⟨hc_14, h⟩ := h
    obtain ⟨b3, hb_b3, h⟩ := h
    refine cg_get C (k := 11) (j := 8) (.ref b3) hc_14.1 hc_14.2 (by decide) rfl (by decide) rfl (show cV _ 11 8 x0 = _ from congrArg va_rf hb_b3) cWs_wsX110 cl_X11_52 rfl dX11_snapshotOf_14 ?_
    refine cg_iload_n C (i := 2) rfl 2 rfl dX11_snapshotOf_17 ?_
    obtain ⟨hc_18, h⟩ := h
    refine cg_callr C (t_Jx4a65c_get_915e3 l b3 x2 S_2 dp h) cc_X11_277 hc_18.1 hc_18.2 (by decide) rfl rfl ⟨by decide, by decide⟩ ⟨by decide, by decide⟩ rfl (Nat.le_of_ble_eq_true rfl) dX11_snapshotOf_18 (fun r_4 S_4 h => ?_)
    obtain ⟨hc_21, h⟩ := h
    refine cg_ccast C (k := 10) hc_21.1 hc_21.2 (by decide) rfl cnc_X11_30 dX11_snapshotOf_21 ?_
    obtain ⟨hc_24, h⟩ := h
    refine cg_get C (k := 10) (j := 0) (.int (ci S_4 320 r_4)) hc_24.1 hc_24.2 (by decide) rfl (by decide) rfl rfl cWs_wsX100 cl_X11_316 rfl dX11_snapshotOf_24 ?_
    refine cg_iload_n C (i := 1) rfl 1 rfl dX11_snapshotOf_27 ?_
    refine cg_icmp_ne C 43 (by decide) dX11_snapshotOf_28 (fun c_ => ?_) (fun c_ => ?_)
    · have h := h.1 c_
      obtain ⟨x2_5, e_x2_5⟩ : ∃ z : Int32, z = x2 + nI 1 := ⟨_, rfl⟩
      have h := h x2_5 e_x2_5
      refine cg_iinc C (lv' := [(2, .int x2_5), (0, .ref x0), (1, .int x1)]) 2 rfl (by rw [e_x2_5]; rfl) (Nat.le_of_ble_eq_true rfl) rfl dX11_snapshotOf_43 ?_
      refine cg_goto C 2 (by decide) dX11_snapshotOf_46 ?_
      exact cg_sub [1, 2, 0] rfl (hR2 x0 x1 x2_5 S_4 h)
    · have h := h.2 c_
      refine cg_aload_n C (i := 0) rfl 0 rfl dX11_snapshotOf_31 ?_
      obtain ⟨hc_32, h⟩ := h
      obtain ⟨b6, hb_b6, h⟩ := h
      refine cg_get C (k := 11) (j := 8) (.ref b6) hc_32.1 hc_32.2 (by decide) rfl (by decide) rfl (show cV _ 11 8 x0 = _ from congrArg va_rf hb_b6) cWs_wsX110 cl_X11_52 rfl dX11_snapshotOf_32 ?_
      refine cg_iload_n C (i := 2) rfl 2 rfl dX11_snapshotOf_35 ?_
      obtain ⟨hc_36, h⟩ := h
      refine cg_callr C (t_Jx4a65c_get_915e3 l b6 x2 S_4 dp h) cc_X11_277 hc_36.1 hc_36.2 (by decide) rfl rfl ⟨by decide, by decide⟩ ⟨by decide, by decide⟩ rfl (Nat.le_of_ble_eq_true rfl) dX11_snapshotOf_36 (fun r_7 S_7 h => ?_)
      obtain ⟨hc_39, h⟩ := h
      refine cg_ccast C (k := 10) hc_39.1 hc_39.2 (by decide) rfl cnc_X11_30 dX11_snapshotOf_39 ?_
      exact cg_aret C rfl (by first | exact Or.inl ⟨_, rfl⟩ | exact Or.inr ⟨_, rfl⟩) h dX11_snapshotOf_42 (by decide) (by decide)
set_option maxRecDepth 20000 in
theorem tl_X11_snapshotOf_2 (C : cC p s m args meth c cX11_snapshotOf 3 (some (.object "SearchMill$View")) A D Y tp dp RX11) {post : Nat → cS → Prop}   (x0 : Nat) (x1 : Int32) (x2 : Int32) (S : cS) (h : k_X11_snapshotOf_2L post dp  x0 x1 x2 S) : cG p l e (cRm 3 0 0 64) s m args below meth c A D Y 3 (MQ below (cQr post D Y A) args s 0 0 A) 0 0 2 [(0, .ref x0), (1, .int x1), (2, .int x2)] [] S :=
  h (fun y => cG p l e (cRm 3 0 0 64) s m args below meth c A D Y 3 (MQ below (cQr post D Y A) args s 0 0 A) 0 0 2 [(0, .ref (y.1)), (1, .int (y.2.1)), (2, .int (y.2.2.1))] [] (y.2.2.2)) (fun y hy => tb_X11_snapshotOf_2 C   (fun b0 b1 b2 S z => z) (y.1) (y.2.1) (y.2.2.1) (y.2.2.2) hy)
end S_X11_snapshotOf
set_option maxHeartbeats 1000000 in
set_option maxRecDepth 20000 in
theorem t_X11_snapshotOf (l : Launch) (x0 : Nat) (x1 : Int32) (S : cS) (dp : Nat) {P : Nat → cS → Prop} (h : k_X11_snapshotOf P dp x0 x1 S) : cMet (cQr P) l yX11_snapshotOf cX11_snapshotOf 3 (some (.object "SearchMill$View")) 3 0 0 64 [.ref x0, .int x1] S dp := by
  intro D Y tp sz
  refine cg_body (by decide +kernel) (Nat.le_of_ble_eq_true rfl) ?_
  intro p e s m args below meth c C
  generalize va_A (cWd Y S) sz = A at C ⊢
  have C : cC p s m args meth c cX11_snapshotOf 3 (some (.object "SearchMill$View")) A D Y tp dp RX11 := C
  refine cg_lv (lv' := [(0, .ref x0), (1, .int x1)]) rfl ?_
  unfold k_X11_snapshotOf at h
  refine cg_iconst C (x := nI 0) rfl dX11_snapshotOf_0 ?_
  refine cg_istore_n C (i := 2) (lv' := [(2, .int ((nI 0))), (0, .ref x0), (1, .int x1)]) rfl (Nat.le_of_ble_eq_true rfl) rfl dX11_snapshotOf_1 ?_
  exact cg_sub [1, 2, 0] rfl (tl_X11_snapshotOf_2 C   x0 x1 (((nI 0))) S h)
def k_X11_shut_41 (Q : Int32 → cS → Prop) (dp : Nat) (mc ms : Nat) (R16 : Nat → Nat → Int32 → Nat → Nat → cS → Prop) (x0 : Nat) (x2 : Nat) (x3 : Int32) (cd dd : Nat) (S : cS) : Prop :=
∀ x3_10 : Int32, x3_10 = x3 + (-1) → R16 x0 x2 x3_10 cd dd S
def k_X11_shut_16 (Q : Int32 → cS → Prop) (dp : Nat) (mc ms : Nat) (R16 : Nat → Nat → Int32 → Nat → Nat → cS → Prop) (x0 : Nat) (x2 : Nat) (x3 : Int32) (cd dd : Nat) (S : cS) : Prop :=
((x3 < 0 →
  cA S x0 11 ∧ ((∃ mc5 ms6 : Nat, cd + mc5 ≤ mc ∧ dd + ms6 ≤ ms ∧ (k_X11_fileCount (fun r_7 S_7 => 
  (cd + mc5 ≤ mc ∧ dd + ms6 ≤ ms) ∧ (Q r_7 S_7)) dp mc5 ms6 x0 S)))) ∧
 (¬ x3 < 0 →
  cA S x0 11 ∧ ((∃ b8 : Nat, cr S 360 x0 = some b8 ∧ (cA S b8 12 ∧ ((cd ≤ mc ∧ dd ≤ ms) ∧ (k_Jx4a65c_get_915e3 (fun r_9 S_9 => 
  ((¬ r_9 = x2 →
    k_X11_shut_41 Q dp mc ms R16 x0 x2 x3 cd dd S_9) ∧
   (r_9 = x2 →
    cA S_9 x0 11 ∧ ((∃ b11 : Nat, cr S_9 360 x0 = some b11 ∧ (cA S_9 b11 12 ∧ ((cd ≤ mc ∧ dd ≤ ms) ∧ (k_Jx4a65c_remove_915e3 (fun r_12 S_12 => 
    k_X11_shut_41 Q dp mc ms R16 x0 x2 x3 cd dd S_12) dp b11 x3 S_9)))))))) dp b8 x3 S)))))))
def k_X11_shut_16L (Q : Int32 → cS → Prop) (dp : Nat) (mc ms : Nat)  (x0 : Nat) (x2 : Nat) (x3 : Int32) (cd dd : Nat) (S : cS) : Prop :=
  lfp (X := Nat × Nat × Int32 × Nat × Nat × cS) (fun P y => k_X11_shut_16 Q dp mc ms  (fun b0 b1 b2 b3 b4 S => P (b0, b1, b2, b3, b4, S)) y.1 y.2.1 y.2.2.1 y.2.2.2.1 y.2.2.2.2.1 y.2.2.2.2.2) (x0, x2, x3, cd, dd, S)
def k_X11_shut (Q : Int32 → cS → Prop) (dp : Nat) (mc ms : Nat) (x0 : Nat) (x1 : Int32) (S : cS) : Prop :=
cA S x0 11 ∧ ((0 ≤ mc ∧ 0 ≤ ms) ∧ (k_X11_snapshotOf (fun r_1 S_1 => 
cA S_1 x0 11 ∧ ((∃ b2 : Nat, cr S_1 360 x0 = some b2 ∧ (cA S_1 b2 12 ∧ ((0 ≤ mc ∧ 0 ≤ ms) ∧ (k_Jx4a65c_size_8abf5 (fun r_3 S_3 => 
∀ x3_4 : Int32, x3_4 = (r_3 - ((nI 1))) → k_X11_shut_16L Q dp mc ms  x0 r_1 x3_4 0 0 S_3) dp b2 S_1)))))) dp x0 x1 S))
section S_X11_shut
variable {p : Program} {l : Launch} {e : Env} {s : State} {m : MethodId} {args : Array Value} {below : List Frame} {meth : Method} {c : Code} {A : Nat → Prop} {D : va_G} {Y : cY} {tp dp : Nat}
set_option maxRecDepth 20000 in
theorem tb_X11_shut_41 {mc ms : Nat} (C : cC p s m args meth c cX11_shut 4 (some .int) A D Y tp dp RX11) {post : Int32 → cS → Prop} {R16 : Nat → Nat → Int32 → Nat → Nat → cS → Prop} (hR16 : ∀ (x0 : Nat) (x2 : Nat) (x3 : Int32) (cd dd : Nat) (S : cS), R16 x0 x2 x3 cd dd S → cG p l e (cRm 7 mc ms 155) s m args below meth c A D Y 4 (MQ below (cQi post D Y A) args s mc ms A) cd dd 16 [(0, .ref x0), (2, .ref x2), (3, .int x3)] [] S) (x0 : Nat) (x2 : Nat) (x3 : Int32) (cd dd : Nat) (S : cS) (h : k_X11_shut_41 post dp mc ms R16 x0 x2 x3 cd dd S) : cG p l e (cRm 7 mc ms 155) s m args below meth c A D Y 4 (MQ below (cQi post D Y A) args s mc ms A) cd dd 41 [(0, .ref x0), (2, .ref x2), (3, .int x3)] [] S := by
  unfold k_X11_shut_41 at h
  obtain ⟨x3_10, e_x3_10⟩ : ∃ z : Int32, z = x3 + (-1) := ⟨_, rfl⟩
  have h := h x3_10 e_x3_10
  refine cg_iinc C (lv' := [(3, .int x3_10), (0, .ref x0), (2, .ref x2)]) 2 rfl (by rw [e_x3_10]; rfl) (Nat.le_of_ble_eq_true rfl) rfl dX11_shut_41 ?_
  refine cg_goto C 16 (by decide) dX11_shut_44 ?_
  exact cg_sub [1, 2, 0] rfl (hR16 x0 x2 x3_10 cd dd S h)
set_option maxRecDepth 20000 in
theorem tb_X11_shut_16 {mc ms : Nat} (C : cC p s m args meth c cX11_shut 4 (some .int) A D Y tp dp RX11) {post : Int32 → cS → Prop} {R16 : Nat → Nat → Int32 → Nat → Nat → cS → Prop} (hR16 : ∀ (x0 : Nat) (x2 : Nat) (x3 : Int32) (cd dd : Nat) (S : cS), R16 x0 x2 x3 cd dd S → cG p l e (cRm 7 mc ms 155) s m args below meth c A D Y 4 (MQ below (cQi post D Y A) args s mc ms A) cd dd 16 [(0, .ref x0), (2, .ref x2), (3, .int x3)] [] S) (x0 : Nat) (x2 : Nat) (x3 : Int32) (cd dd : Nat) (S : cS) (h : k_X11_shut_16 post dp mc ms R16 x0 x2 x3 cd dd S) : cG p l e (cRm 7 mc ms 155) s m args below meth c A D Y 4 (MQ below (cQi post D Y A) args s mc ms A) cd dd 16 [(0, .ref x0), (2, .ref x2), (3, .int x3)] [] S := by
  unfold k_X11_shut_16 at h
  refine cg_iload_n C (i := 3) rfl 2 rfl dX11_shut_16 ?_
  refine cg_if_lt C 47 (by decide) dX11_shut_17 (fun c_ => ?_) (fun c_ => ?_)
  · have h := h.1 c_
    refine cg_aload_n C (i := 0) rfl 0 rfl dX11_shut_47 ?_
    obtain ⟨hc_48, h⟩ := h
    obtain ⟨mc5, ms6, hm_1, hm_2, h⟩ := h
    refine cg_calli C (t_X11_fileCount l mc5 ms6 x0 S dp h) cc_X11_251 hc_48.1 hc_48.2 (by decide) rfl rfl ⟨by decide, by decide⟩ ⟨hm_1, hm_2⟩ rfl (Nat.le_of_ble_eq_true rfl) dX11_shut_48 (fun r_7 S_7 h => ?_)
    obtain ⟨hb_51, h⟩ := h
    exact cg_iret C h dX11_shut_51 hb_51.1 hb_51.2
  · have h := h.2 c_
    refine cg_aload_n C (i := 0) rfl 0 rfl dX11_shut_20 ?_
    obtain ⟨hc_21, h⟩ := h
    obtain ⟨b8, hb_b8, h⟩ := h
    refine cg_get C (k := 11) (j := 8) (.ref b8) hc_21.1 hc_21.2 (by decide) rfl (by decide) rfl (show cV _ 11 8 x0 = _ from congrArg va_rf hb_b8) cWs_wsX110 cl_X11_52 rfl dX11_shut_21 ?_
    refine cg_iload_n C (i := 3) rfl 2 rfl dX11_shut_24 ?_
    obtain ⟨hc_25, h⟩ := h
    obtain ⟨hb_25, h⟩ := h
    refine cg_callr C (t_Jx4a65c_get_915e3 l b8 x3 S dp h) cc_X11_277 hc_25.1 hc_25.2 (by decide) rfl rfl ⟨by decide, by decide⟩ hb_25 rfl (Nat.le_of_ble_eq_true rfl) dX11_shut_25 (fun r_9 S_9 h => ?_)
    simp only [Nat.add_zero]
    refine cg_aload_n C (i := 2) rfl 1 rfl dX11_shut_28 ?_
    refine cg_acmp_ne C 41 (by decide) dX11_shut_29 (fun c_ => ?_) (fun c_ => ?_)
    · have h := h.1 c_
      exact cg_sub [0, 1, 2] rfl (tb_X11_shut_41 C  hR16 x0 x2 x3 cd dd S_9 h)
    · have h := h.2 c_
      refine cg_aload_n C (i := 0) rfl 0 rfl dX11_shut_32 ?_
      obtain ⟨hc_33, h⟩ := h
      obtain ⟨b11, hb_b11, h⟩ := h
      refine cg_get C (k := 11) (j := 8) (.ref b11) hc_33.1 hc_33.2 (by decide) rfl (by decide) rfl (show cV _ 11 8 x0 = _ from congrArg va_rf hb_b11) cWs_wsX110 cl_X11_52 rfl dX11_shut_33 ?_
      refine cg_iload_n C (i := 3) rfl 2 rfl dX11_shut_36 ?_
      obtain ⟨hc_37, h⟩ := h
      obtain ⟨hb_37, h⟩ := h
      refine cg_callr C (t_Jx4a65c_remove_915e3 l b11 x3 S_9 dp h) cc_X11_321 hc_37.1 hc_37.2 (by decide) rfl rfl ⟨by decide, by decide⟩ hb_37 rfl (Nat.le_of_ble_eq_true rfl) dX11_shut_37 (fun r_12 S_12 h => ?_)
      simp only [Nat.add_zero]
      refine cg_pop C rfl dX11_shut_40 ?_
      exact cg_sub [0, 1, 2] rfl (tb_X11_shut_41 C  hR16 x0 x2 x3 cd dd S_12 h)
set_option maxRecDepth 20000 in
theorem tl_X11_shut_16 {mc ms : Nat} (C : cC p s m args meth c cX11_shut 4 (some .int) A D Y tp dp RX11) {post : Int32 → cS → Prop}   (x0 : Nat) (x2 : Nat) (x3 : Int32) (cd dd : Nat) (S : cS) (h : k_X11_shut_16L post dp mc ms  x0 x2 x3 cd dd S) : cG p l e (cRm 7 mc ms 155) s m args below meth c A D Y 4 (MQ below (cQi post D Y A) args s mc ms A) cd dd 16 [(0, .ref x0), (2, .ref x2), (3, .int x3)] [] S :=
  h (fun y => cG p l e (cRm 7 mc ms 155) s m args below meth c A D Y 4 (MQ below (cQi post D Y A) args s mc ms A) (y.2.2.2.1) (y.2.2.2.2.1) 16 [(0, .ref (y.1)), (2, .ref (y.2.1)), (3, .int (y.2.2.1))] [] (y.2.2.2.2.2)) (fun y hy => tb_X11_shut_16 C   (fun b0 b1 b2 b3 b4 S z => z) (y.1) (y.2.1) (y.2.2.1) (y.2.2.2.1) (y.2.2.2.2.1) (y.2.2.2.2.2) hy)
end S_X11_shut
set_option maxHeartbeats 1000000 in
set_option maxRecDepth 20000 in
theorem t_X11_shut (l : Launch) (mc ms : Nat) (x0 : Nat) (x1 : Int32) (S : cS) (dp : Nat) {P : Int32 → cS → Prop} (h : k_X11_shut P dp mc ms x0 x1 S) : cMet (cQi P) l yX11_shut cX11_shut 4 (some .int) 7 mc ms 155 [.ref x0, .int x1] S dp := by
  intro D Y tp sz
  refine cg_body (by decide +kernel) (Nat.le_of_ble_eq_true rfl) ?_
  intro p e s m args below meth c C
  generalize va_A (cWd Y S) sz = A at C ⊢
  have C : cC p s m args meth c cX11_shut 4 (some .int) A D Y tp dp RX11 := C
  refine cg_lv (lv' := [(0, .ref x0), (1, .int x1)]) rfl ?_
  unfold k_X11_shut at h
  refine cg_aload_n C (i := 0) rfl 0 rfl dX11_shut_0 ?_
  refine cg_iload_n C (i := 1) rfl 1 rfl dX11_shut_1 ?_
  obtain ⟨hc_2, h⟩ := h
  obtain ⟨hb_2, h⟩ := h
  refine cg_callr C (t_X11_snapshotOf l x0 x1 S dp h) cc_X11_317 hc_2.1 hc_2.2 (by decide) rfl rfl ⟨by decide, by decide⟩ hb_2 rfl (Nat.le_of_ble_eq_true rfl) dX11_shut_2 (fun r_1 S_1 h => ?_)
  simp only [Nat.add_zero]
  refine cg_astore_n (lv' := [(2, .ref r_1), (0, .ref x0), (1, .int x1)]) C (i := 2) rfl (Nat.le_of_ble_eq_true rfl) rfl dX11_shut_5 ?_
  refine cg_aload_n C (i := 0) rfl 1 rfl dX11_shut_6 ?_
  obtain ⟨hc_7, h⟩ := h
  obtain ⟨b2, hb_b2, h⟩ := h
  refine cg_get C (k := 11) (j := 8) (.ref b2) hc_7.1 hc_7.2 (by decide) rfl (by decide) rfl (show cV _ 11 8 x0 = _ from congrArg va_rf hb_b2) cWs_wsX110 cl_X11_52 rfl dX11_shut_7 ?_
  obtain ⟨hc_10, h⟩ := h
  obtain ⟨hb_10, h⟩ := h
  refine cg_calli C (t_Jx4a65c_size_8abf5 l b2 S_1 dp h) cc_X11_180 hc_10.1 hc_10.2 (by decide) rfl rfl ⟨by decide, by decide⟩ hb_10 rfl (Nat.le_of_ble_eq_true rfl) dX11_shut_10 (fun r_3 S_3 h => ?_)
  simp only [Nat.add_zero]
  refine cg_iconst C (x := nI 1) rfl dX11_shut_13 ?_
  refine cg_isub C dX11_shut_14 ?_
  refine cg_nmI (fun x3_4 e_x3_4 => ?_)
  have h := h x3_4 e_x3_4
  refine cg_istore_n C (i := 3) (lv' := [(3, .int x3_4), (2, .ref r_1), (0, .ref x0), (1, .int x1)]) rfl (Nat.le_of_ble_eq_true rfl) rfl dX11_shut_15 ?_
  exact cg_sub [2, 1, 0] rfl (tl_X11_shut_16 C   x0 r_1 x3_4 0 0 S_3 h)
def k_X11_documents (Q : Int32 → cS → Prop) (dp : Nat) (x0 : Nat) (x1 : Int32) (S : cS) : Prop :=
cA S x0 11 ∧ (k_X11_snapshotOf (fun r_1 S_1 => 
cA S_1 r_1 10 ∧ (k_X10_liveCount (fun r_2 S_2 => 
Q r_2 S_2) dp r_1 S_1)) dp x0 x1 S)
set_option maxHeartbeats 1000000 in
set_option maxRecDepth 20000 in
theorem t_X11_documents (l : Launch) (x0 : Nat) (x1 : Int32) (S : cS) (dp : Nat) {P : Int32 → cS → Prop} (h : k_X11_documents P dp x0 x1 S) : cMet (cQi P) l yX11_documents cX11_documents 2 (some .int) 4 0 0 86 [.ref x0, .int x1] S dp := by
  intro D Y tp sz
  refine cg_body (by decide +kernel) (Nat.le_of_ble_eq_true rfl) ?_
  intro p e s m args below meth c C
  generalize va_A (cWd Y S) sz = A at C ⊢
  have C : cC p s m args meth c cX11_documents 2 (some .int) A D Y tp dp RX11 := C
  refine cg_lv (lv' := [(0, .ref x0), (1, .int x1)]) rfl ?_
  unfold k_X11_documents at h
  refine cg_aload_n C (i := 0) rfl 0 rfl dX11_documents_0 ?_
  refine cg_iload_n C (i := 1) rfl 1 rfl dX11_documents_1 ?_
  obtain ⟨hc_2, h⟩ := h
  refine cg_callr C (t_X11_snapshotOf l x0 x1 S dp h) cc_X11_317 hc_2.1 hc_2.2 (by decide) rfl rfl ⟨by decide, by decide⟩ ⟨by decide, by decide⟩ rfl (Nat.le_of_ble_eq_true rfl) dX11_documents_2 (fun r_1 S_1 h => ?_)
  obtain ⟨hc_5, h⟩ := h
  refine cg_calli C (t_X10_liveCount l r_1 S_1 dp h) cc_X11_222 hc_5.1 hc_5.2 (by decide) rfl rfl ⟨by decide, by decide⟩ ⟨by decide, by decide⟩ rfl (Nat.le_of_ble_eq_true rfl) dX11_documents_5 (fun r_2 S_2 h => ?_)
  exact cg_iret C h dX11_documents_8 (by decide) (by decide)
def k_X11_checkLeaf (Q : cS → Prop) (dp : Nat) (x0 : Nat) (x1 : Int32) (S : cS) : Prop :=
((x1 = 0 →
  False) ∧
 (¬ x1 = 0 →
  cA S x0 11 ∧ ((∃ b1 : Nat, cr S 362 x0 = some b1 ∧ (cA S b1 6 ∧ (((((nI 8)) ≤ ((ci S 195 b1)) →
    False) ∧
   (¬ ((nI 8)) ≤ ((ci S 195 b1)) →
    cA S x0 11 ∧ ((∃ b2 : Nat, cr S 362 x0 = some b2 ∧ (cA S b2 6 ∧ ((∃ b3 : Nat, cr S 193 b2 = some b3 ∧ (cA S b3 12 ∧ (k_Jx4a65c_size_8abf5 (fun r_4 S_4 => 
    ((r_4 < ((nI 24)) →
      Q S_4) ∧
     (¬ r_4 < ((nI 24)) →
      False))) dp b3 S)))))))))))))))
set_option maxHeartbeats 1000000 in
set_option maxRecDepth 20000 in
theorem t_X11_checkLeaf (l : Launch) (x0 : Nat) (x1 : Int32) (S : cS) (dp : Nat) {P : cS → Prop} (h : k_X11_checkLeaf P dp x0 x1 S) : cMet (cQv P) l yX11_checkLeaf cX11_checkLeaf 2 none 1 0 0 20 [.ref x0, .int x1] S dp := by
  intro D Y tp sz
  refine cg_body (by decide +kernel) (Nat.le_of_ble_eq_true rfl) ?_
  intro p e s m args below meth c C
  generalize va_A (cWd Y S) sz = A at C ⊢
  have C : cC p s m args meth c cX11_checkLeaf 2 none A D Y tp dp RX11 := C
  refine cg_lv (lv' := [(0, .ref x0), (1, .int x1)]) rfl ?_
  unfold k_X11_checkLeaf at h
  refine cg_iload_n C (i := 1) rfl 1 rfl dX11_checkLeaf_0 ?_
  refine cg_if_eq C 31 (by decide) dX11_checkLeaf_1 (fun c_ => ?_) (fun c_ => ?_)
  · have h := h.1 c_
    exact h.elim
  · have h := h.2 c_
    refine cg_aload_n C (i := 0) rfl 0 rfl dX11_checkLeaf_4 ?_
    obtain ⟨hc_5, h⟩ := h
    obtain ⟨b1, hb_b1, h⟩ := h
    refine cg_get C (k := 11) (j := 10) (.ref b1) hc_5.1 hc_5.2 (by decide) rfl (by decide) rfl (show cV _ 11 10 x0 = _ from congrArg va_rf hb_b1) cWs_wsX110 cl_X11_61 rfl dX11_checkLeaf_5 ?_
    obtain ⟨hc_8, h⟩ := h
    refine cg_get C (k := 6) (j := 3) (.int (ci S 195 b1)) hc_8.1 hc_8.2 (by decide) rfl (by decide) rfl rfl cWs_wsX60 cl_X11_385 rfl dX11_checkLeaf_8 ?_
    refine cg_bipush C (x := nI 8) rfl dX11_checkLeaf_11 ?_
    refine cg_icmp_ge C 31 (by decide) dX11_checkLeaf_13 (fun c_ => ?_) (fun c_ => ?_)
    · have h := h.1 c_
      exact h.elim
    · have h := h.2 c_
      refine cg_aload_n C (i := 0) rfl 0 rfl dX11_checkLeaf_16 ?_
      obtain ⟨hc_17, h⟩ := h
      obtain ⟨b2, hb_b2, h⟩ := h
      refine cg_get C (k := 11) (j := 10) (.ref b2) hc_17.1 hc_17.2 (by decide) rfl (by decide) rfl (show cV _ 11 10 x0 = _ from congrArg va_rf hb_b2) cWs_wsX110 cl_X11_61 rfl dX11_checkLeaf_17 ?_
      obtain ⟨hc_20, h⟩ := h
      obtain ⟨b3, hb_b3, h⟩ := h
      refine cg_get C (k := 6) (j := 1) (.ref b3) hc_20.1 hc_20.2 (by decide) rfl (by decide) rfl (show cV _ 6 1 b2 = _ from congrArg va_rf hb_b3) cWs_wsX60 cl_X11_466 rfl dX11_checkLeaf_20 ?_
      obtain ⟨hc_23, h⟩ := h
      refine cg_calli C (t_Jx4a65c_size_8abf5 l b3 S dp h) cc_X11_180 hc_23.1 hc_23.2 (by decide) rfl rfl ⟨by decide, by decide⟩ ⟨by decide, by decide⟩ rfl (Nat.le_of_ble_eq_true rfl) dX11_checkLeaf_23 (fun r_4 S_4 h => ?_)
      refine cg_bipush C (x := nI 24) rfl dX11_checkLeaf_26 ?_
      refine cg_icmp_lt C 42 (by decide) dX11_checkLeaf_28 (fun c_ => ?_) (fun c_ => ?_)
      · have h := h.1 c_
        exact cg_vret C h dX11_checkLeaf_42 (by decide) (by decide)
      · have h := h.2 c_
        exact h.elim
def k_X11_term_21 (Q : Int32 → cS → Prop) (dp : Nat) (mc ms : Nat)  (x0 : Nat) (x1 : Int32) (t0 : Int32) (t1 : Nat) (cd dd : Nat) (S : cS) : Prop :=
cA S t1 11 ∧ ((cd ≤ mc ∧ dd ≤ ms) ∧ (k_X11_checkLeaf (fun S_6 => 
cA S_6 x0 11 ∧ ((∃ b7 : Nat, cr S_6 362 x0 = some b7 ∧ (cA S_6 x0 11 ∧ ((∃ b8 : Nat, cr S_6 352 x0 = some b8 ∧ (cA S_6 b8 3 ∧ ((∃ mc9 ms10 : Nat, cd + mc9 ≤ mc ∧ dd + ms10 ≤ ms ∧ (k_X3_takePad (fun r_11 S_11 => 
(∃ mc12 ms13 : Nat, cd + mc9 + mc12 ≤ mc ∧ dd + ms10 + ms13 ≤ ms ∧ (k_X4_ofTokens (fun r_14 S_14 => 
cA S_14 b7 6 ∧ ((∃ mc15 ms16 : Nat, cd + mc9 + mc12 + mc15 ≤ mc ∧ dd + ms10 + ms13 + ms16 ≤ ms ∧ (k_X6_putLeaf (fun r_17 S_17 => 
(cd + mc9 + mc12 + mc15 ≤ mc ∧ dd + ms10 + ms13 + ms16 ≤ ms) ∧ (Q r_17 S_17)) dp mc15 ms16 b7 r_14 S_14)))) dp mc12 ms13 ((nI 0)) x1 ((nI 0)) r_11 S_11))) dp mc9 ms10 b8 S_6)))))))))) dp t1 t0 S))
def k_X11_term (Q : Int32 → cS → Prop) (dp : Nat) (mc ms : Nat) (x0 : Nat) (x1 : Int32) (S : cS) : Prop :=
(0 ≤ mc ∧ 0 ≤ ms) ∧ (k_X11_checkField (fun S_1 => 
cA S_1 x0 11 ∧ ((∃ b2 : Nat, cr S_1 352 x0 = some b2 ∧ (cA S_1 b2 3 ∧ ((∃ mc3 ms4 : Nat, 0 + mc3 ≤ mc ∧ 0 + ms4 ≤ ms ∧ (k_X3_readPadTokens (fun r_5 S_5 => 
((¬ r_5 = ((nI 1)) →
  k_X11_term_21 Q dp mc ms  x0 x1 ((nI 0)) x0 (0 + mc3) (0 + ms4) S_5) ∧
 (r_5 = ((nI 1)) →
  k_X11_term_21 Q dp mc ms  x0 x1 ((nI 1)) x0 (0 + mc3) (0 + ms4) S_5))) dp mc3 ms4 b2 S_1))))))) dp x1 S)
section S_X11_term
variable {p : Program} {l : Launch} {e : Env} {s : State} {m : MethodId} {args : Array Value} {below : List Frame} {meth : Method} {c : Code} {A : Nat → Prop} {D : va_G} {Y : cY} {tp dp : Nat}
set_option maxRecDepth 20000 in
theorem tb_X11_term_21 {mc ms : Nat} (C : cC p s m args meth c cX11_term 2 (some .int) A D Y tp dp RX11) {post : Int32 → cS → Prop}   (x0 : Nat) (x1 : Int32) (t0 : Int32) (t1 : Nat) (cd dd : Nat) (S : cS) (h : k_X11_term_21 post dp mc ms  x0 x1 t0 t1 cd dd S) : cG p l e (cRm 9 mc ms 209) s m args below meth c A D Y 2 (MQ below (cQi post D Y A) args s mc ms A) cd dd 21 [(0, .ref x0), (1, .int x1)] [.int t0, .ref t1] S := by
  unfold k_X11_term_21 at h
  obtain ⟨hc_21, h⟩ := h
  obtain ⟨hb_21, h⟩ := h
  refine cg_callv C (t_X11_checkLeaf l t1 t0 S dp h) cc_X11_327 hc_21.1 hc_21.2 (by decide) rfl rfl ⟨by decide, by decide⟩ hb_21 rfl (Nat.le_of_ble_eq_true rfl) dX11_term_21 (fun S_6 h => ?_)
  simp only [Nat.add_zero]
  refine cg_aload_n C (i := 0) rfl 0 rfl dX11_term_24 ?_
  obtain ⟨hc_25, h⟩ := h
  obtain ⟨b7, hb_b7, h⟩ := h
  refine cg_get C (k := 11) (j := 10) (.ref b7) hc_25.1 hc_25.2 (by decide) rfl (by decide) rfl (show cV _ 11 10 x0 = _ from congrArg va_rf hb_b7) cWs_wsX110 cl_X11_61 rfl dX11_term_25 ?_
  refine cg_iconst C (x := nI 0) rfl dX11_term_28 ?_
  refine cg_iload_n C (i := 1) rfl 1 rfl dX11_term_29 ?_
  refine cg_iconst C (x := nI 0) rfl dX11_term_30 ?_
  refine cg_aload_n C (i := 0) rfl 0 rfl dX11_term_31 ?_
  obtain ⟨hc_32, h⟩ := h
  obtain ⟨b8, hb_b8, h⟩ := h
  refine cg_get C (k := 11) (j := 0) (.ref b8) hc_32.1 hc_32.2 (by decide) rfl (by decide) rfl (show cV _ 11 0 x0 = _ from congrArg va_rf hb_b8) cWs_wsX110 cl_X11_10 rfl dX11_term_32 ?_
  obtain ⟨hc_35, h⟩ := h
  obtain ⟨mc9, ms10, hm_1, hm_2, h⟩ := h
  refine cg_callr C (t_X3_takePad l mc9 ms10 b8 S_6 dp h) cc_X11_125 hc_35.1 hc_35.2 (by decide) rfl rfl ⟨by decide, by decide⟩ ⟨hm_1, hm_2⟩ rfl (Nat.le_of_ble_eq_true rfl) dX11_term_35 (fun r_11 S_11 h => ?_)
  obtain ⟨mc12, ms13, hm_1, hm_2, h⟩ := h
  refine cg_callsr C (t_X4_ofTokens l mc12 ms13 ((nI 0)) x1 ((nI 0)) r_11 S_11 dp h) cc_X11_333 rfl ⟨by decide, by decide⟩ ⟨hm_1, hm_2⟩ rfl (Nat.le_of_ble_eq_true rfl) dX11_term_38 (fun r_14 S_14 h => ?_)
  obtain ⟨hc_41, h⟩ := h
  obtain ⟨mc15, ms16, hm_1, hm_2, h⟩ := h
  refine cg_calli C (t_X6_putLeaf l mc15 ms16 b7 r_14 S_14 dp h) cc_X11_337 hc_41.1 hc_41.2 (by decide) rfl rfl ⟨by decide, by decide⟩ ⟨hm_1, hm_2⟩ rfl (Nat.le_of_ble_eq_true rfl) dX11_term_41 (fun r_17 S_17 h => ?_)
  obtain ⟨hb_44, h⟩ := h
  exact cg_iret C h dX11_term_44 hb_44.1 hb_44.2
end S_X11_term
set_option maxHeartbeats 1000000 in
set_option maxRecDepth 20000 in
theorem t_X11_term (l : Launch) (mc ms : Nat) (x0 : Nat) (x1 : Int32) (S : cS) (dp : Nat) {P : Int32 → cS → Prop} (h : k_X11_term P dp mc ms x0 x1 S) : cMet (cQi P) l yX11_term cX11_term 2 (some .int) 9 mc ms 209 [.ref x0, .int x1] S dp := by
  intro D Y tp sz
  refine cg_body (by decide +kernel) (Nat.le_of_ble_eq_true rfl) ?_
  intro p e s m args below meth c C
  generalize va_A (cWd Y S) sz = A at C ⊢
  have C : cC p s m args meth c cX11_term 2 (some .int) A D Y tp dp RX11 := C
  refine cg_lv (lv' := [(0, .ref x0), (1, .int x1)]) rfl ?_
  unfold k_X11_term at h
  refine cg_iload_n C (i := 1) rfl 1 rfl dX11_term_0 ?_
  obtain ⟨hb_1, h⟩ := h
  refine cg_callsv C (t_X11_checkField l x1 S dp h) cc_X11_152 rfl ⟨by decide, by decide⟩ hb_1 rfl (Nat.le_of_ble_eq_true rfl) dX11_term_1 (fun S_1 h => ?_)
  simp only [Nat.add_zero]
  refine cg_aload_n C (i := 0) rfl 0 rfl dX11_term_4 ?_
  refine cg_aload_n C (i := 0) rfl 0 rfl dX11_term_5 ?_
  obtain ⟨hc_6, h⟩ := h
  obtain ⟨b2, hb_b2, h⟩ := h
  refine cg_get C (k := 11) (j := 0) (.ref b2) hc_6.1 hc_6.2 (by decide) rfl (by decide) rfl (show cV _ 11 0 x0 = _ from congrArg va_rf hb_b2) cWs_wsX110 cl_X11_10 rfl dX11_term_6 ?_
  obtain ⟨hc_9, h⟩ := h
  obtain ⟨mc3, ms4, hm_1, hm_2, h⟩ := h
  refine cg_calli C (t_X3_readPadTokens l mc3 ms4 b2 S_1 dp h) cc_X11_324 hc_9.1 hc_9.2 (by decide) rfl rfl ⟨by decide, by decide⟩ ⟨hm_1, hm_2⟩ rfl (Nat.le_of_ble_eq_true rfl) dX11_term_9 (fun r_5 S_5 h => ?_)
  refine cg_iconst C (x := nI 1) rfl dX11_term_12 ?_
  refine cg_icmp_ne C 20 (by decide) dX11_term_13 (fun c_ => ?_) (fun c_ => ?_)
  · have h := h.1 c_
    refine cg_iconst C (x := nI 0) rfl dX11_term_20 ?_
    exact cg_sub [0, 1] rfl (tb_X11_term_21 C   x0 x1 ((nI 0)) x0 (0 + mc3) (0 + ms4) S_5 h)
  · have h := h.2 c_
    refine cg_iconst C (x := nI 1) rfl dX11_term_16 ?_
    refine cg_goto C 21 (by decide) dX11_term_17 ?_
    exact cg_sub [0, 1] rfl (tb_X11_term_21 C   x0 x1 ((nI 1)) x0 (0 + mc3) (0 + ms4) S_5 h)
def k_X11_phrase_50 (Q : Int32 → cS → Prop) (dp : Nat) (mc ms : Nat)  (x0 : Nat) (x1 : Int32) (x2 : Int32) (t0 : Int32) (t1 : Nat) (cd dd : Nat) (S : cS) : Prop :=
cA S t1 11 ∧ ((cd ≤ mc ∧ dd ≤ ms) ∧ (k_X11_checkLeaf (fun S_6 => 
cA S_6 x0 11 ∧ ((∃ b7 : Nat, cr S_6 362 x0 = some b7 ∧ (cA S_6 x0 11 ∧ ((∃ b8 : Nat, cr S_6 352 x0 = some b8 ∧ (cA S_6 b8 3 ∧ ((∃ mc9 ms10 : Nat, cd + mc9 ≤ mc ∧ dd + ms10 ≤ ms ∧ (k_X3_takePad (fun r_11 S_11 => 
(∃ mc12 ms13 : Nat, cd + mc9 + mc12 ≤ mc ∧ dd + ms10 + ms13 ≤ ms ∧ (k_X4_ofTokens (fun r_14 S_14 => 
cA S_14 b7 6 ∧ ((∃ mc15 ms16 : Nat, cd + mc9 + mc12 + mc15 ≤ mc ∧ dd + ms10 + ms13 + ms16 ≤ ms ∧ (k_X6_putLeaf (fun r_17 S_17 => 
(cd + mc9 + mc12 + mc15 ≤ mc ∧ dd + ms10 + ms13 + ms16 ≤ ms) ∧ (Q r_17 S_17)) dp mc15 ms16 b7 r_14 S_14)))) dp mc12 ms13 ((nI 0)) x1 x2 r_11 S_11))) dp mc9 ms10 b8 S_6)))))))))) dp t1 t0 S))
def k_X11_phrase_49 (Q : Int32 → cS → Prop) (dp : Nat) (mc ms : Nat)  (x0 : Nat) (x1 : Int32) (x2 : Int32) (t0 : Nat) (cd dd : Nat) (S : cS) : Prop :=
k_X11_phrase_50 Q dp mc ms  x0 x1 x2 ((nI 0)) t0 cd dd S
def k_X11_phrase (Q : Int32 → cS → Prop) (dp : Nat) (mc ms : Nat) (x0 : Nat) (x1 : Int32) (x2 : Int32) (S : cS) : Prop :=
(0 ≤ mc ∧ 0 ≤ ms) ∧ (k_X11_checkField (fun S_1 => 
((x2 < 0 →
  False) ∧
 (¬ x2 < 0 →
  ((x2 ≤ ((nI 20)) →
    cA S_1 x0 11 ∧ ((∃ b2 : Nat, cr S_1 352 x0 = some b2 ∧ (cA S_1 b2 3 ∧ ((∃ mc3 ms4 : Nat, 0 + mc3 ≤ mc ∧ 0 + ms4 ≤ ms ∧ (k_X3_readPadTokens (fun r_5 S_5 => 
    ((r_5 < ((nI 1)) →
      k_X11_phrase_49 Q dp mc ms  x0 x1 x2 x0 (0 + mc3) (0 + ms4) S_5) ∧
     (¬ r_5 < ((nI 1)) →
      ((((nI 6)) < r_5 →
        k_X11_phrase_49 Q dp mc ms  x0 x1 x2 x0 (0 + mc3) (0 + ms4) S_5) ∧
       (¬ ((nI 6)) < r_5 →
        k_X11_phrase_50 Q dp mc ms  x0 x1 x2 ((nI 1)) x0 (0 + mc3) (0 + ms4) S_5))))) dp mc3 ms4 b2 S_1))))))) ∧
   (¬ x2 ≤ ((nI 20)) →
    False))))) dp x1 S)
section S_X11_phrase
variable {p : Program} {l : Launch} {e : Env} {s : State} {m : MethodId} {args : Array Value} {below : List Frame} {meth : Method} {c : Code} {A : Nat → Prop} {D : va_G} {Y : cY} {tp dp : Nat}
set_option maxRecDepth 20000 in
theorem tb_X11_phrase_50 {mc ms : Nat} (C : cC p s m args meth c cX11_phrase 4 (some .int) A D Y tp dp RX11) {post : Int32 → cS → Prop}   (x0 : Nat) (x1 : Int32) (x2 : Int32) (t0 : Int32) (t1 : Nat) (cd dd : Nat) (S : cS) (h : k_X11_phrase_50 post dp mc ms  x0 x1 x2 t0 t1 cd dd S) : cG p l e (cRm 9 mc ms 209) s m args below meth c A D Y 4 (MQ below (cQi post D Y A) args s mc ms A) cd dd 50 [(0, .ref x0), (1, .int x1), (2, .int x2)] [.int t0, .ref t1] S := by
  unfold k_X11_phrase_50 at h
  obtain ⟨hc_50, h⟩ := h
  obtain ⟨hb_50, h⟩ := h
  refine cg_callv C (t_X11_checkLeaf l t1 t0 S dp h) cc_X11_327 hc_50.1 hc_50.2 (by decide) rfl rfl ⟨by decide, by decide⟩ hb_50 rfl (Nat.le_of_ble_eq_true rfl) dX11_phrase_50 (fun S_6 h => ?_)
  simp only [Nat.add_zero]
  refine cg_aload_n C (i := 0) rfl 0 rfl dX11_phrase_53 ?_
  obtain ⟨hc_54, h⟩ := h
  obtain ⟨b7, hb_b7, h⟩ := h
  refine cg_get C (k := 11) (j := 10) (.ref b7) hc_54.1 hc_54.2 (by decide) rfl (by decide) rfl (show cV _ 11 10 x0 = _ from congrArg va_rf hb_b7) cWs_wsX110 cl_X11_61 rfl dX11_phrase_54 ?_
  refine cg_iconst C (x := nI 0) rfl dX11_phrase_57 ?_
  refine cg_iload_n C (i := 1) rfl 1 rfl dX11_phrase_58 ?_
  refine cg_iload_n C (i := 2) rfl 2 rfl dX11_phrase_59 ?_
  refine cg_aload_n C (i := 0) rfl 0 rfl dX11_phrase_60 ?_
  obtain ⟨hc_61, h⟩ := h
  obtain ⟨b8, hb_b8, h⟩ := h
  refine cg_get C (k := 11) (j := 0) (.ref b8) hc_61.1 hc_61.2 (by decide) rfl (by decide) rfl (show cV _ 11 0 x0 = _ from congrArg va_rf hb_b8) cWs_wsX110 cl_X11_10 rfl dX11_phrase_61 ?_
  obtain ⟨hc_64, h⟩ := h
  obtain ⟨mc9, ms10, hm_1, hm_2, h⟩ := h
  refine cg_callr C (t_X3_takePad l mc9 ms10 b8 S_6 dp h) cc_X11_125 hc_64.1 hc_64.2 (by decide) rfl rfl ⟨by decide, by decide⟩ ⟨hm_1, hm_2⟩ rfl (Nat.le_of_ble_eq_true rfl) dX11_phrase_64 (fun r_11 S_11 h => ?_)
  obtain ⟨mc12, ms13, hm_1, hm_2, h⟩ := h
  refine cg_callsr C (t_X4_ofTokens l mc12 ms13 ((nI 0)) x1 x2 r_11 S_11 dp h) cc_X11_333 rfl ⟨by decide, by decide⟩ ⟨hm_1, hm_2⟩ rfl (Nat.le_of_ble_eq_true rfl) dX11_phrase_67 (fun r_14 S_14 h => ?_)
  obtain ⟨hc_70, h⟩ := h
  obtain ⟨mc15, ms16, hm_1, hm_2, h⟩ := h
  refine cg_calli C (t_X6_putLeaf l mc15 ms16 b7 r_14 S_14 dp h) cc_X11_337 hc_70.1 hc_70.2 (by decide) rfl rfl ⟨by decide, by decide⟩ ⟨hm_1, hm_2⟩ rfl (Nat.le_of_ble_eq_true rfl) dX11_phrase_70 (fun r_17 S_17 h => ?_)
  obtain ⟨hb_73, h⟩ := h
  exact cg_iret C h dX11_phrase_73 hb_73.1 hb_73.2
set_option maxRecDepth 20000 in
theorem tb_X11_phrase_49 {mc ms : Nat} (C : cC p s m args meth c cX11_phrase 4 (some .int) A D Y tp dp RX11) {post : Int32 → cS → Prop}   (x0 : Nat) (x1 : Int32) (x2 : Int32) (t0 : Nat) (cd dd : Nat) (S : cS) (h : k_X11_phrase_49 post dp mc ms  x0 x1 x2 t0 cd dd S) : cG p l e (cRm 9 mc ms 209) s m args below meth c A D Y 4 (MQ below (cQi post D Y A) args s mc ms A) cd dd 49 [(0, .ref x0), (1, .int x1), (2, .int x2)] [.ref t0] S := by
  unfold k_X11_phrase_49 at h
  refine cg_iconst C (x := nI 0) rfl dX11_phrase_49 ?_
  exact cg_sub [0, 1, 2] rfl (tb_X11_phrase_50 C   x0 x1 x2 ((nI 0)) t0 cd dd S h)
end S_X11_phrase
set_option maxHeartbeats 1000000 in
set_option maxRecDepth 20000 in
theorem t_X11_phrase (l : Launch) (mc ms : Nat) (x0 : Nat) (x1 : Int32) (x2 : Int32) (S : cS) (dp : Nat) {P : Int32 → cS → Prop} (h : k_X11_phrase P dp mc ms x0 x1 x2 S) : cMet (cQi P) l yX11_phrase cX11_phrase 4 (some .int) 9 mc ms 209 [.ref x0, .int x1, .int x2] S dp := by
  intro D Y tp sz
  refine cg_body (by decide +kernel) (Nat.le_of_ble_eq_true rfl) ?_
  intro p e s m args below meth c C
  generalize va_A (cWd Y S) sz = A at C ⊢
  have C : cC p s m args meth c cX11_phrase 4 (some .int) A D Y tp dp RX11 := C
  refine cg_lv (lv' := [(0, .ref x0), (1, .int x1), (2, .int x2)]) rfl ?_
  unfold k_X11_phrase at h
  refine cg_iload_n C (i := 1) rfl 1 rfl dX11_phrase_0 ?_
  obtain ⟨hb_1, h⟩ := h
  refine cg_callsv C (t_X11_checkField l x1 S dp h) cc_X11_152 rfl ⟨by decide, by decide⟩ hb_1 rfl (Nat.le_of_ble_eq_true rfl) dX11_phrase_1 (fun S_1 h => ?_)
  simp only [Nat.add_zero]
  refine cg_iload_n C (i := 2) rfl 2 rfl dX11_phrase_4 ?_
  refine cg_if_lt C 14 (by decide) dX11_phrase_5 (fun c_ => ?_) (fun c_ => ?_)
  · have h := h.1 c_
    exact h.elim
  · have h := h.2 c_
    refine cg_iload_n C (i := 2) rfl 2 rfl dX11_phrase_8 ?_
    refine cg_bipush C (x := nI 20) rfl dX11_phrase_9 ?_
    refine cg_icmp_le C 25 (by decide) dX11_phrase_11 (fun c_ => ?_) (fun c_ => ?_)
    · have h := h.1 c_
      refine cg_aload_n C (i := 0) rfl 0 rfl dX11_phrase_25 ?_
      obtain ⟨hc_26, h⟩ := h
      obtain ⟨b2, hb_b2, h⟩ := h
      refine cg_get C (k := 11) (j := 0) (.ref b2) hc_26.1 hc_26.2 (by decide) rfl (by decide) rfl (show cV _ 11 0 x0 = _ from congrArg va_rf hb_b2) cWs_wsX110 cl_X11_10 rfl dX11_phrase_26 ?_
      obtain ⟨hc_29, h⟩ := h
      obtain ⟨mc3, ms4, hm_1, hm_2, h⟩ := h
      refine cg_calli C (t_X3_readPadTokens l mc3 ms4 b2 S_1 dp h) cc_X11_324 hc_29.1 hc_29.2 (by decide) rfl rfl ⟨by decide, by decide⟩ ⟨hm_1, hm_2⟩ rfl (Nat.le_of_ble_eq_true rfl) dX11_phrase_29 (fun r_5 S_5 h => ?_)
      refine cg_istore_n C (i := 3) (lv' := [(3, .int r_5), (0, .ref x0), (1, .int x1), (2, .int x2)]) rfl (Nat.le_of_ble_eq_true rfl) rfl dX11_phrase_32 ?_
      refine cg_aload_n C (i := 0) rfl 1 rfl dX11_phrase_33 ?_
      refine cg_iload_n C (i := 3) rfl 0 rfl dX11_phrase_34 ?_
      refine cg_iconst C (x := nI 1) rfl dX11_phrase_35 ?_
      refine cg_icmp_lt C 49 (by decide) dX11_phrase_36 (fun c_ => ?_) (fun c_ => ?_)
      · have h := h.1 c_
        exact cg_sub [1, 2, 3] rfl (tb_X11_phrase_49 C   x0 x1 x2 x0 (0 + mc3) (0 + ms4) S_5 h)
      · have h := h.2 c_
        refine cg_iload_n C (i := 3) rfl 0 rfl dX11_phrase_39 ?_
        refine cg_bipush C (x := nI 6) rfl dX11_phrase_40 ?_
        refine cg_icmp_gt C 49 (by decide) dX11_phrase_42 (fun c_ => ?_) (fun c_ => ?_)
        · have h := h.1 c_
          exact cg_sub [1, 2, 3] rfl (tb_X11_phrase_49 C   x0 x1 x2 x0 (0 + mc3) (0 + ms4) S_5 h)
        · have h := h.2 c_
          refine cg_iconst C (x := nI 1) rfl dX11_phrase_45 ?_
          refine cg_goto C 50 (by decide) dX11_phrase_46 ?_
          exact cg_sub [1, 2, 3] rfl (tb_X11_phrase_50 C   x0 x1 x2 ((nI 1)) x0 (0 + mc3) (0 + ms4) S_5 h)
    · have h := h.2 c_
      exact h.elim
def k_X11_near_43 (Q : Int32 → cS → Prop) (dp : Nat) (mc ms : Nat)  (x0 : Nat) (x1 : Int32) (x2 : Int32) (x3 : Int32) (t0 : Int32) (t1 : Nat) (cd dd : Nat) (S : cS) : Prop :=
cA S t1 11 ∧ ((cd ≤ mc ∧ dd ≤ ms) ∧ (k_X11_checkLeaf (fun S_6 => 
cA S_6 x0 11 ∧ ((∃ b7 : Nat, cr S_6 352 x0 = some b7 ∧ (cA S_6 b7 3 ∧ ((∃ mc8 ms9 : Nat, cd + mc8 ≤ mc ∧ dd + ms9 ≤ ms ∧ (k_X3_takePad (fun r_10 S_10 => 
(∃ mc11 ms12 : Nat, cd + mc8 + mc11 ≤ mc ∧ dd + ms9 + ms12 ≤ ms ∧ (k_X4_ofTokens (fun r_13 S_13 => 
cA S_13 r_13 4 ∧ (isZ x3 ∧ (∀ S14 : cS, S14 = cSi S_13 131 r_13 x3 → cA S14 x0 11 ∧ ((∃ b15 : Nat, cr S14 362 x0 = some b15 ∧ (cA S14 b15 6 ∧ ((∃ mc16 ms17 : Nat, cd + mc8 + mc11 + mc16 ≤ mc ∧ dd + ms9 + ms12 + ms17 ≤ ms ∧ (k_X6_putLeaf (fun r_18 S_18 => 
(cd + mc8 + mc11 + mc16 ≤ mc ∧ dd + ms9 + ms12 + ms17 ≤ ms) ∧ (Q r_18 S_18)) dp mc16 ms17 b15 r_13 S14))))))))) dp mc11 ms12 ((nI 1)) x1 x2 r_10 S_10))) dp mc8 ms9 b7 S_6))))))) dp t1 t0 S))
def k_X11_near (Q : Int32 → cS → Prop) (dp : Nat) (mc ms : Nat) (x0 : Nat) (x1 : Int32) (x2 : Int32) (x3 : Int32) (S : cS) : Prop :=
(0 ≤ mc ∧ 0 ≤ ms) ∧ (k_X11_checkField (fun S_1 => 
((x2 < ((nI 1)) →
  False) ∧
 (¬ x2 < ((nI 1)) →
  ((x2 ≤ ((nI 20)) →
    cA S_1 x0 11 ∧ ((∃ b2 : Nat, cr S_1 352 x0 = some b2 ∧ (cA S_1 b2 3 ∧ ((∃ mc3 ms4 : Nat, 0 + mc3 ≤ mc ∧ 0 + ms4 ≤ ms ∧ (k_X3_readPadTokens (fun r_5 S_5 => 
    ((¬ r_5 = ((nI 2)) →
      k_X11_near_43 Q dp mc ms  x0 x1 x2 x3 ((nI 0)) x0 (0 + mc3) (0 + ms4) S_5) ∧
     (r_5 = ((nI 2)) →
      k_X11_near_43 Q dp mc ms  x0 x1 x2 x3 ((nI 1)) x0 (0 + mc3) (0 + ms4) S_5))) dp mc3 ms4 b2 S_1))))))) ∧
   (¬ x2 ≤ ((nI 20)) →
    False))))) dp x1 S)
section S_X11_near
variable {p : Program} {l : Launch} {e : Env} {s : State} {m : MethodId} {args : Array Value} {below : List Frame} {meth : Method} {c : Code} {A : Nat → Prop} {D : va_G} {Y : cY} {tp dp : Nat}
set_option maxRecDepth 20000 in
theorem tb_X11_near_43 {mc ms : Nat} (C : cC p s m args meth c cX11_near 5 (some .int) A D Y tp dp RX11) {post : Int32 → cS → Prop}   (x0 : Nat) (x1 : Int32) (x2 : Int32) (x3 : Int32) (t0 : Int32) (t1 : Nat) (cd dd : Nat) (S : cS) (h : k_X11_near_43 post dp mc ms  x0 x1 x2 x3 t0 t1 cd dd S) : cG p l e (cRm 9 mc ms 209) s m args below meth c A D Y 5 (MQ below (cQi post D Y A) args s mc ms A) cd dd 43 [(0, .ref x0), (1, .int x1), (2, .int x2), (3, .int x3)] [.int t0, .ref t1] S := by
  unfold k_X11_near_43 at h
  obtain ⟨hc_43, h⟩ := h
  obtain ⟨hb_43, h⟩ := h
  refine cg_callv C (t_X11_checkLeaf l t1 t0 S dp h) cc_X11_327 hc_43.1 hc_43.2 (by decide) rfl rfl ⟨by decide, by decide⟩ hb_43 rfl (Nat.le_of_ble_eq_true rfl) dX11_near_43 (fun S_6 h => ?_)
  simp only [Nat.add_zero]
  refine cg_iconst C (x := nI 1) rfl dX11_near_46 ?_
  refine cg_iload_n C (i := 1) rfl 1 rfl dX11_near_47 ?_
  refine cg_iload_n C (i := 2) rfl 2 rfl dX11_near_48 ?_
  refine cg_aload_n C (i := 0) rfl 0 rfl dX11_near_49 ?_
  obtain ⟨hc_50, h⟩ := h
  obtain ⟨b7, hb_b7, h⟩ := h
  refine cg_get C (k := 11) (j := 0) (.ref b7) hc_50.1 hc_50.2 (by decide) rfl (by decide) rfl (show cV _ 11 0 x0 = _ from congrArg va_rf hb_b7) cWs_wsX110 cl_X11_10 rfl dX11_near_50 ?_
  obtain ⟨hc_53, h⟩ := h
  obtain ⟨mc8, ms9, hm_1, hm_2, h⟩ := h
  refine cg_callr C (t_X3_takePad l mc8 ms9 b7 S_6 dp h) cc_X11_125 hc_53.1 hc_53.2 (by decide) rfl rfl ⟨by decide, by decide⟩ ⟨hm_1, hm_2⟩ rfl (Nat.le_of_ble_eq_true rfl) dX11_near_53 (fun r_10 S_10 h => ?_)
  obtain ⟨mc11, ms12, hm_1, hm_2, h⟩ := h
  refine cg_callsr C (t_X4_ofTokens l mc11 ms12 ((nI 1)) x1 x2 r_10 S_10 dp h) cc_X11_333 rfl ⟨by decide, by decide⟩ ⟨hm_1, hm_2⟩ rfl (Nat.le_of_ble_eq_true rfl) dX11_near_56 (fun r_13 S_13 h => ?_)
  refine cg_astore (lv' := [(4, .ref r_13), (0, .ref x0), (1, .int x1), (2, .int x2), (3, .int x3)]) C (Nat.le_of_ble_eq_true rfl) rfl dX11_near_59 ?_
  refine cg_aload C 0 rfl dX11_near_61 ?_
  refine cg_iload_n C (i := 3) rfl 4 rfl dX11_near_63 ?_
  obtain ⟨hc_64, h⟩ := h
  obtain ⟨hz_64, h⟩ := h
  refine cg_puti C (k := 4) (j := 3) (ty := tyX4) (fty := .boolean) hc_64.1 hc_64.2 (by decide) rfl (by decide) rfl (by decide) rfl cWs_wsX40 tyX4_ok nmX4 cl_X11_345 rfl rfl rfl (isZ_nar hz_64) (isZ_fit hz_64) dX11_near_64 ?_
  refine cg_nm (fun S14 e_S14 => ?_)
  have h := h S14 e_S14
  refine cg_aload_n C (i := 0) rfl 1 rfl dX11_near_67 ?_
  obtain ⟨hc_68, h⟩ := h
  obtain ⟨b15, hb_b15, h⟩ := h
  refine cg_get C (k := 11) (j := 10) (.ref b15) hc_68.1 hc_68.2 (by decide) rfl (by decide) rfl (show cV _ 11 10 x0 = _ from congrArg va_rf hb_b15) cWs_wsX110 cl_X11_61 rfl dX11_near_68 ?_
  refine cg_aload C 0 rfl dX11_near_71 ?_
  obtain ⟨hc_73, h⟩ := h
  obtain ⟨mc16, ms17, hm_1, hm_2, h⟩ := h
  refine cg_calli C (t_X6_putLeaf l mc16 ms17 b15 r_13 S14 dp h) cc_X11_337 hc_73.1 hc_73.2 (by decide) rfl rfl ⟨by decide, by decide⟩ ⟨hm_1, hm_2⟩ rfl (Nat.le_of_ble_eq_true rfl) dX11_near_73 (fun r_18 S_18 h => ?_)
  obtain ⟨hb_76, h⟩ := h
  exact cg_iret C h dX11_near_76 hb_76.1 hb_76.2
end S_X11_near
set_option maxHeartbeats 1000000 in
set_option maxRecDepth 20000 in
theorem t_X11_near (l : Launch) (mc ms : Nat) (x0 : Nat) (x1 : Int32) (x2 : Int32) (x3 : Int32) (S : cS) (dp : Nat) {P : Int32 → cS → Prop} (h : k_X11_near P dp mc ms x0 x1 x2 x3 S) : cMet (cQi P) l yX11_near cX11_near 5 (some .int) 9 mc ms 209 [.ref x0, .int x1, .int x2, .int x3] S dp := by
  intro D Y tp sz
  refine cg_body (by decide +kernel) (Nat.le_of_ble_eq_true rfl) ?_
  intro p e s m args below meth c C
  generalize va_A (cWd Y S) sz = A at C ⊢
  have C : cC p s m args meth c cX11_near 5 (some .int) A D Y tp dp RX11 := C
  refine cg_lv (lv' := [(0, .ref x0), (1, .int x1), (2, .int x2), (3, .int x3)]) rfl ?_
  unfold k_X11_near at h
  refine cg_iload_n C (i := 1) rfl 1 rfl dX11_near_0 ?_
  obtain ⟨hb_1, h⟩ := h
  refine cg_callsv C (t_X11_checkField l x1 S dp h) cc_X11_152 rfl ⟨by decide, by decide⟩ hb_1 rfl (Nat.le_of_ble_eq_true rfl) dX11_near_1 (fun S_1 h => ?_)
  simp only [Nat.add_zero]
  refine cg_iload_n C (i := 2) rfl 2 rfl dX11_near_4 ?_
  refine cg_iconst C (x := nI 1) rfl dX11_near_5 ?_
  refine cg_icmp_lt C 15 (by decide) dX11_near_6 (fun c_ => ?_) (fun c_ => ?_)
  · have h := h.1 c_
    exact h.elim
  · have h := h.2 c_
    refine cg_iload_n C (i := 2) rfl 2 rfl dX11_near_9 ?_
    refine cg_bipush C (x := nI 20) rfl dX11_near_10 ?_
    refine cg_icmp_le C 26 (by decide) dX11_near_12 (fun c_ => ?_) (fun c_ => ?_)
    · have h := h.1 c_
      refine cg_aload_n C (i := 0) rfl 0 rfl dX11_near_26 ?_
      refine cg_aload_n C (i := 0) rfl 0 rfl dX11_near_27 ?_
      obtain ⟨hc_28, h⟩ := h
      obtain ⟨b2, hb_b2, h⟩ := h
      refine cg_get C (k := 11) (j := 0) (.ref b2) hc_28.1 hc_28.2 (by decide) rfl (by decide) rfl (show cV _ 11 0 x0 = _ from congrArg va_rf hb_b2) cWs_wsX110 cl_X11_10 rfl dX11_near_28 ?_
      obtain ⟨hc_31, h⟩ := h
      obtain ⟨mc3, ms4, hm_1, hm_2, h⟩ := h
      refine cg_calli C (t_X3_readPadTokens l mc3 ms4 b2 S_1 dp h) cc_X11_324 hc_31.1 hc_31.2 (by decide) rfl rfl ⟨by decide, by decide⟩ ⟨hm_1, hm_2⟩ rfl (Nat.le_of_ble_eq_true rfl) dX11_near_31 (fun r_5 S_5 h => ?_)
      refine cg_iconst C (x := nI 2) rfl dX11_near_34 ?_
      refine cg_icmp_ne C 42 (by decide) dX11_near_35 (fun c_ => ?_) (fun c_ => ?_)
      · have h := h.1 c_
        refine cg_iconst C (x := nI 0) rfl dX11_near_42 ?_
        exact cg_sub [0, 1, 2, 3] rfl (tb_X11_near_43 C   x0 x1 x2 x3 ((nI 0)) x0 (0 + mc3) (0 + ms4) S_5 h)
      · have h := h.2 c_
        refine cg_iconst C (x := nI 1) rfl dX11_near_38 ?_
        refine cg_goto C 43 (by decide) dX11_near_39 ?_
        exact cg_sub [0, 1, 2, 3] rfl (tb_X11_near_43 C   x0 x1 x2 x3 ((nI 1)) x0 (0 + mc3) (0 + ms4) S_5 h)
    · have h := h.2 c_
      exact h.elim
def k_X11_prefix_21 (Q : Int32 → cS → Prop) (dp : Nat) (mc ms : Nat)  (x0 : Nat) (x1 : Int32) (t0 : Int32) (t1 : Nat) (cd dd : Nat) (S : cS) : Prop :=
cA S t1 11 ∧ ((cd ≤ mc ∧ dd ≤ ms) ∧ (k_X11_checkLeaf (fun S_4 => 
cA S_4 x0 11 ∧ ((∃ b5 : Nat, cr S_4 352 x0 = some b5 ∧ (cA S_4 b5 3 ∧ ((∃ mc6 ms7 : Nat, cd + mc6 ≤ mc ∧ dd + ms7 ≤ ms ∧ (k_X3_takePad (fun r_8 S_8 => 
cA S_8 x0 11 ∧ ((∃ b9 : Nat, cr S_8 362 x0 = some b9 ∧ (cA S_8 x0 11 ∧ ((∃ b10 : Nat, cr S_8 352 x0 = some b10 ∧ (cA S_8 b10 3 ∧ ((cd + mc6 ≤ mc ∧ dd + ms7 ≤ ms) ∧ (k_X3_wordAt (fun r_11 S_11 => 
(∃ mc12 ms13 : Nat, cd + mc6 + mc12 ≤ mc ∧ dd + ms7 + ms13 ≤ ms ∧ (k_X4_ofPrefix (fun r_14 S_14 => 
cA S_14 b9 6 ∧ ((∃ mc15 ms16 : Nat, cd + mc6 + mc12 + mc15 ≤ mc ∧ dd + ms7 + ms13 + ms16 ≤ ms ∧ (k_X6_putLeaf (fun r_17 S_17 => 
(cd + mc6 + mc12 + mc15 ≤ mc ∧ dd + ms7 + ms13 + ms16 ≤ ms) ∧ (Q r_17 S_17)) dp mc15 ms16 b9 r_14 S_14)))) dp mc12 ms13 x1 r_11 S_11))) dp b10 ((nI 0)) S_8))))))))) dp mc6 ms7 b5 S_4))))))) dp t1 t0 S))
def k_X11_prefix (Q : Int32 → cS → Prop) (dp : Nat) (mc ms : Nat) (x0 : Nat) (x1 : Int32) (S : cS) : Prop :=
(0 ≤ mc ∧ 0 ≤ ms) ∧ (k_X11_checkField (fun S_1 => 
cA S_1 x0 11 ∧ ((∃ b2 : Nat, cr S_1 352 x0 = some b2 ∧ (cA S_1 b2 3 ∧ ((0 ≤ mc ∧ 0 ≤ ms) ∧ (k_X3_readPad (fun r_3 S_3 => 
((¬ r_3 = ((nI 1)) →
  k_X11_prefix_21 Q dp mc ms  x0 x1 ((nI 0)) x0 0 0 S_3) ∧
 (r_3 = ((nI 1)) →
  k_X11_prefix_21 Q dp mc ms  x0 x1 ((nI 1)) x0 0 0 S_3))) dp b2 S_1)))))) dp x1 S)
section S_X11_prefix
variable {p : Program} {l : Launch} {e : Env} {s : State} {m : MethodId} {args : Array Value} {below : List Frame} {meth : Method} {c : Code} {A : Nat → Prop} {D : va_G} {Y : cY} {tp dp : Nat}
set_option maxRecDepth 20000 in
theorem tb_X11_prefix_21 {mc ms : Nat} (C : cC p s m args meth c cX11_prefix 2 (some .int) A D Y tp dp RX11) {post : Int32 → cS → Prop}   (x0 : Nat) (x1 : Int32) (t0 : Int32) (t1 : Nat) (cd dd : Nat) (S : cS) (h : k_X11_prefix_21 post dp mc ms  x0 x1 t0 t1 cd dd S) : cG p l e (cRm 9 mc ms 209) s m args below meth c A D Y 2 (MQ below (cQi post D Y A) args s mc ms A) cd dd 21 [(0, .ref x0), (1, .int x1)] [.int t0, .ref t1] S := by
  unfold k_X11_prefix_21 at h
  obtain ⟨hc_21, h⟩ := h
  obtain ⟨hb_21, h⟩ := h
  refine cg_callv C (t_X11_checkLeaf l t1 t0 S dp h) cc_X11_327 hc_21.1 hc_21.2 (by decide) rfl rfl ⟨by decide, by decide⟩ hb_21 rfl (Nat.le_of_ble_eq_true rfl) dX11_prefix_21 (fun S_4 h => ?_)
  simp only [Nat.add_zero]
  refine cg_aload_n C (i := 0) rfl 0 rfl dX11_prefix_24 ?_
  obtain ⟨hc_25, h⟩ := h
  obtain ⟨b5, hb_b5, h⟩ := h
  refine cg_get C (k := 11) (j := 0) (.ref b5) hc_25.1 hc_25.2 (by decide) rfl (by decide) rfl (show cV _ 11 0 x0 = _ from congrArg va_rf hb_b5) cWs_wsX110 cl_X11_10 rfl dX11_prefix_25 ?_
  obtain ⟨hc_28, h⟩ := h
  obtain ⟨mc6, ms7, hm_1, hm_2, h⟩ := h
  refine cg_callr C (t_X3_takePad l mc6 ms7 b5 S_4 dp h) cc_X11_125 hc_28.1 hc_28.2 (by decide) rfl rfl ⟨by decide, by decide⟩ ⟨hm_1, hm_2⟩ rfl (Nat.le_of_ble_eq_true rfl) dX11_prefix_28 (fun r_8 S_8 h => ?_)
  refine cg_pop C rfl dX11_prefix_31 ?_
  refine cg_aload_n C (i := 0) rfl 0 rfl dX11_prefix_32 ?_
  obtain ⟨hc_33, h⟩ := h
  obtain ⟨b9, hb_b9, h⟩ := h
  refine cg_get C (k := 11) (j := 10) (.ref b9) hc_33.1 hc_33.2 (by decide) rfl (by decide) rfl (show cV _ 11 10 x0 = _ from congrArg va_rf hb_b9) cWs_wsX110 cl_X11_61 rfl dX11_prefix_33 ?_
  refine cg_iload_n C (i := 1) rfl 1 rfl dX11_prefix_36 ?_
  refine cg_aload_n C (i := 0) rfl 0 rfl dX11_prefix_37 ?_
  obtain ⟨hc_38, h⟩ := h
  obtain ⟨b10, hb_b10, h⟩ := h
  refine cg_get C (k := 11) (j := 0) (.ref b10) hc_38.1 hc_38.2 (by decide) rfl (by decide) rfl (show cV _ 11 0 x0 = _ from congrArg va_rf hb_b10) cWs_wsX110 cl_X11_10 rfl dX11_prefix_38 ?_
  refine cg_iconst C (x := nI 0) rfl dX11_prefix_41 ?_
  obtain ⟨hc_42, h⟩ := h
  obtain ⟨hb_42, h⟩ := h
  refine cg_calll C (t_X3_wordAt l b10 ((nI 0)) S_8 dp h) cc_X11_348 hc_42.1 hc_42.2 (by decide) rfl rfl ⟨by decide, by decide⟩ hb_42 rfl (Nat.le_of_ble_eq_true rfl) dX11_prefix_42 (fun r_11 S_11 h => ?_)
  simp only [Nat.add_zero]
  obtain ⟨mc12, ms13, hm_1, hm_2, h⟩ := h
  refine cg_callsr C (t_X4_ofPrefix l mc12 ms13 x1 r_11 S_11 dp h) cc_X11_352 rfl ⟨by decide, by decide⟩ ⟨hm_1, hm_2⟩ rfl (Nat.le_of_ble_eq_true rfl) dX11_prefix_45 (fun r_14 S_14 h => ?_)
  obtain ⟨hc_48, h⟩ := h
  obtain ⟨mc15, ms16, hm_1, hm_2, h⟩ := h
  refine cg_calli C (t_X6_putLeaf l mc15 ms16 b9 r_14 S_14 dp h) cc_X11_337 hc_48.1 hc_48.2 (by decide) rfl rfl ⟨by decide, by decide⟩ ⟨hm_1, hm_2⟩ rfl (Nat.le_of_ble_eq_true rfl) dX11_prefix_48 (fun r_17 S_17 h => ?_)
  obtain ⟨hb_51, h⟩ := h
  exact cg_iret C h dX11_prefix_51 hb_51.1 hb_51.2
end S_X11_prefix
set_option maxHeartbeats 1000000 in
set_option maxRecDepth 20000 in
theorem t_X11_prefix (l : Launch) (mc ms : Nat) (x0 : Nat) (x1 : Int32) (S : cS) (dp : Nat) {P : Int32 → cS → Prop} (h : k_X11_prefix P dp mc ms x0 x1 S) : cMet (cQi P) l yX11_prefix cX11_prefix 2 (some .int) 9 mc ms 209 [.ref x0, .int x1] S dp := by
  intro D Y tp sz
  refine cg_body (by decide +kernel) (Nat.le_of_ble_eq_true rfl) ?_
  intro p e s m args below meth c C
  generalize va_A (cWd Y S) sz = A at C ⊢
  have C : cC p s m args meth c cX11_prefix 2 (some .int) A D Y tp dp RX11 := C
  refine cg_lv (lv' := [(0, .ref x0), (1, .int x1)]) rfl ?_
  unfold k_X11_prefix at h
  refine cg_iload_n C (i := 1) rfl 1 rfl dX11_prefix_0 ?_
  obtain ⟨hb_1, h⟩ := h
  refine cg_callsv C (t_X11_checkField l x1 S dp h) cc_X11_152 rfl ⟨by decide, by decide⟩ hb_1 rfl (Nat.le_of_ble_eq_true rfl) dX11_prefix_1 (fun S_1 h => ?_)
  simp only [Nat.add_zero]
  refine cg_aload_n C (i := 0) rfl 0 rfl dX11_prefix_4 ?_
  refine cg_aload_n C (i := 0) rfl 0 rfl dX11_prefix_5 ?_
  obtain ⟨hc_6, h⟩ := h
  obtain ⟨b2, hb_b2, h⟩ := h
  refine cg_get C (k := 11) (j := 0) (.ref b2) hc_6.1 hc_6.2 (by decide) rfl (by decide) rfl (show cV _ 11 0 x0 = _ from congrArg va_rf hb_b2) cWs_wsX110 cl_X11_10 rfl dX11_prefix_6 ?_
  obtain ⟨hc_9, h⟩ := h
  obtain ⟨hb_9, h⟩ := h
  refine cg_calli C (t_X3_readPad l b2 S_1 dp h) cc_X11_129 hc_9.1 hc_9.2 (by decide) rfl rfl ⟨by decide, by decide⟩ hb_9 rfl (Nat.le_of_ble_eq_true rfl) dX11_prefix_9 (fun r_3 S_3 h => ?_)
  simp only [Nat.add_zero]
  refine cg_iconst C (x := nI 1) rfl dX11_prefix_12 ?_
  refine cg_icmp_ne C 20 (by decide) dX11_prefix_13 (fun c_ => ?_) (fun c_ => ?_)
  · have h := h.1 c_
    refine cg_iconst C (x := nI 0) rfl dX11_prefix_20 ?_
    exact cg_sub [0, 1] rfl (tb_X11_prefix_21 C   x0 x1 ((nI 0)) x0 0 0 S_3 h)
  · have h := h.2 c_
    refine cg_iconst C (x := nI 1) rfl dX11_prefix_16 ?_
    refine cg_goto C 21 (by decide) dX11_prefix_17 ?_
    exact cg_sub [0, 1] rfl (tb_X11_prefix_21 C   x0 x1 ((nI 1)) x0 0 0 S_3 h)
def k_X11_wild (Q : Int32 → cS → Prop) (dp : Nat) (mc ms : Nat) (x0 : Nat) (x1 : Int32) (S : cS) : Prop :=
(0 ≤ mc ∧ 0 ≤ ms) ∧ (k_X11_checkField (fun S_1 => 
cA S_1 x0 11 ∧ ((∃ b2 : Nat, cr S_1 352 x0 = some b2 ∧ (cA S_1 b2 3 ∧ ((∃ b3 : Nat, cr S_1 96 b2 = some b3 ∧ ((0 ≤ mc ∧ 0 ≤ ms) ∧ (k_X4_isPattern (fun r_4 S_4 => 
cA S_4 x0 11 ∧ ((0 ≤ mc ∧ 0 ≤ ms) ∧ (k_X11_checkLeaf (fun S_5 => 
cA S_5 x0 11 ∧ ((∃ b6 : Nat, cr S_5 362 x0 = some b6 ∧ (cA S_5 x0 11 ∧ ((∃ b7 : Nat, cr S_5 352 x0 = some b7 ∧ (cA S_5 b7 3 ∧ ((∃ mc8 ms9 : Nat, 0 + mc8 ≤ mc ∧ 0 + ms9 ≤ ms ∧ (k_X3_takePad (fun r_10 S_10 => 
(∃ mc11 ms12 : Nat, 0 + mc8 + mc11 ≤ mc ∧ 0 + ms9 + ms12 ≤ ms ∧ (k_X4_ofPattern (fun r_13 S_13 => 
cA S_13 b6 6 ∧ ((∃ mc14 ms15 : Nat, 0 + mc8 + mc11 + mc14 ≤ mc ∧ 0 + ms9 + ms12 + ms15 ≤ ms ∧ (k_X6_putLeaf (fun r_16 S_16 => 
(0 + mc8 + mc11 + mc14 ≤ mc ∧ 0 + ms9 + ms12 + ms15 ≤ ms) ∧ (Q r_16 S_16)) dp mc14 ms15 b6 r_13 S_13)))) dp mc11 ms12 x1 r_10 S_10))) dp mc8 ms9 b7 S_5)))))))))) dp x0 r_4 S_4))) dp b3 S_1)))))))) dp x1 S)
set_option maxHeartbeats 1000000 in
set_option maxRecDepth 20000 in
theorem t_X11_wild (l : Launch) (mc ms : Nat) (x0 : Nat) (x1 : Int32) (S : cS) (dp : Nat) {P : Int32 → cS → Prop} (h : k_X11_wild P dp mc ms x0 x1 S) : cMet (cQi P) l yX11_wild cX11_wild 2 (some .int) 9 mc ms 209 [.ref x0, .int x1] S dp := by
  intro D Y tp sz
  refine cg_body (by decide +kernel) (Nat.le_of_ble_eq_true rfl) ?_
  intro p e s m args below meth c C
  generalize va_A (cWd Y S) sz = A at C ⊢
  have C : cC p s m args meth c cX11_wild 2 (some .int) A D Y tp dp RX11 := C
  refine cg_lv (lv' := [(0, .ref x0), (1, .int x1)]) rfl ?_
  unfold k_X11_wild at h
  refine cg_iload_n C (i := 1) rfl 1 rfl dX11_wild_0 ?_
  obtain ⟨hb_1, h⟩ := h
  refine cg_callsv C (t_X11_checkField l x1 S dp h) cc_X11_152 rfl ⟨by decide, by decide⟩ hb_1 rfl (Nat.le_of_ble_eq_true rfl) dX11_wild_1 (fun S_1 h => ?_)
  simp only [Nat.add_zero]
  refine cg_aload_n C (i := 0) rfl 0 rfl dX11_wild_4 ?_
  refine cg_aload_n C (i := 0) rfl 0 rfl dX11_wild_5 ?_
  obtain ⟨hc_6, h⟩ := h
  obtain ⟨b2, hb_b2, h⟩ := h
  refine cg_get C (k := 11) (j := 0) (.ref b2) hc_6.1 hc_6.2 (by decide) rfl (by decide) rfl (show cV _ 11 0 x0 = _ from congrArg va_rf hb_b2) cWs_wsX110 cl_X11_10 rfl dX11_wild_6 ?_
  obtain ⟨hc_9, h⟩ := h
  obtain ⟨b3, hb_b3, h⟩ := h
  refine cg_get C (k := 3) (j := 0) (.ref b3) hc_9.1 hc_9.2 (by decide) rfl (by decide) rfl (show cV _ 3 0 b2 = _ from congrArg va_rf hb_b3) cWs_wsX30 cl_X11_107 rfl dX11_wild_9 ?_
  obtain ⟨hb_12, h⟩ := h
  refine cg_callsi C (t_X4_isPattern l b3 S_1 dp h) cc_X11_356 rfl ⟨by decide, by decide⟩ hb_12 rfl (Nat.le_of_ble_eq_true rfl) dX11_wild_12 (fun r_4 S_4 h => ?_)
  simp only [Nat.add_zero]
  obtain ⟨hc_15, h⟩ := h
  obtain ⟨hb_15, h⟩ := h
  refine cg_callv C (t_X11_checkLeaf l x0 r_4 S_4 dp h) cc_X11_327 hc_15.1 hc_15.2 (by decide) rfl rfl ⟨by decide, by decide⟩ hb_15 rfl (Nat.le_of_ble_eq_true rfl) dX11_wild_15 (fun S_5 h => ?_)
  simp only [Nat.add_zero]
  refine cg_aload_n C (i := 0) rfl 0 rfl dX11_wild_18 ?_
  obtain ⟨hc_19, h⟩ := h
  obtain ⟨b6, hb_b6, h⟩ := h
  refine cg_get C (k := 11) (j := 10) (.ref b6) hc_19.1 hc_19.2 (by decide) rfl (by decide) rfl (show cV _ 11 10 x0 = _ from congrArg va_rf hb_b6) cWs_wsX110 cl_X11_61 rfl dX11_wild_19 ?_
  refine cg_iload_n C (i := 1) rfl 1 rfl dX11_wild_22 ?_
  refine cg_aload_n C (i := 0) rfl 0 rfl dX11_wild_23 ?_
  obtain ⟨hc_24, h⟩ := h
  obtain ⟨b7, hb_b7, h⟩ := h
  refine cg_get C (k := 11) (j := 0) (.ref b7) hc_24.1 hc_24.2 (by decide) rfl (by decide) rfl (show cV _ 11 0 x0 = _ from congrArg va_rf hb_b7) cWs_wsX110 cl_X11_10 rfl dX11_wild_24 ?_
  obtain ⟨hc_27, h⟩ := h
  obtain ⟨mc8, ms9, hm_1, hm_2, h⟩ := h
  refine cg_callr C (t_X3_takePad l mc8 ms9 b7 S_5 dp h) cc_X11_125 hc_27.1 hc_27.2 (by decide) rfl rfl ⟨by decide, by decide⟩ ⟨hm_1, hm_2⟩ rfl (Nat.le_of_ble_eq_true rfl) dX11_wild_27 (fun r_10 S_10 h => ?_)
  obtain ⟨mc11, ms12, hm_1, hm_2, h⟩ := h
  refine cg_callsr C (t_X4_ofPattern l mc11 ms12 x1 r_10 S_10 dp h) cc_X11_360 rfl ⟨by decide, by decide⟩ ⟨hm_1, hm_2⟩ rfl (Nat.le_of_ble_eq_true rfl) dX11_wild_30 (fun r_13 S_13 h => ?_)
  obtain ⟨hc_33, h⟩ := h
  obtain ⟨mc14, ms15, hm_1, hm_2, h⟩ := h
  refine cg_calli C (t_X6_putLeaf l mc14 ms15 b6 r_13 S_13 dp h) cc_X11_337 hc_33.1 hc_33.2 (by decide) rfl rfl ⟨by decide, by decide⟩ ⟨hm_1, hm_2⟩ rfl (Nat.le_of_ble_eq_true rfl) dX11_wild_33 (fun r_16 S_16 h => ?_)
  obtain ⟨hb_36, h⟩ := h
  exact cg_iret C h dX11_wild_36 hb_36.1 hb_36.2
def k_X11_fuzzy_41 (Q : Int32 → cS → Prop) (dp : Nat) (mc ms : Nat)  (x0 : Nat) (x1 : Int32) (x2 : Int32) (t0 : Int32) (t1 : Nat) (cd dd : Nat) (S : cS) : Prop :=
cA S t1 11 ∧ ((cd ≤ mc ∧ dd ≤ ms) ∧ (k_X11_checkLeaf (fun S_4 => 
cA S_4 x0 11 ∧ ((∃ b5 : Nat, cr S_4 352 x0 = some b5 ∧ (cA S_4 b5 3 ∧ ((∃ mc6 ms7 : Nat, cd + mc6 ≤ mc ∧ dd + ms7 ≤ ms ∧ (k_X3_takePad (fun r_8 S_8 => 
cA S_8 x0 11 ∧ ((∃ b9 : Nat, cr S_8 362 x0 = some b9 ∧ (cA S_8 x0 11 ∧ ((∃ b10 : Nat, cr S_8 352 x0 = some b10 ∧ (cA S_8 b10 3 ∧ ((cd + mc6 ≤ mc ∧ dd + ms7 ≤ ms) ∧ (k_X3_wordAt (fun r_11 S_11 => 
(∃ mc12 ms13 : Nat, cd + mc6 + mc12 ≤ mc ∧ dd + ms7 + ms13 ≤ ms ∧ (k_X4_ofEdits (fun r_14 S_14 => 
cA S_14 b9 6 ∧ ((∃ mc15 ms16 : Nat, cd + mc6 + mc12 + mc15 ≤ mc ∧ dd + ms7 + ms13 + ms16 ≤ ms ∧ (k_X6_putLeaf (fun r_17 S_17 => 
(cd + mc6 + mc12 + mc15 ≤ mc ∧ dd + ms7 + ms13 + ms16 ≤ ms) ∧ (Q r_17 S_17)) dp mc15 ms16 b9 r_14 S_14)))) dp mc12 ms13 x1 x2 r_11 S_11))) dp b10 ((nI 0)) S_8))))))))) dp mc6 ms7 b5 S_4))))))) dp t1 t0 S))
def k_X11_fuzzy (Q : Int32 → cS → Prop) (dp : Nat) (mc ms : Nat) (x0 : Nat) (x1 : Int32) (x2 : Int32) (S : cS) : Prop :=
(0 ≤ mc ∧ 0 ≤ ms) ∧ (k_X11_checkField (fun S_1 => 
((x2 < 0 →
  False) ∧
 (¬ x2 < 0 →
  ((x2 ≤ ((nI 2)) →
    cA S_1 x0 11 ∧ ((∃ b2 : Nat, cr S_1 352 x0 = some b2 ∧ (cA S_1 b2 3 ∧ ((0 ≤ mc ∧ 0 ≤ ms) ∧ (k_X3_readPad (fun r_3 S_3 => 
    ((¬ r_3 = ((nI 1)) →
      k_X11_fuzzy_41 Q dp mc ms  x0 x1 x2 ((nI 0)) x0 0 0 S_3) ∧
     (r_3 = ((nI 1)) →
      k_X11_fuzzy_41 Q dp mc ms  x0 x1 x2 ((nI 1)) x0 0 0 S_3))) dp b2 S_1)))))) ∧
   (¬ x2 ≤ ((nI 2)) →
    False))))) dp x1 S)
section S_X11_fuzzy
variable {p : Program} {l : Launch} {e : Env} {s : State} {m : MethodId} {args : Array Value} {below : List Frame} {meth : Method} {c : Code} {A : Nat → Prop} {D : va_G} {Y : cY} {tp dp : Nat}
set_option maxRecDepth 20000 in
theorem tb_X11_fuzzy_41 {mc ms : Nat} (C : cC p s m args meth c cX11_fuzzy 3 (some .int) A D Y tp dp RX11) {post : Int32 → cS → Prop}   (x0 : Nat) (x1 : Int32) (x2 : Int32) (t0 : Int32) (t1 : Nat) (cd dd : Nat) (S : cS) (h : k_X11_fuzzy_41 post dp mc ms  x0 x1 x2 t0 t1 cd dd S) : cG p l e (cRm 9 mc ms 209) s m args below meth c A D Y 3 (MQ below (cQi post D Y A) args s mc ms A) cd dd 41 [(0, .ref x0), (1, .int x1), (2, .int x2)] [.int t0, .ref t1] S := by
  unfold k_X11_fuzzy_41 at h
  obtain ⟨hc_41, h⟩ := h
  obtain ⟨hb_41, h⟩ := h
  refine cg_callv C (t_X11_checkLeaf l t1 t0 S dp h) cc_X11_327 hc_41.1 hc_41.2 (by decide) rfl rfl ⟨by decide, by decide⟩ hb_41 rfl (Nat.le_of_ble_eq_true rfl) dX11_fuzzy_41 (fun S_4 h => ?_)
  simp only [Nat.add_zero]
  refine cg_aload_n C (i := 0) rfl 0 rfl dX11_fuzzy_44 ?_
  obtain ⟨hc_45, h⟩ := h
  obtain ⟨b5, hb_b5, h⟩ := h
  refine cg_get C (k := 11) (j := 0) (.ref b5) hc_45.1 hc_45.2 (by decide) rfl (by decide) rfl (show cV _ 11 0 x0 = _ from congrArg va_rf hb_b5) cWs_wsX110 cl_X11_10 rfl dX11_fuzzy_45 ?_
  obtain ⟨hc_48, h⟩ := h
  obtain ⟨mc6, ms7, hm_1, hm_2, h⟩ := h
  refine cg_callr C (t_X3_takePad l mc6 ms7 b5 S_4 dp h) cc_X11_125 hc_48.1 hc_48.2 (by decide) rfl rfl ⟨by decide, by decide⟩ ⟨hm_1, hm_2⟩ rfl (Nat.le_of_ble_eq_true rfl) dX11_fuzzy_48 (fun r_8 S_8 h => ?_)
  refine cg_pop C rfl dX11_fuzzy_51 ?_
  refine cg_aload_n C (i := 0) rfl 0 rfl dX11_fuzzy_52 ?_
  obtain ⟨hc_53, h⟩ := h
  obtain ⟨b9, hb_b9, h⟩ := h
  refine cg_get C (k := 11) (j := 10) (.ref b9) hc_53.1 hc_53.2 (by decide) rfl (by decide) rfl (show cV _ 11 10 x0 = _ from congrArg va_rf hb_b9) cWs_wsX110 cl_X11_61 rfl dX11_fuzzy_53 ?_
  refine cg_iload_n C (i := 1) rfl 1 rfl dX11_fuzzy_56 ?_
  refine cg_iload_n C (i := 2) rfl 2 rfl dX11_fuzzy_57 ?_
  refine cg_aload_n C (i := 0) rfl 0 rfl dX11_fuzzy_58 ?_
  obtain ⟨hc_59, h⟩ := h
  obtain ⟨b10, hb_b10, h⟩ := h
  refine cg_get C (k := 11) (j := 0) (.ref b10) hc_59.1 hc_59.2 (by decide) rfl (by decide) rfl (show cV _ 11 0 x0 = _ from congrArg va_rf hb_b10) cWs_wsX110 cl_X11_10 rfl dX11_fuzzy_59 ?_
  refine cg_iconst C (x := nI 0) rfl dX11_fuzzy_62 ?_
  obtain ⟨hc_63, h⟩ := h
  obtain ⟨hb_63, h⟩ := h
  refine cg_calll C (t_X3_wordAt l b10 ((nI 0)) S_8 dp h) cc_X11_348 hc_63.1 hc_63.2 (by decide) rfl rfl ⟨by decide, by decide⟩ hb_63 rfl (Nat.le_of_ble_eq_true rfl) dX11_fuzzy_63 (fun r_11 S_11 h => ?_)
  simp only [Nat.add_zero]
  obtain ⟨mc12, ms13, hm_1, hm_2, h⟩ := h
  refine cg_callsr C (t_X4_ofEdits l mc12 ms13 x1 x2 r_11 S_11 dp h) cc_X11_366 rfl ⟨by decide, by decide⟩ ⟨hm_1, hm_2⟩ rfl (Nat.le_of_ble_eq_true rfl) dX11_fuzzy_66 (fun r_14 S_14 h => ?_)
  obtain ⟨hc_69, h⟩ := h
  obtain ⟨mc15, ms16, hm_1, hm_2, h⟩ := h
  refine cg_calli C (t_X6_putLeaf l mc15 ms16 b9 r_14 S_14 dp h) cc_X11_337 hc_69.1 hc_69.2 (by decide) rfl rfl ⟨by decide, by decide⟩ ⟨hm_1, hm_2⟩ rfl (Nat.le_of_ble_eq_true rfl) dX11_fuzzy_69 (fun r_17 S_17 h => ?_)
  obtain ⟨hb_72, h⟩ := h
  exact cg_iret C h dX11_fuzzy_72 hb_72.1 hb_72.2
end S_X11_fuzzy
set_option maxHeartbeats 1000000 in
set_option maxRecDepth 20000 in
theorem t_X11_fuzzy (l : Launch) (mc ms : Nat) (x0 : Nat) (x1 : Int32) (x2 : Int32) (S : cS) (dp : Nat) {P : Int32 → cS → Prop} (h : k_X11_fuzzy P dp mc ms x0 x1 x2 S) : cMet (cQi P) l yX11_fuzzy cX11_fuzzy 3 (some .int) 9 mc ms 209 [.ref x0, .int x1, .int x2] S dp := by
  intro D Y tp sz
  refine cg_body (by decide +kernel) (Nat.le_of_ble_eq_true rfl) ?_
  intro p e s m args below meth c C
  generalize va_A (cWd Y S) sz = A at C ⊢
  have C : cC p s m args meth c cX11_fuzzy 3 (some .int) A D Y tp dp RX11 := C
  refine cg_lv (lv' := [(0, .ref x0), (1, .int x1), (2, .int x2)]) rfl ?_
  unfold k_X11_fuzzy at h
  refine cg_iload_n C (i := 1) rfl 1 rfl dX11_fuzzy_0 ?_
  obtain ⟨hb_1, h⟩ := h
  refine cg_callsv C (t_X11_checkField l x1 S dp h) cc_X11_152 rfl ⟨by decide, by decide⟩ hb_1 rfl (Nat.le_of_ble_eq_true rfl) dX11_fuzzy_1 (fun S_1 h => ?_)
  simp only [Nat.add_zero]
  refine cg_iload_n C (i := 2) rfl 2 rfl dX11_fuzzy_4 ?_
  refine cg_if_lt C 13 (by decide) dX11_fuzzy_5 (fun c_ => ?_) (fun c_ => ?_)
  · have h := h.1 c_
    exact h.elim
  · have h := h.2 c_
    refine cg_iload_n C (i := 2) rfl 2 rfl dX11_fuzzy_8 ?_
    refine cg_iconst C (x := nI 2) rfl dX11_fuzzy_9 ?_
    refine cg_icmp_le C 24 (by decide) dX11_fuzzy_10 (fun c_ => ?_) (fun c_ => ?_)
    · have h := h.1 c_
      refine cg_aload_n C (i := 0) rfl 0 rfl dX11_fuzzy_24 ?_
      refine cg_aload_n C (i := 0) rfl 0 rfl dX11_fuzzy_25 ?_
      obtain ⟨hc_26, h⟩ := h
      obtain ⟨b2, hb_b2, h⟩ := h
      refine cg_get C (k := 11) (j := 0) (.ref b2) hc_26.1 hc_26.2 (by decide) rfl (by decide) rfl (show cV _ 11 0 x0 = _ from congrArg va_rf hb_b2) cWs_wsX110 cl_X11_10 rfl dX11_fuzzy_26 ?_
      obtain ⟨hc_29, h⟩ := h
      obtain ⟨hb_29, h⟩ := h
      refine cg_calli C (t_X3_readPad l b2 S_1 dp h) cc_X11_129 hc_29.1 hc_29.2 (by decide) rfl rfl ⟨by decide, by decide⟩ hb_29 rfl (Nat.le_of_ble_eq_true rfl) dX11_fuzzy_29 (fun r_3 S_3 h => ?_)
      simp only [Nat.add_zero]
      refine cg_iconst C (x := nI 1) rfl dX11_fuzzy_32 ?_
      refine cg_icmp_ne C 40 (by decide) dX11_fuzzy_33 (fun c_ => ?_) (fun c_ => ?_)
      · have h := h.1 c_
        refine cg_iconst C (x := nI 0) rfl dX11_fuzzy_40 ?_
        exact cg_sub [0, 1, 2] rfl (tb_X11_fuzzy_41 C   x0 x1 x2 ((nI 0)) x0 0 0 S_3 h)
      · have h := h.2 c_
        refine cg_iconst C (x := nI 1) rfl dX11_fuzzy_36 ?_
        refine cg_goto C 41 (by decide) dX11_fuzzy_37 ?_
        exact cg_sub [0, 1, 2] rfl (tb_X11_fuzzy_41 C   x0 x1 x2 ((nI 1)) x0 0 0 S_3 h)
    · have h := h.2 c_
      exact h.elim
def k_X11_checkParts (Q : cS → Prop) (dp : Nat) (x0 : Nat) (x1 : Int32) (S : cS) : Prop :=
cA S x0 11 ∧ ((∃ b1 : Nat, cr S 362 x0 = some b1 ∧ (cA S b1 6 ∧ (((x1 ≤ ((ci S 195 b1)) →
  Q S) ∧
 (¬ x1 ≤ ((ci S 195 b1)) →
  False))))))
set_option maxHeartbeats 1000000 in
set_option maxRecDepth 20000 in
theorem t_X11_checkParts (l : Launch) (x0 : Nat) (x1 : Int32) (S : cS) (dp : Nat) {P : cS → Prop} (h : k_X11_checkParts P dp x0 x1 S) : cMet (cQv P) l yX11_checkParts cX11_checkParts 2 none 0 0 0 0 [.ref x0, .int x1] S dp := by
  intro D Y tp sz
  refine cg_body (by decide +kernel) (Nat.le_of_ble_eq_true rfl) ?_
  intro p e s m args below meth c C
  generalize va_A (cWd Y S) sz = A at C ⊢
  have C : cC p s m args meth c cX11_checkParts 2 none A D Y tp dp RX11 := C
  refine cg_lv (lv' := [(0, .ref x0), (1, .int x1)]) rfl ?_
  unfold k_X11_checkParts at h
  refine cg_aload_n C (i := 0) rfl 0 rfl dX11_checkParts_0 ?_
  obtain ⟨hc_1, h⟩ := h
  obtain ⟨b1, hb_b1, h⟩ := h
  refine cg_get C (k := 11) (j := 10) (.ref b1) hc_1.1 hc_1.2 (by decide) rfl (by decide) rfl (show cV _ 11 10 x0 = _ from congrArg va_rf hb_b1) cWs_wsX110 cl_X11_61 rfl dX11_checkParts_1 ?_
  obtain ⟨hc_4, h⟩ := h
  refine cg_get C (k := 6) (j := 3) (.int (ci S 195 b1)) hc_4.1 hc_4.2 (by decide) rfl (by decide) rfl rfl cWs_wsX60 cl_X11_385 rfl dX11_checkParts_4 ?_
  refine cg_iload_n C (i := 1) rfl 1 rfl dX11_checkParts_7 ?_
  refine cg_icmp_ge C 22 (by decide) dX11_checkParts_8 (fun c_ => ?_) (fun c_ => ?_)
  · have h := h.1 c_
    exact cg_vret C h dX11_checkParts_22 (by decide) (by decide)
  · have h := h.2 c_
    exact h.elim
def k_X11_least (Q : Int32 → cS → Prop) (dp : Nat) (mc ms : Nat) (x0 : Nat) (x1 : Int32) (x2 : Int32) (S : cS) : Prop :=
((x1 < ((nI 2)) →
  False) ∧
 (¬ x1 < ((nI 2)) →
  ((((nI 8)) < x1 →
    False) ∧
   (¬ ((nI 8)) < x1 →
    ((x2 < ((nI 1)) →
      False) ∧
     (¬ x2 < ((nI 1)) →
      ((x2 ≤ x1 →
        cA S x0 11 ∧ ((0 ≤ mc ∧ 0 ≤ ms) ∧ (k_X11_checkParts (fun S_1 => 
        cA S_1 x0 11 ∧ ((∃ b2 : Nat, cr S_1 362 x0 = some b2 ∧ ((∃ mc3 ms4 : Nat, 0 + mc3 ≤ mc ∧ 0 + ms4 ≤ ms ∧ (k_X4_ofParts (fun r_5 S_5 => 
        cA S_5 b2 6 ∧ ((∃ mc6 ms7 : Nat, 0 + mc3 + mc6 ≤ mc ∧ 0 + ms4 + ms7 ≤ ms ∧ (k_X6_putGroup (fun r_8 S_8 => 
        (0 + mc3 + mc6 ≤ mc ∧ 0 + ms4 + ms7 ≤ ms) ∧ (Q r_8 S_8)) dp mc6 ms7 b2 r_5 S_5)))) dp mc3 ms4 ((nI 4)) x1 x2 S_1)))))) dp x0 x1 S))) ∧
       (¬ x2 ≤ x1 →
        False))))))))
set_option maxHeartbeats 1000000 in
set_option maxRecDepth 20000 in
theorem t_X11_least (l : Launch) (mc ms : Nat) (x0 : Nat) (x1 : Int32) (x2 : Int32) (S : cS) (dp : Nat) {P : Int32 → cS → Prop} (h : k_X11_least P dp mc ms x0 x1 x2 S) : cMet (cQi P) l yX11_least cX11_least 3 (some .int) 9 mc ms 209 [.ref x0, .int x1, .int x2] S dp := by
  intro D Y tp sz
  refine cg_body (by decide +kernel) (Nat.le_of_ble_eq_true rfl) ?_
  intro p e s m args below meth c C
  generalize va_A (cWd Y S) sz = A at C ⊢
  have C : cC p s m args meth c cX11_least 3 (some .int) A D Y tp dp RX11 := C
  refine cg_lv (lv' := [(0, .ref x0), (1, .int x1), (2, .int x2)]) rfl ?_
  unfold k_X11_least at h
  refine cg_iload_n C (i := 1) rfl 1 rfl dX11_least_0 ?_
  refine cg_iconst C (x := nI 2) rfl dX11_least_1 ?_
  refine cg_icmp_lt C 21 (by decide) dX11_least_2 (fun c_ => ?_) (fun c_ => ?_)
  · have h := h.1 c_
    exact h.elim
  · have h := h.2 c_
    refine cg_iload_n C (i := 1) rfl 1 rfl dX11_least_5 ?_
    refine cg_bipush C (x := nI 8) rfl dX11_least_6 ?_
    refine cg_icmp_gt C 21 (by decide) dX11_least_8 (fun c_ => ?_) (fun c_ => ?_)
    · have h := h.1 c_
      exact h.elim
    · have h := h.2 c_
      refine cg_iload_n C (i := 2) rfl 2 rfl dX11_least_11 ?_
      refine cg_iconst C (x := nI 1) rfl dX11_least_12 ?_
      refine cg_icmp_lt C 21 (by decide) dX11_least_13 (fun c_ => ?_) (fun c_ => ?_)
      · have h := h.1 c_
        exact h.elim
      · have h := h.2 c_
        refine cg_iload_n C (i := 2) rfl 2 rfl dX11_least_16 ?_
        refine cg_iload_n C (i := 1) rfl 1 rfl dX11_least_17 ?_
        refine cg_icmp_le C 32 (by decide) dX11_least_18 (fun c_ => ?_) (fun c_ => ?_)
        · have h := h.1 c_
          refine cg_aload_n C (i := 0) rfl 0 rfl dX11_least_32 ?_
          refine cg_iload_n C (i := 1) rfl 1 rfl dX11_least_33 ?_
          obtain ⟨hc_34, h⟩ := h
          obtain ⟨hb_34, h⟩ := h
          refine cg_callv C (t_X11_checkParts l x0 x1 S dp h) cc_X11_372 hc_34.1 hc_34.2 (by decide) rfl rfl ⟨by decide, by decide⟩ hb_34 rfl (Nat.le_of_ble_eq_true rfl) dX11_least_34 (fun S_1 h => ?_)
          simp only [Nat.add_zero]
          refine cg_aload_n C (i := 0) rfl 0 rfl dX11_least_37 ?_
          obtain ⟨hc_38, h⟩ := h
          obtain ⟨b2, hb_b2, h⟩ := h
          refine cg_get C (k := 11) (j := 10) (.ref b2) hc_38.1 hc_38.2 (by decide) rfl (by decide) rfl (show cV _ 11 10 x0 = _ from congrArg va_rf hb_b2) cWs_wsX110 cl_X11_61 rfl dX11_least_38 ?_
          refine cg_iconst C (x := nI 4) rfl dX11_least_41 ?_
          refine cg_iload_n C (i := 1) rfl 1 rfl dX11_least_42 ?_
          refine cg_iload_n C (i := 2) rfl 2 rfl dX11_least_43 ?_
          obtain ⟨mc3, ms4, hm_1, hm_2, h⟩ := h
          refine cg_callsr C (t_X4_ofParts l mc3 ms4 ((nI 4)) x1 x2 S_1 dp h) cc_X11_375 rfl ⟨by decide, by decide⟩ ⟨hm_1, hm_2⟩ rfl (Nat.le_of_ble_eq_true rfl) dX11_least_44 (fun r_5 S_5 h => ?_)
          obtain ⟨hc_47, h⟩ := h
          obtain ⟨mc6, ms7, hm_1, hm_2, h⟩ := h
          refine cg_calli C (t_X6_putGroup l mc6 ms7 b2 r_5 S_5 dp h) cc_X11_379 hc_47.1 hc_47.2 (by decide) rfl rfl ⟨by decide, by decide⟩ ⟨hm_1, hm_2⟩ rfl (Nat.le_of_ble_eq_true rfl) dX11_least_47 (fun r_8 S_8 h => ?_)
          obtain ⟨hb_50, h⟩ := h
          exact cg_iret C h dX11_least_50 hb_50.1 hb_50.2
        · have h := h.2 c_
          exact h.elim
def k_X11_but (Q : Int32 → cS → Prop) (dp : Nat) (mc ms : Nat) (x0 : Nat) (S : cS) : Prop :=
cA S x0 11 ∧ ((0 ≤ mc ∧ 0 ≤ ms) ∧ (k_X11_checkParts (fun S_1 => 
cA S_1 x0 11 ∧ ((∃ b2 : Nat, cr S_1 362 x0 = some b2 ∧ (cA S_1 b2 6 ∧ ((0 ≤ mc ∧ 0 ≤ ms) ∧ (k_X6_setLastAside (fun S_3 => 
cA S_3 x0 11 ∧ ((∃ b4 : Nat, cr S_3 362 x0 = some b4 ∧ ((∃ mc5 ms6 : Nat, 0 + mc5 ≤ mc ∧ 0 + ms6 ≤ ms ∧ (k_X4_ofParts (fun r_7 S_7 => 
cA S_7 b4 6 ∧ ((∃ mc8 ms9 : Nat, 0 + mc5 + mc8 ≤ mc ∧ 0 + ms6 + ms9 ≤ ms ∧ (k_X6_putGroup (fun r_10 S_10 => 
(0 + mc5 + mc8 ≤ mc ∧ 0 + ms6 + ms9 ≤ ms) ∧ (Q r_10 S_10)) dp mc8 ms9 b4 r_7 S_7)))) dp mc5 ms6 ((nI 5)) ((nI 2)) ((nI 1)) S_3)))))) dp b2 S_1)))))) dp x0 ((nI 2)) S))
set_option maxHeartbeats 1000000 in
set_option maxRecDepth 20000 in
theorem t_X11_but (l : Launch) (mc ms : Nat) (x0 : Nat) (S : cS) (dp : Nat) {P : Int32 → cS → Prop} (h : k_X11_but P dp mc ms x0 S) : cMet (cQi P) l yX11_but cX11_but 1 (some .int) 9 mc ms 209 [.ref x0] S dp := by
  intro D Y tp sz
  refine cg_body (by decide +kernel) (Nat.le_of_ble_eq_true rfl) ?_
  intro p e s m args below meth c C
  generalize va_A (cWd Y S) sz = A at C ⊢
  have C : cC p s m args meth c cX11_but 1 (some .int) A D Y tp dp RX11 := C
  refine cg_lv (lv' := [(0, .ref x0)]) rfl ?_
  unfold k_X11_but at h
  refine cg_aload_n C (i := 0) rfl 0 rfl dX11_but_0 ?_
  refine cg_iconst C (x := nI 2) rfl dX11_but_1 ?_
  obtain ⟨hc_2, h⟩ := h
  obtain ⟨hb_2, h⟩ := h
  refine cg_callv C (t_X11_checkParts l x0 ((nI 2)) S dp h) cc_X11_372 hc_2.1 hc_2.2 (by decide) rfl rfl ⟨by decide, by decide⟩ hb_2 rfl (Nat.le_of_ble_eq_true rfl) dX11_but_2 (fun S_1 h => ?_)
  simp only [Nat.add_zero]
  refine cg_aload_n C (i := 0) rfl 0 rfl dX11_but_5 ?_
  obtain ⟨hc_6, h⟩ := h
  obtain ⟨b2, hb_b2, h⟩ := h
  refine cg_get C (k := 11) (j := 10) (.ref b2) hc_6.1 hc_6.2 (by decide) rfl (by decide) rfl (show cV _ 11 10 x0 = _ from congrArg va_rf hb_b2) cWs_wsX110 cl_X11_61 rfl dX11_but_6 ?_
  obtain ⟨hc_9, h⟩ := h
  obtain ⟨hb_9, h⟩ := h
  refine cg_callv C (t_X6_setLastAside l b2 S_1 dp h) cc_X11_382 hc_9.1 hc_9.2 (by decide) rfl rfl ⟨by decide, by decide⟩ hb_9 rfl (Nat.le_of_ble_eq_true rfl) dX11_but_9 (fun S_3 h => ?_)
  simp only [Nat.add_zero]
  refine cg_aload_n C (i := 0) rfl 0 rfl dX11_but_12 ?_
  obtain ⟨hc_13, h⟩ := h
  obtain ⟨b4, hb_b4, h⟩ := h
  refine cg_get C (k := 11) (j := 10) (.ref b4) hc_13.1 hc_13.2 (by decide) rfl (by decide) rfl (show cV _ 11 10 x0 = _ from congrArg va_rf hb_b4) cWs_wsX110 cl_X11_61 rfl dX11_but_13 ?_
  refine cg_iconst C (x := nI 5) rfl dX11_but_16 ?_
  refine cg_iconst C (x := nI 2) rfl dX11_but_17 ?_
  refine cg_iconst C (x := nI 1) rfl dX11_but_18 ?_
  obtain ⟨mc5, ms6, hm_1, hm_2, h⟩ := h
  refine cg_callsr C (t_X4_ofParts l mc5 ms6 ((nI 5)) ((nI 2)) ((nI 1)) S_3 dp h) cc_X11_375 rfl ⟨by decide, by decide⟩ ⟨hm_1, hm_2⟩ rfl (Nat.le_of_ble_eq_true rfl) dX11_but_19 (fun r_7 S_7 h => ?_)
  obtain ⟨hc_22, h⟩ := h
  obtain ⟨mc8, ms9, hm_1, hm_2, h⟩ := h
  refine cg_calli C (t_X6_putGroup l mc8 ms9 b4 r_7 S_7 dp h) cc_X11_379 hc_22.1 hc_22.2 (by decide) rfl rfl ⟨by decide, by decide⟩ ⟨hm_1, hm_2⟩ rfl (Nat.le_of_ble_eq_true rfl) dX11_but_22 (fun r_10 S_10 h => ?_)
  obtain ⟨hb_25, h⟩ := h
  exact cg_iret C h dX11_but_25 hb_25.1 hb_25.2
def k_X11_query (Q : Int32 → cS → Prop) (dp : Nat) (mc ms : Nat) (x0 : Nat) (S : cS) : Prop :=
cA S x0 11 ∧ ((∃ b1 : Nat, cr S 362 x0 = some b1 ∧ (cA S b1 6 ∧ (((¬ ((ci S 195 b1)) = ((nI 1)) →
  False) ∧
 (((ci S 195 b1)) = ((nI 1)) →
  cA S x0 11 ∧ ((∃ b2 : Nat, cr S 363 x0 = some b2 ∧ (cA S b2 12 ∧ ((0 ≤ mc ∧ 0 ≤ ms) ∧ (k_Jx4a65c_size_8abf5 (fun r_3 S_3 => 
  ((r_3 < ((nI 40)) →
    cA S_3 x0 11 ∧ ((∃ b4 : Nat, cr S_3 363 x0 = some b4 ∧ (cA S_3 x0 11 ∧ ((∃ b5 : Nat, cr S_3 362 x0 = some b5 ∧ (cA S_3 b4 12 ∧ ((∃ mc6 ms7 : Nat, 0 + mc6 ≤ mc ∧ 0 + ms7 ≤ ms ∧ (k_Jx4a65c_add_9ea2d (fun r_8 S_8 => 
    (0 + mc6 + 1 ≤ mc ∧ 0 + ms7 + 5 ≤ ms) ∧ (∀ q9 : Nat, q9 ∉ cL S_8 → ∀ S10 : cS, S10 = cNew S_8 q9 6 → (∃ mc11 ms12 : Nat, 0 + mc6 + 1 + mc11 ≤ mc ∧ 0 + ms7 + 5 + ms12 ≤ ms ∧ (k_X6_init (fun S_13 => 
    cA S_13 x0 11 ∧ (∀ S14 : cS, S14 = cSr S_13 362 x0 ((some q9)) → cA S14 x0 11 ∧ ((∃ b15 : Nat, cr S14 363 x0 = some b15 ∧ (cA S14 b15 12 ∧ ((0 + mc6 + 1 + mc11 ≤ mc ∧ 0 + ms7 + 5 + ms12 ≤ ms) ∧ (k_Jx4a65c_size_8abf5 (fun r_16 S_16 => 
    (0 + mc6 + 1 + mc11 ≤ mc ∧ 0 + ms7 + 5 + ms12 ≤ ms) ∧ (Q ((r_16 - ((nI 1)))) S_16)) dp b15 S14))))))) dp mc11 ms12 q9 S10)))) dp mc6 ms7 b4 b5 S_3)))))))))) ∧
   (¬ r_3 < ((nI 40)) →
    False))) dp b2 S)))))))))))
set_option maxHeartbeats 1000000 in
set_option maxRecDepth 20000 in
theorem t_X11_query (l : Launch) (mc ms : Nat) (x0 : Nat) (S : cS) (dp : Nat) {P : Int32 → cS → Prop} (h : k_X11_query P dp mc ms x0 S) : cMet (cQi P) l yX11_query cX11_query 1 (some .int) 8 mc ms 188 [.ref x0] S dp := by
  intro D Y tp sz
  refine cg_body (by decide +kernel) (Nat.le_of_ble_eq_true rfl) ?_
  intro p e s m args below meth c C
  generalize va_A (cWd Y S) sz = A at C ⊢
  have C : cC p s m args meth c cX11_query 1 (some .int) A D Y tp dp RX11 := C
  refine cg_lv (lv' := [(0, .ref x0)]) rfl ?_
  unfold k_X11_query at h
  refine cg_aload_n C (i := 0) rfl 0 rfl dX11_query_0 ?_
  obtain ⟨hc_1, h⟩ := h
  obtain ⟨b1, hb_b1, h⟩ := h
  refine cg_get C (k := 11) (j := 10) (.ref b1) hc_1.1 hc_1.2 (by decide) rfl (by decide) rfl (show cV _ 11 10 x0 = _ from congrArg va_rf hb_b1) cWs_wsX110 cl_X11_61 rfl dX11_query_1 ?_
  obtain ⟨hc_4, h⟩ := h
  refine cg_get C (k := 6) (j := 3) (.int (ci S 195 b1)) hc_4.1 hc_4.2 (by decide) rfl (by decide) rfl rfl cWs_wsX60 cl_X11_385 rfl dX11_query_4 ?_
  refine cg_iconst C (x := nI 1) rfl dX11_query_7 ?_
  refine cg_icmp_ne C 23 (by decide) dX11_query_8 (fun c_ => ?_) (fun c_ => ?_)
  · have h := h.1 c_
    exact h.elim
  · have h := h.2 c_
    refine cg_aload_n C (i := 0) rfl 0 rfl dX11_query_11 ?_
    obtain ⟨hc_12, h⟩ := h
    obtain ⟨b2, hb_b2, h⟩ := h
    refine cg_get C (k := 11) (j := 11) (.ref b2) hc_12.1 hc_12.2 (by decide) rfl (by decide) rfl (show cV _ 11 11 x0 = _ from congrArg va_rf hb_b2) cWs_wsX110 cl_X11_65 rfl dX11_query_12 ?_
    obtain ⟨hc_15, h⟩ := h
    obtain ⟨hb_15, h⟩ := h
    refine cg_calli C (t_Jx4a65c_size_8abf5 l b2 S dp h) cc_X11_180 hc_15.1 hc_15.2 (by decide) rfl rfl ⟨by decide, by decide⟩ hb_15 rfl (Nat.le_of_ble_eq_true rfl) dX11_query_15 (fun r_3 S_3 h => ?_)
    simp only [Nat.add_zero]
    refine cg_bipush C (x := nI 40) rfl dX11_query_18 ?_
    refine cg_icmp_lt C 34 (by decide) dX11_query_20 (fun c_ => ?_) (fun c_ => ?_)
    · have h := h.1 c_
      refine cg_aload_n C (i := 0) rfl 0 rfl dX11_query_34 ?_
      obtain ⟨hc_35, h⟩ := h
      obtain ⟨b4, hb_b4, h⟩ := h
      refine cg_get C (k := 11) (j := 11) (.ref b4) hc_35.1 hc_35.2 (by decide) rfl (by decide) rfl (show cV _ 11 11 x0 = _ from congrArg va_rf hb_b4) cWs_wsX110 cl_X11_65 rfl dX11_query_35 ?_
      refine cg_aload_n C (i := 0) rfl 0 rfl dX11_query_38 ?_
      obtain ⟨hc_39, h⟩ := h
      obtain ⟨b5, hb_b5, h⟩ := h
      refine cg_get C (k := 11) (j := 10) (.ref b5) hc_39.1 hc_39.2 (by decide) rfl (by decide) rfl (show cV _ 11 10 x0 = _ from congrArg va_rf hb_b5) cWs_wsX110 cl_X11_61 rfl dX11_query_39 ?_
      obtain ⟨hc_42, h⟩ := h
      obtain ⟨mc6, ms7, hm_1, hm_2, h⟩ := h
      refine cg_calli C (t_Jx4a65c_add_9ea2d l mc6 ms7 b4 b5 S_3 dp h) cc_X11_200 hc_42.1 hc_42.2 (by decide) rfl rfl ⟨by decide, by decide⟩ ⟨hm_1, hm_2⟩ rfl (Nat.le_of_ble_eq_true rfl) dX11_query_42 (fun r_8 S_8 h => ?_)
      refine cg_pop C rfl dX11_query_45 ?_
      refine cg_aload_n C (i := 0) rfl 0 rfl dX11_query_46 ?_
      obtain ⟨hc_47, h⟩ := h
      refine cg_new C (k := 6) (N := 5) (fs := [.null, .null, .null, .int 0, .null]) (by decide) rfl cWs_wsX60 tyX6_ok cn_X11_58 ci_X6 ct_X6 (fun j_ hj_ => by rcases (show j_ = 0 ∨ j_ = 1 ∨ j_ = 2 ∨ j_ = 3 ∨ j_ = 4 by omega) with rfl | rfl | rfl | rfl | rfl <;> rfl) rfl hc_47.1 hc_47.2 dX11_query_47 (fun q9 hf_q9 => ?_)
      have h := h q9 hf_q9
      refine cg_nm (fun S10 e_S10 => ?_)
      have h := h S10 e_S10
      refine cg_dup C rfl dX11_query_50 ?_
      obtain ⟨mc11, ms12, hm_1, hm_2, h⟩ := h
      refine cg_callIN C (t_X6_init l mc11 ms12 q9 S10 dp h) czn_X11_60 rfl ⟨by decide, by decide⟩ ⟨hm_1, hm_2⟩ rfl (Nat.le_of_ble_eq_true rfl) dX11_query_51 (fun S_13 h => ?_)
      obtain ⟨hc_54, h⟩ := h
      refine cg_putr C (k := 11) (j := 10) (x := (some q9)) (ty := tyX11) (fty := tyX11 10) hc_54.1 hc_54.2 (by decide) rfl (by decide) rfl (by decide) rfl cWs_wsX110 tyX11_ok nmX11 cl_X11_61 rfl rfl rfl rfl rfl dX11_query_54 ?_
      refine cg_nm (fun S14 e_S14 => ?_)
      have h := h S14 e_S14
      refine cg_aload_n C (i := 0) rfl 0 rfl dX11_query_57 ?_
      obtain ⟨hc_58, h⟩ := h
      obtain ⟨b15, hb_b15, h⟩ := h
      refine cg_get C (k := 11) (j := 11) (.ref b15) hc_58.1 hc_58.2 (by decide) rfl (by decide) rfl (show cV _ 11 11 x0 = _ from congrArg va_rf hb_b15) cWs_wsX110 cl_X11_65 rfl dX11_query_58 ?_
      obtain ⟨hc_61, h⟩ := h
      obtain ⟨hb_61, h⟩ := h
      refine cg_calli C (t_Jx4a65c_size_8abf5 l b15 S14 dp h) cc_X11_180 hc_61.1 hc_61.2 (by decide) rfl rfl ⟨by decide, by decide⟩ hb_61 rfl (Nat.le_of_ble_eq_true rfl) dX11_query_61 (fun r_16 S_16 h => ?_)
      simp only [Nat.add_zero]
      refine cg_iconst C (x := nI 1) rfl dX11_query_64 ?_
      refine cg_isub C dX11_query_65 ?_
      obtain ⟨hb_66, h⟩ := h
      exact cg_iret C h dX11_query_66 hb_66.1 hb_66.2
    · have h := h.2 c_
      exact h.elim
