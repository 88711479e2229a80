/-! the class: what throws, and the law's wrappers -/
def kw_L_flush (Q : Int32 → cS → Prop) (dp : Nat) (mc ms : Nat) (x0 : Nat) (x1 : Nat) (S : cS) : Prop :=
cA S x0 11 ∧ ((((∃ mc5 ms6 : Nat, 0 + mc5 ≤ mc ∧ 0 + ms6 ≤ ms ∧ (k_X11_flush (fun r_7 S_7 => 
cX S_7 x1 15 ((nI 0)) ∧ (∀ S8 : cS, S8 = cSJ S_7 x1 ((nI 0)).toNatClampNeg ((r_7).toInt64) → (0 + mc5 ≤ mc ∧ 0 + ms6 ≤ ms) ∧ (Q ((nI 0)) S8))) dp mc5 ms6 x0 S))) ∨
 (∃ mc1 ms2 : Nat, (0 + mc1 ≤ mc ∧ 0 + ms2 ≤ ms) ∧ kx_X11_flush "java/lang/IllegalStateException" (fun S3 =>
(0 + mc1 ≤ mc ∧ 0 + ms2 ≤ ms) ∧ (Q ((nI 1)) S3)) dp mc1 ms2 x0 S)))
set_option maxHeartbeats 1000000 in
set_option maxRecDepth 20000 in
theorem tw_L_flush (l : Launch) (hlt : l.stackTraces = false) (mc ms : Nat) (x0 : Nat) (x1 : Nat) (S : cS) (dp : Nat) {P : Int32 → cS → Prop} (h : kw_L_flush P dp mc ms x0 x1 S) : cMetW (cQi P) l yL_flush cL_flush 3 (some .int) [(0, 8, 11, 15)] 11 mc ms 261 [.ref x0, .ref x1] S dp := by
  intro D Y tp sz
  refine cg_bodyW (by decide +kernel) (Nat.le_of_ble_eq_true rfl) ?_
  intro p e s m args below meth c C htab
  generalize va_A (cWd Y S) sz = A at C ⊢
  have C : cC p s m args meth c cL_flush 3 (some .int) A D Y tp dp RL := C
  refine cg_lv (lv' := [(0, .ref x0), (1, .ref x1)]) rfl ?_
  unfold kw_L_flush at h
  refine cg_aload_n C (i := 1) rfl 1 rfl dL_flush_0 ?_
  refine cg_iconst C (x := nI 0) rfl dL_flush_1 ?_
  refine cg_aload_n C (i := 0) rfl 0 rfl dL_flush_2 ?_
  obtain ⟨hc_3, h⟩ := h
  rcases h with h | ⟨mc1, ms2, hm_, h⟩
  · obtain ⟨mc5, ms6, hm_1, hm_2, h⟩ := h
    refine cg_calli C (t_X11_flush l mc5 ms6 x0 S dp h) cc_L_41 hc_3.1 hc_3.2 (by decide) rfl rfl ⟨by decide, by decide⟩ ⟨hm_1, hm_2⟩ rfl (Nat.le_of_ble_eq_true rfl) dL_flush_3 (fun r_7 S_7 h => ?_)
    refine cg_i2l C dL_flush_6 ?_
    obtain ⟨hc_7, h⟩ := h
    refine cg_lastoreR C hc_7 dL_flush_7 ?_
    refine cg_nm (fun S8 e_S8 => ?_)
    have h := h S8 e_S8
    refine cg_goto C 14 (by decide) dL_flush_8 ?_
    refine cg_iconst C (x := nI 0) rfl dL_flush_14 ?_
    obtain ⟨hb_15, h⟩ := h
    exact cg_iret C h dL_flush_15 hb_15.1 hb_15.2
  · refine cg_callx_catch C htab (tx_X11_flush l hlt "java/lang/IllegalStateException" mc1 ms2 x0 S dp h) cc_L_41 hc_3.1 hc_3.2 (by decide) rfl rfl ⟨by decide, by decide⟩ hm_ rfl (Nat.le_of_ble_eq_true rfl) dL_flush_3 (tableOf []) ⟨0, 8, 11, 15⟩ (tableOf []) rfl (fun z hz => nomatch hz) (by decide) (by decide) (name := "java/lang/IllegalStateException") ce_L_15 (by decide) 11 rfl (fun e4 S3 h => ?_)
    refine cg_astore_n (lv' := [(2, .ref e4), (0, .ref x0), (1, .ref x1)]) C (i := 2) rfl (Nat.le_of_ble_eq_true rfl) rfl dL_flush_11 ?_
    refine cg_iconst C (x := nI 1) rfl dL_flush_12 ?_
    obtain ⟨hb_13, h⟩ := h
    exact cg_iret C h dL_flush_13 hb_13.1 hb_13.2
def kw_L_due (Q : Int32 → cS → Prop) (dp : Nat) (mc ms : Nat) (x0 : Nat) (x1 : Nat) (S : cS) : Prop :=
cA S x0 11 ∧ ((((0 ≤ mc ∧ 0 ≤ ms) ∧ (k_X11_due (fun r_5 S_5 => 
cX S_5 x1 15 ((nI 0)) ∧ (∀ S6 : cS, S6 = cSJ S_5 x1 ((nI 0)).toNatClampNeg ((r_5).toInt64) → (0 ≤ mc ∧ 0 ≤ ms) ∧ (Q ((nI 0)) S6))) dp x0 S)) ∨
 (∃ mc1 ms2 : Nat, (0 + mc1 ≤ mc ∧ 0 + ms2 ≤ ms) ∧ kx_X11_due "java/lang/IllegalStateException" (fun S3 =>
(0 + mc1 ≤ mc ∧ 0 + ms2 ≤ ms) ∧ (Q ((nI 1)) S3)) dp mc1 ms2 x0 S)))
set_option maxHeartbeats 1000000 in
set_option maxRecDepth 20000 in
theorem tw_L_due (l : Launch) (hlt : l.stackTraces = false) (mc ms : Nat) (x0 : Nat) (x1 : Nat) (S : cS) (dp : Nat) {P : Int32 → cS → Prop} (h : kw_L_due P dp mc ms x0 x1 S) : cMetW (cQi P) l yL_due cL_due 3 (some .int) [(0, 8, 11, 15)] 8 mc ms 122 [.ref x0, .ref x1] S dp := by
  intro D Y tp sz
  refine cg_bodyW (by decide +kernel) (Nat.le_of_ble_eq_true rfl) ?_
  intro p e s m args below meth c C htab
  generalize va_A (cWd Y S) sz = A at C ⊢
  have C : cC p s m args meth c cL_due 3 (some .int) A D Y tp dp RL := C
  refine cg_lv (lv' := [(0, .ref x0), (1, .ref x1)]) rfl ?_
  unfold kw_L_due at h
  refine cg_aload_n C (i := 1) rfl 1 rfl dL_due_0 ?_
  refine cg_iconst C (x := nI 0) rfl dL_due_1 ?_
  refine cg_aload_n C (i := 0) rfl 0 rfl dL_due_2 ?_
  obtain ⟨hc_3, h⟩ := h
  rcases h with h | ⟨mc1, ms2, hm_, h⟩
  · obtain ⟨hb_3, h⟩ := h
    refine cg_calli C (t_X11_due l x0 S dp h) cc_L_44 hc_3.1 hc_3.2 (by decide) rfl rfl ⟨by decide, by decide⟩ hb_3 rfl (Nat.le_of_ble_eq_true rfl) dL_due_3 (fun r_5 S_5 h => ?_)
    simp only [Nat.add_zero]
    refine cg_i2l C dL_due_6 ?_
    obtain ⟨hc_7, h⟩ := h
    refine cg_lastoreR C hc_7 dL_due_7 ?_
    refine cg_nm (fun S6 e_S6 => ?_)
    have h := h S6 e_S6
    refine cg_goto C 14 (by decide) dL_due_8 ?_
    refine cg_iconst C (x := nI 0) rfl dL_due_14 ?_
    obtain ⟨hb_15, h⟩ := h
    exact cg_iret C h dL_due_15 hb_15.1 hb_15.2
  · refine cg_callx_catch C htab (tx_X11_due l hlt "java/lang/IllegalStateException" mc1 ms2 x0 S dp h) cc_L_44 hc_3.1 hc_3.2 (by decide) rfl rfl ⟨by decide, by decide⟩ hm_ rfl (Nat.le_of_ble_eq_true rfl) dL_due_3 (tableOf []) ⟨0, 8, 11, 15⟩ (tableOf []) rfl (fun z hz => nomatch hz) (by decide) (by decide) (name := "java/lang/IllegalStateException") ce_L_15 (by decide) 11 rfl (fun e4 S3 h => ?_)
    refine cg_astore_n (lv' := [(2, .ref e4), (0, .ref x0), (1, .ref x1)]) C (i := 2) rfl (Nat.le_of_ble_eq_true rfl) rfl dL_due_11 ?_
    refine cg_iconst C (x := nI 1) rfl dL_due_12 ?_
    obtain ⟨hb_13, h⟩ := h
    exact cg_iret C h dL_due_13 hb_13.1 hb_13.2
def kw_L_merge (Q : Int32 → cS → Prop) (dp : Nat) (mc ms : Nat) (x0 : Nat) (x1 : Nat) (S : cS) : Prop :=
cA S x0 11 ∧ ((((∃ mc5 ms6 : Nat, 0 + mc5 ≤ mc ∧ 0 + ms6 ≤ ms ∧ (k_X11_merge (fun r_7 S_7 => 
cX S_7 x1 15 ((nI 0)) ∧ (∀ S8 : cS, S8 = cSJ S_7 x1 ((nI 0)).toNatClampNeg ((r_7).toInt64) → (0 + mc5 ≤ mc ∧ 0 + ms6 ≤ ms) ∧ (Q ((nI 0)) S8))) dp mc5 ms6 x0 S))) ∨
 (∃ mc1 ms2 : Nat, (0 + mc1 ≤ mc ∧ 0 + ms2 ≤ ms) ∧ kx_X11_merge "java/lang/IllegalStateException" (fun S3 =>
(0 + mc1 ≤ mc ∧ 0 + ms2 ≤ ms) ∧ (Q ((nI 1)) S3)) dp mc1 ms2 x0 S)))
set_option maxHeartbeats 1000000 in
set_option maxRecDepth 20000 in
theorem tw_L_merge (l : Launch) (hlt : l.stackTraces = false) (mc ms : Nat) (x0 : Nat) (x1 : Nat) (S : cS) (dp : Nat) {P : Int32 → cS → Prop} (h : kw_L_merge P dp mc ms x0 x1 S) : cMetW (cQi P) l yL_merge cL_merge 3 (some .int) [(0, 8, 11, 15)] 10 mc ms 233 [.ref x0, .ref x1] S dp := by
  intro D Y tp sz
  refine cg_bodyW (by decide +kernel) (Nat.le_of_ble_eq_true rfl) ?_
  intro p e s m args below meth c C htab
  generalize va_A (cWd Y S) sz = A at C ⊢
  have C : cC p s m args meth c cL_merge 3 (some .int) A D Y tp dp RL := C
  refine cg_lv (lv' := [(0, .ref x0), (1, .ref x1)]) rfl ?_
  unfold kw_L_merge at h
  refine cg_aload_n C (i := 1) rfl 1 rfl dL_merge_0 ?_
  refine cg_iconst C (x := nI 0) rfl dL_merge_1 ?_
  refine cg_aload_n C (i := 0) rfl 0 rfl dL_merge_2 ?_
  obtain ⟨hc_3, h⟩ := h
  rcases h with h | ⟨mc1, ms2, hm_, h⟩
  · obtain ⟨mc5, ms6, hm_1, hm_2, h⟩ := h
    refine cg_calli C (t_X11_merge l mc5 ms6 x0 S dp h) cc_L_47 hc_3.1 hc_3.2 (by decide) rfl rfl ⟨by decide, by decide⟩ ⟨hm_1, hm_2⟩ rfl (Nat.le_of_ble_eq_true rfl) dL_merge_3 (fun r_7 S_7 h => ?_)
    refine cg_i2l C dL_merge_6 ?_
    obtain ⟨hc_7, h⟩ := h
    refine cg_lastoreR C hc_7 dL_merge_7 ?_
    refine cg_nm (fun S8 e_S8 => ?_)
    have h := h S8 e_S8
    refine cg_goto C 14 (by decide) dL_merge_8 ?_
    refine cg_iconst C (x := nI 0) rfl dL_merge_14 ?_
    obtain ⟨hb_15, h⟩ := h
    exact cg_iret C h dL_merge_15 hb_15.1 hb_15.2
  · refine cg_callx_catch C htab (tx_X11_merge l hlt "java/lang/IllegalStateException" mc1 ms2 x0 S dp h) cc_L_47 hc_3.1 hc_3.2 (by decide) rfl rfl ⟨by decide, by decide⟩ hm_ rfl (Nat.le_of_ble_eq_true rfl) dL_merge_3 (tableOf []) ⟨0, 8, 11, 15⟩ (tableOf []) rfl (fun z hz => nomatch hz) (by decide) (by decide) (name := "java/lang/IllegalStateException") ce_L_15 (by decide) 11 rfl (fun e4 S3 h => ?_)
    refine cg_astore_n (lv' := [(2, .ref e4), (0, .ref x0), (1, .ref x1)]) C (i := 2) rfl (Nat.le_of_ble_eq_true rfl) rfl dL_merge_11 ?_
    refine cg_iconst C (x := nI 1) rfl dL_merge_12 ?_
    obtain ⟨hb_13, h⟩ := h
    exact cg_iret C h dL_merge_13 hb_13.1 hb_13.2
def kw_L_step (Q : Int32 → cS → Prop) (dp : Nat) (mc ms : Nat) (x0 : Nat) (x1 : Nat) (S : cS) : Prop :=
cA S x0 11 ∧ ((((∃ mc5 ms6 : Nat, 0 + mc5 ≤ mc ∧ 0 + ms6 ≤ ms ∧ (k_X11_step (fun r_7 S_7 => 
cX S_7 x1 15 ((nI 0)) ∧ (∀ S8 : cS, S8 = cSJ S_7 x1 ((nI 0)).toNatClampNeg ((r_7).toInt64) → (0 + mc5 ≤ mc ∧ 0 + ms6 ≤ ms) ∧ (Q ((nI 0)) S8))) dp mc5 ms6 x0 S))) ∨
 (∃ mc1 ms2 : Nat, (0 + mc1 ≤ mc ∧ 0 + ms2 ≤ ms) ∧ kx_X11_step "java/lang/IllegalStateException" (fun S3 =>
(0 + mc1 ≤ mc ∧ 0 + ms2 ≤ ms) ∧ (Q ((nI 1)) S3)) dp mc1 ms2 x0 S)))
set_option maxHeartbeats 1000000 in
set_option maxRecDepth 20000 in
theorem tw_L_step (l : Launch) (hlt : l.stackTraces = false) (mc ms : Nat) (x0 : Nat) (x1 : Nat) (S : cS) (dp : Nat) {P : Int32 → cS → Prop} (h : kw_L_step P dp mc ms x0 x1 S) : cMetW (cQi P) l yL_step cL_step 3 (some .int) [(0, 8, 11, 15)] 12 mc ms 288 [.ref x0, .ref x1] S dp := by
  intro D Y tp sz
  refine cg_bodyW (by decide +kernel) (Nat.le_of_ble_eq_true rfl) ?_
  intro p e s m args below meth c C htab
  generalize va_A (cWd Y S) sz = A at C ⊢
  have C : cC p s m args meth c cL_step 3 (some .int) A D Y tp dp RL := C
  refine cg_lv (lv' := [(0, .ref x0), (1, .ref x1)]) rfl ?_
  unfold kw_L_step at h
  refine cg_aload_n C (i := 1) rfl 1 rfl dL_step_0 ?_
  refine cg_iconst C (x := nI 0) rfl dL_step_1 ?_
  refine cg_aload_n C (i := 0) rfl 0 rfl dL_step_2 ?_
  obtain ⟨hc_3, h⟩ := h
  rcases h with h | ⟨mc1, ms2, hm_, h⟩
  · obtain ⟨mc5, ms6, hm_1, hm_2, h⟩ := h
    refine cg_calli C (t_X11_step l mc5 ms6 x0 S dp h) cc_L_50 hc_3.1 hc_3.2 (by decide) rfl rfl ⟨by decide, by decide⟩ ⟨hm_1, hm_2⟩ rfl (Nat.le_of_ble_eq_true rfl) dL_step_3 (fun r_7 S_7 h => ?_)
    refine cg_i2l C dL_step_6 ?_
    obtain ⟨hc_7, h⟩ := h
    refine cg_lastoreR C hc_7 dL_step_7 ?_
    refine cg_nm (fun S8 e_S8 => ?_)
    have h := h S8 e_S8
    refine cg_goto C 14 (by decide) dL_step_8 ?_
    refine cg_iconst C (x := nI 0) rfl dL_step_14 ?_
    obtain ⟨hb_15, h⟩ := h
    exact cg_iret C h dL_step_15 hb_15.1 hb_15.2
  · refine cg_callx_catch C htab (tx_X11_step l hlt "java/lang/IllegalStateException" mc1 ms2 x0 S dp h) cc_L_50 hc_3.1 hc_3.2 (by decide) rfl rfl ⟨by decide, by decide⟩ hm_ rfl (Nat.le_of_ble_eq_true rfl) dL_step_3 (tableOf []) ⟨0, 8, 11, 15⟩ (tableOf []) rfl (fun z hz => nomatch hz) (by decide) (by decide) (name := "java/lang/IllegalStateException") ce_L_15 (by decide) 11 rfl (fun e4 S3 h => ?_)
    refine cg_astore_n (lv' := [(2, .ref e4), (0, .ref x0), (1, .ref x1)]) C (i := 2) rfl (Nat.le_of_ble_eq_true rfl) rfl dL_step_11 ?_
    refine cg_iconst C (x := nI 1) rfl dL_step_12 ?_
    obtain ⟨hb_13, h⟩ := h
    exact cg_iret C h dL_step_13 hb_13.1 hb_13.2
def kw_L_giveUp (Q : Int32 → cS → Prop) (dp : Nat) (mc ms : Nat) (x0 : Nat) (x1 : Nat) (S : cS) : Prop :=
cA S x0 11 ∧ ((((0 ≤ mc ∧ 0 ≤ ms) ∧ (k_X11_giveUp (fun r_5 S_5 => 
cX S_5 x1 15 ((nI 0)) ∧ (∀ S6 : cS, S6 = cSJ S_5 x1 ((nI 0)).toNatClampNeg ((r_5).toInt64) → (0 ≤ mc ∧ 0 ≤ ms) ∧ (Q ((nI 0)) S6))) dp x0 S)) ∨
 (∃ mc1 ms2 : Nat, (0 + mc1 ≤ mc ∧ 0 + ms2 ≤ ms) ∧ kx_X11_giveUp "java/lang/IllegalStateException" (fun S3 =>
(0 + mc1 ≤ mc ∧ 0 + ms2 ≤ ms) ∧ (Q ((nI 1)) S3)) dp mc1 ms2 x0 S)))
set_option maxHeartbeats 1000000 in
set_option maxRecDepth 20000 in
theorem tw_L_giveUp (l : Launch) (hlt : l.stackTraces = false) (mc ms : Nat) (x0 : Nat) (x1 : Nat) (S : cS) (dp : Nat) {P : Int32 → cS → Prop} (h : kw_L_giveUp P dp mc ms x0 x1 S) : cMetW (cQi P) l yL_giveUp cL_giveUp 3 (some .int) [(0, 8, 11, 15)] 8 mc ms 123 [.ref x0, .ref x1] S dp := by
  intro D Y tp sz
  refine cg_bodyW (by decide +kernel) (Nat.le_of_ble_eq_true rfl) ?_
  intro p e s m args below meth c C htab
  generalize va_A (cWd Y S) sz = A at C ⊢
  have C : cC p s m args meth c cL_giveUp 3 (some .int) A D Y tp dp RL := C
  refine cg_lv (lv' := [(0, .ref x0), (1, .ref x1)]) rfl ?_
  unfold kw_L_giveUp at h
  refine cg_aload_n C (i := 1) rfl 1 rfl dL_giveUp_0 ?_
  refine cg_iconst C (x := nI 0) rfl dL_giveUp_1 ?_
  refine cg_aload_n C (i := 0) rfl 0 rfl dL_giveUp_2 ?_
  obtain ⟨hc_3, h⟩ := h
  rcases h with h | ⟨mc1, ms2, hm_, h⟩
  · obtain ⟨hb_3, h⟩ := h
    refine cg_calli C (t_X11_giveUp l x0 S dp h) cc_L_53 hc_3.1 hc_3.2 (by decide) rfl rfl ⟨by decide, by decide⟩ hb_3 rfl (Nat.le_of_ble_eq_true rfl) dL_giveUp_3 (fun r_5 S_5 h => ?_)
    simp only [Nat.add_zero]
    refine cg_i2l C dL_giveUp_6 ?_
    obtain ⟨hc_7, h⟩ := h
    refine cg_lastoreR C hc_7 dL_giveUp_7 ?_
    refine cg_nm (fun S6 e_S6 => ?_)
    have h := h S6 e_S6
    refine cg_goto C 14 (by decide) dL_giveUp_8 ?_
    refine cg_iconst C (x := nI 0) rfl dL_giveUp_14 ?_
    obtain ⟨hb_15, h⟩ := h
    exact cg_iret C h dL_giveUp_15 hb_15.1 hb_15.2
  · refine cg_callx_catch C htab (tx_X11_giveUp l hlt "java/lang/IllegalStateException" mc1 ms2 x0 S dp h) cc_L_53 hc_3.1 hc_3.2 (by decide) rfl rfl ⟨by decide, by decide⟩ hm_ rfl (Nat.le_of_ble_eq_true rfl) dL_giveUp_3 (tableOf []) ⟨0, 8, 11, 15⟩ (tableOf []) rfl (fun z hz => nomatch hz) (by decide) (by decide) (name := "java/lang/IllegalStateException") ce_L_15 (by decide) 11 rfl (fun e4 S3 h => ?_)
    refine cg_astore_n (lv' := [(2, .ref e4), (0, .ref x0), (1, .ref x1)]) C (i := 2) rfl (Nat.le_of_ble_eq_true rfl) rfl dL_giveUp_11 ?_
    refine cg_iconst C (x := nI 1) rfl dL_giveUp_12 ?_
    obtain ⟨hb_13, h⟩ := h
    exact cg_iret C h dL_giveUp_13 hb_13.1 hb_13.2
def kw_L_prepare (Q : Int32 → cS → Prop) (dp : Nat) (mc ms : Nat) (x0 : Nat) (x1 : Nat) (S : cS) : Prop :=
cA S x0 11 ∧ ((((∃ mc5 ms6 : Nat, 0 + mc5 ≤ mc ∧ 0 + ms6 ≤ ms ∧ (k_X11_prepare (fun r_7 S_7 => 
cX S_7 x1 15 ((nI 0)) ∧ (∀ S8 : cS, S8 = cSJ S_7 x1 ((nI 0)).toNatClampNeg ((r_7).toInt64) → (0 + mc5 ≤ mc ∧ 0 + ms6 ≤ ms) ∧ (Q ((nI 0)) S8))) dp mc5 ms6 x0 S))) ∨
 (∃ mc1 ms2 : Nat, (0 + mc1 ≤ mc ∧ 0 + ms2 ≤ ms) ∧ kx_X11_prepare "java/lang/IllegalStateException" (fun S3 =>
(0 + mc1 ≤ mc ∧ 0 + ms2 ≤ ms) ∧ (Q ((nI 1)) S3)) dp mc1 ms2 x0 S)))
set_option maxHeartbeats 1000000 in
set_option maxRecDepth 20000 in
theorem tw_L_prepare (l : Launch) (hlt : l.stackTraces = false) (mc ms : Nat) (x0 : Nat) (x1 : Nat) (S : cS) (dp : Nat) {P : Int32 → cS → Prop} (h : kw_L_prepare P dp mc ms x0 x1 S) : cMetW (cQi P) l yL_prepare cL_prepare 3 (some .int) [(0, 8, 11, 15)] 11 mc ms 263 [.ref x0, .ref x1] S dp := by
  intro D Y tp sz
  refine cg_bodyW (by decide +kernel) (Nat.le_of_ble_eq_true rfl) ?_
  intro p e s m args below meth c C htab
  generalize va_A (cWd Y S) sz = A at C ⊢
  have C : cC p s m args meth c cL_prepare 3 (some .int) A D Y tp dp RL := C
  refine cg_lv (lv' := [(0, .ref x0), (1, .ref x1)]) rfl ?_
  unfold kw_L_prepare at h
  refine cg_aload_n C (i := 1) rfl 1 rfl dL_prepare_0 ?_
  refine cg_iconst C (x := nI 0) rfl dL_prepare_1 ?_
  refine cg_aload_n C (i := 0) rfl 0 rfl dL_prepare_2 ?_
  obtain ⟨hc_3, h⟩ := h
  rcases h with h | ⟨mc1, ms2, hm_, h⟩
  · obtain ⟨mc5, ms6, hm_1, hm_2, h⟩ := h
    refine cg_calli C (t_X11_prepare l mc5 ms6 x0 S dp h) cc_L_56 hc_3.1 hc_3.2 (by decide) rfl rfl ⟨by decide, by decide⟩ ⟨hm_1, hm_2⟩ rfl (Nat.le_of_ble_eq_true rfl) dL_prepare_3 (fun r_7 S_7 h => ?_)
    refine cg_i2l C dL_prepare_6 ?_
    obtain ⟨hc_7, h⟩ := h
    refine cg_lastoreR C hc_7 dL_prepare_7 ?_
    refine cg_nm (fun S8 e_S8 => ?_)
    have h := h S8 e_S8
    refine cg_goto C 14 (by decide) dL_prepare_8 ?_
    refine cg_iconst C (x := nI 0) rfl dL_prepare_14 ?_
    obtain ⟨hb_15, h⟩ := h
    exact cg_iret C h dL_prepare_15 hb_15.1 hb_15.2
  · refine cg_callx_catch C htab (tx_X11_prepare l hlt "java/lang/IllegalStateException" mc1 ms2 x0 S dp h) cc_L_56 hc_3.1 hc_3.2 (by decide) rfl rfl ⟨by decide, by decide⟩ hm_ rfl (Nat.le_of_ble_eq_true rfl) dL_prepare_3 (tableOf []) ⟨0, 8, 11, 15⟩ (tableOf []) rfl (fun z hz => nomatch hz) (by decide) (by decide) (name := "java/lang/IllegalStateException") ce_L_15 (by decide) 11 rfl (fun e4 S3 h => ?_)
    refine cg_astore_n (lv' := [(2, .ref e4), (0, .ref x0), (1, .ref x1)]) C (i := 2) rfl (Nat.le_of_ble_eq_true rfl) rfl dL_prepare_11 ?_
    refine cg_iconst C (x := nI 1) rfl dL_prepare_12 ?_
    obtain ⟨hb_13, h⟩ := h
    exact cg_iret C h dL_prepare_13 hb_13.1 hb_13.2
def kw_L_finish (Q : Int32 → cS → Prop) (dp : Nat) (mc ms : Nat) (x0 : Nat) (x1 : Nat) (S : cS) : Prop :=
cA S x0 11 ∧ ((((∃ mc5 ms6 : Nat, 0 + mc5 ≤ mc ∧ 0 + ms6 ≤ ms ∧ (k_X11_finish (fun r_7 S_7 => 
cX S_7 x1 15 ((nI 0)) ∧ (∀ S8 : cS, S8 = cSJ S_7 x1 ((nI 0)).toNatClampNeg ((r_7).toInt64) → (0 + mc5 ≤ mc ∧ 0 + ms6 ≤ ms) ∧ (Q ((nI 0)) S8))) dp mc5 ms6 x0 S))) ∨
 (∃ mc1 ms2 : Nat, (0 + mc1 ≤ mc ∧ 0 + ms2 ≤ ms) ∧ kx_X11_finish "java/lang/IllegalStateException" (fun S3 =>
(0 + mc1 ≤ mc ∧ 0 + ms2 ≤ ms) ∧ (Q ((nI 1)) S3)) dp mc1 ms2 x0 S)))
set_option maxHeartbeats 1000000 in
set_option maxRecDepth 20000 in
theorem tw_L_finish (l : Launch) (hlt : l.stackTraces = false) (mc ms : Nat) (x0 : Nat) (x1 : Nat) (S : cS) (dp : Nat) {P : Int32 → cS → Prop} (h : kw_L_finish P dp mc ms x0 x1 S) : cMetW (cQi P) l yL_finish cL_finish 3 (some .int) [(0, 8, 11, 15)] 8 mc ms 174 [.ref x0, .ref x1] S dp := by
  intro D Y tp sz
  refine cg_bodyW (by decide +kernel) (Nat.le_of_ble_eq_true rfl) ?_
  intro p e s m args below meth c C htab
  generalize va_A (cWd Y S) sz = A at C ⊢
  have C : cC p s m args meth c cL_finish 3 (some .int) A D Y tp dp RL := C
  refine cg_lv (lv' := [(0, .ref x0), (1, .ref x1)]) rfl ?_
  unfold kw_L_finish at h
  refine cg_aload_n C (i := 1) rfl 1 rfl dL_finish_0 ?_
  refine cg_iconst C (x := nI 0) rfl dL_finish_1 ?_
  refine cg_aload_n C (i := 0) rfl 0 rfl dL_finish_2 ?_
  obtain ⟨hc_3, h⟩ := h
  rcases h with h | ⟨mc1, ms2, hm_, h⟩
  · obtain ⟨mc5, ms6, hm_1, hm_2, h⟩ := h
    refine cg_calli C (t_X11_finish l mc5 ms6 x0 S dp h) cc_L_59 hc_3.1 hc_3.2 (by decide) rfl rfl ⟨by decide, by decide⟩ ⟨hm_1, hm_2⟩ rfl (Nat.le_of_ble_eq_true rfl) dL_finish_3 (fun r_7 S_7 h => ?_)
    refine cg_i2l C dL_finish_6 ?_
    obtain ⟨hc_7, h⟩ := h
    refine cg_lastoreR C hc_7 dL_finish_7 ?_
    refine cg_nm (fun S8 e_S8 => ?_)
    have h := h S8 e_S8
    refine cg_goto C 14 (by decide) dL_finish_8 ?_
    refine cg_iconst C (x := nI 0) rfl dL_finish_14 ?_
    obtain ⟨hb_15, h⟩ := h
    exact cg_iret C h dL_finish_15 hb_15.1 hb_15.2
  · refine cg_callx_catch C htab (tx_X11_finish l hlt "java/lang/IllegalStateException" mc1 ms2 x0 S dp h) cc_L_59 hc_3.1 hc_3.2 (by decide) rfl rfl ⟨by decide, by decide⟩ hm_ rfl (Nat.le_of_ble_eq_true rfl) dL_finish_3 (tableOf []) ⟨0, 8, 11, 15⟩ (tableOf []) rfl (fun z hz => nomatch hz) (by decide) (by decide) (name := "java/lang/IllegalStateException") ce_L_15 (by decide) 11 rfl (fun e4 S3 h => ?_)
    refine cg_astore_n (lv' := [(2, .ref e4), (0, .ref x0), (1, .ref x1)]) C (i := 2) rfl (Nat.le_of_ble_eq_true rfl) rfl dL_finish_11 ?_
    refine cg_iconst C (x := nI 1) rfl dL_finish_12 ?_
    obtain ⟨hb_13, h⟩ := h
    exact cg_iret C h dL_finish_13 hb_13.1 hb_13.2
def kw_L_drop (Q : Int32 → cS → Prop) (dp : Nat) (mc ms : Nat) (x0 : Nat) (S : cS) : Prop :=
cA S x0 11 ∧ ((((0 ≤ mc ∧ 0 ≤ ms) ∧ (k_X11_drop (fun S_5 => 
(0 ≤ mc ∧ 0 ≤ ms) ∧ (Q ((nI 0)) S_5)) dp x0 S)) ∨
 (∃ mc1 ms2 : Nat, (0 + mc1 ≤ mc ∧ 0 + ms2 ≤ ms) ∧ kx_X11_drop "java/lang/IllegalStateException" (fun S3 =>
(0 + mc1 ≤ mc ∧ 0 + ms2 ≤ ms) ∧ (Q ((nI 1)) S3)) dp mc1 ms2 x0 S)))
set_option maxHeartbeats 1000000 in
set_option maxRecDepth 20000 in
theorem tw_L_drop (l : Launch) (hlt : l.stackTraces = false) (mc ms : Nat) (x0 : Nat) (S : cS) (dp : Nat) {P : Int32 → cS → Prop} (h : kw_L_drop P dp mc ms x0 S) : cMetW (cQi P) l yL_drop cL_drop 2 (some .int) [(0, 4, 7, 15)] 8 mc ms 122 [.ref x0] S dp := by
  intro D Y tp sz
  refine cg_bodyW (by decide +kernel) (Nat.le_of_ble_eq_true rfl) ?_
  intro p e s m args below meth c C htab
  generalize va_A (cWd Y S) sz = A at C ⊢
  have C : cC p s m args meth c cL_drop 2 (some .int) A D Y tp dp RL := C
  refine cg_lv (lv' := [(0, .ref x0)]) rfl ?_
  unfold kw_L_drop at h
  refine cg_aload_n C (i := 0) rfl 0 rfl dL_drop_0 ?_
  obtain ⟨hc_1, h⟩ := h
  rcases h with h | ⟨mc1, ms2, hm_, h⟩
  · obtain ⟨hb_1, h⟩ := h
    refine cg_callv C (t_X11_drop l x0 S dp h) cc_L_62 hc_1.1 hc_1.2 (by decide) rfl rfl ⟨by decide, by decide⟩ hb_1 rfl (Nat.le_of_ble_eq_true rfl) dL_drop_1 (fun S_5 h => ?_)
    simp only [Nat.add_zero]
    refine cg_goto C 10 (by decide) dL_drop_4 ?_
    refine cg_iconst C (x := nI 0) rfl dL_drop_10 ?_
    obtain ⟨hb_11, h⟩ := h
    exact cg_iret C h dL_drop_11 hb_11.1 hb_11.2
  · refine cg_callx_catch C htab (tx_X11_drop l hlt "java/lang/IllegalStateException" mc1 ms2 x0 S dp h) cc_L_62 hc_1.1 hc_1.2 (by decide) rfl rfl ⟨by decide, by decide⟩ hm_ rfl (Nat.le_of_ble_eq_true rfl) dL_drop_1 (tableOf []) ⟨0, 4, 7, 15⟩ (tableOf []) rfl (fun z hz => nomatch hz) (by decide) (by decide) (name := "java/lang/IllegalStateException") ce_L_15 (by decide) 7 rfl (fun e4 S3 h => ?_)
    refine cg_astore_n (lv' := [(1, .ref e4), (0, .ref x0)]) C (i := 1) rfl (Nat.le_of_ble_eq_true rfl) rfl dL_drop_7 ?_
    refine cg_iconst C (x := nI 1) rfl dL_drop_8 ?_
    obtain ⟨hb_9, h⟩ := h
    exact cg_iret C h dL_drop_9 hb_9.1 hb_9.2
def kw_L_crashAt (Q : Int32 → cS → Prop) (dp : Nat) (mc ms : Nat) (x0 : Nat) (x1 : Int32) (S : cS) : Prop :=
cA S x0 11 ∧ ((((0 ≤ mc ∧ 0 ≤ ms) ∧ (k_X11_crashAt (fun S_9 => 
(0 ≤ mc ∧ 0 ≤ ms) ∧ (Q ((nI 0)) S_9)) dp x0 x1 S)) ∨
 (∃ mc1 ms2 : Nat, (0 + mc1 ≤ mc ∧ 0 + ms2 ≤ ms) ∧ kx_X11_crashAt "java/lang/IllegalArgumentException" (fun S3 =>
(0 + mc1 ≤ mc ∧ 0 + ms2 ≤ ms) ∧ (Q ((nI 1)) S3)) dp mc1 ms2 x0 x1 S) ∨
 (∃ mc5 ms6 : Nat, (0 + mc5 ≤ mc ∧ 0 + ms6 ≤ ms) ∧ kx_X11_crashAt "java/lang/IllegalStateException" (fun S7 =>
(0 + mc5 ≤ mc ∧ 0 + ms6 ≤ ms) ∧ (Q ((nI 2)) S7)) dp mc5 ms6 x0 x1 S)))
set_option maxHeartbeats 1000000 in
set_option maxRecDepth 20000 in
theorem tw_L_crashAt (l : Launch) (hlt : l.stackTraces = false) (mc ms : Nat) (x0 : Nat) (x1 : Int32) (S : cS) (dp : Nat) {P : Int32 → cS → Prop} (h : kw_L_crashAt P dp mc ms x0 x1 S) : cMetW (cQi P) l yL_crashAt cL_crashAt 3 (some .int) [(0, 5, 8, 13), (0, 5, 11, 15)] 8 mc ms 123 [.ref x0, .int x1] S dp := by
  intro D Y tp sz
  refine cg_bodyW (by decide +kernel) (Nat.le_of_ble_eq_true rfl) ?_
  intro p e s m args below meth c C htab
  generalize va_A (cWd Y S) sz = A at C ⊢
  have C : cC p s m args meth c cL_crashAt 3 (some .int) A D Y tp dp RL := C
  refine cg_lv (lv' := [(0, .ref x0), (1, .int x1)]) rfl ?_
  unfold kw_L_crashAt at h
  refine cg_aload_n C (i := 0) rfl 0 rfl dL_crashAt_0 ?_
  refine cg_iload_n C (i := 1) rfl 1 rfl dL_crashAt_1 ?_
  obtain ⟨hc_2, h⟩ := h
  rcases h with h | ⟨mc1, ms2, hm_, h⟩ | ⟨mc5, ms6, hm_, h⟩
  · obtain ⟨hb_2, h⟩ := h
    refine cg_callv C (t_X11_crashAt l x0 x1 S dp h) cc_L_65 hc_2.1 hc_2.2 (by decide) rfl rfl ⟨by decide, by decide⟩ hb_2 rfl (Nat.le_of_ble_eq_true rfl) dL_crashAt_2 (fun S_9 h => ?_)
    simp only [Nat.add_zero]
    refine cg_goto C 14 (by decide) dL_crashAt_5 ?_
    refine cg_iconst C (x := nI 0) rfl dL_crashAt_14 ?_
    obtain ⟨hb_15, h⟩ := h
    exact cg_iret C h dL_crashAt_15 hb_15.1 hb_15.2
  · refine cg_callx_catch C htab (tx_X11_crashAt l hlt "java/lang/IllegalArgumentException" mc1 ms2 x0 x1 S dp h) cc_L_65 hc_2.1 hc_2.2 (by decide) rfl rfl ⟨by decide, by decide⟩ hm_ rfl (Nat.le_of_ble_eq_true rfl) dL_crashAt_2 (tableOf []) ⟨0, 5, 8, 13⟩ (tableOf [(0, 5, 11, 15)]) rfl (fun z hz => nomatch hz) (by decide) (by decide) (name := "java/lang/IllegalArgumentException") ce_L_13 (by decide) 8 rfl (fun e4 S3 h => ?_)
    refine cg_astore_n (lv' := [(2, .ref e4), (0, .ref x0), (1, .int x1)]) C (i := 2) rfl (Nat.le_of_ble_eq_true rfl) rfl dL_crashAt_8 ?_
    refine cg_iconst C (x := nI 1) rfl dL_crashAt_9 ?_
    obtain ⟨hb_10, h⟩ := h
    exact cg_iret C h dL_crashAt_10 hb_10.1 hb_10.2
  · refine cg_callx_catch C htab (tx_X11_crashAt l hlt "java/lang/IllegalStateException" mc5 ms6 x0 x1 S dp h) cc_L_65 hc_2.1 hc_2.2 (by decide) rfl rfl ⟨by decide, by decide⟩ hm_ rfl (Nat.le_of_ble_eq_true rfl) dL_crashAt_2 (tableOf [(0, 5, 8, 13)]) ⟨0, 5, 11, 15⟩ (tableOf []) rfl (fun z hz => by
        rcases List.mem_cons.mp hz with rfl | hz
        · exact ⟨by decide, "java/lang/IllegalArgumentException", ce_L_13, by decide⟩
        exact nomatch hz) (by decide) (by decide) (name := "java/lang/IllegalStateException") ce_L_15 (by decide) 11 rfl (fun e8 S7 h => ?_)
    refine cg_astore_n (lv' := [(2, .ref e8), (0, .ref x0), (1, .int x1)]) C (i := 2) rfl (Nat.le_of_ble_eq_true rfl) rfl dL_crashAt_11 ?_
    refine cg_iconst C (x := nI 2) rfl dL_crashAt_12 ?_
    obtain ⟨hb_13, h⟩ := h
    exact cg_iret C h dL_crashAt_13 hb_13.1 hb_13.2
def kw_L_open (Q : Int32 → cS → Prop) (dp : Nat) (mc ms : Nat) (x0 : Nat) (x1 : Nat) (S : cS) : Prop :=
cA S x0 11 ∧ ((((∃ mc5 ms6 : Nat, 0 + mc5 ≤ mc ∧ 0 + ms6 ≤ ms ∧ (k_X11_open (fun r_7 S_7 => 
cX S_7 x1 15 ((nI 0)) ∧ (∀ S8 : cS, S8 = cSJ S_7 x1 ((nI 0)).toNatClampNeg ((r_7).toInt64) → (0 + mc5 ≤ mc ∧ 0 + ms6 ≤ ms) ∧ (Q ((nI 0)) S8))) dp mc5 ms6 x0 S))) ∨
 (∃ mc1 ms2 : Nat, (0 + mc1 ≤ mc ∧ 0 + ms2 ≤ ms) ∧ kx_X11_open "java/lang/IllegalStateException" (fun S3 =>
(0 + mc1 ≤ mc ∧ 0 + ms2 ≤ ms) ∧ (Q ((nI 1)) S3)) dp mc1 ms2 x0 S)))
set_option maxHeartbeats 1000000 in
set_option maxRecDepth 20000 in
theorem tw_L_open (l : Launch) (hlt : l.stackTraces = false) (mc ms : Nat) (x0 : Nat) (x1 : Nat) (S : cS) (dp : Nat) {P : Int32 → cS → Prop} (h : kw_L_open P dp mc ms x0 x1 S) : cMetW (cQi P) l yL_open cL_open 3 (some .int) [(0, 8, 11, 15)] 11 mc ms 253 [.ref x0, .ref x1] S dp := by
  intro D Y tp sz
  refine cg_bodyW (by decide +kernel) (Nat.le_of_ble_eq_true rfl) ?_
  intro p e s m args below meth c C htab
  generalize va_A (cWd Y S) sz = A at C ⊢
  have C : cC p s m args meth c cL_open 3 (some .int) A D Y tp dp RL := C
  refine cg_lv (lv' := [(0, .ref x0), (1, .ref x1)]) rfl ?_
  unfold kw_L_open at h
  refine cg_aload_n C (i := 1) rfl 1 rfl dL_open_0 ?_
  refine cg_iconst C (x := nI 0) rfl dL_open_1 ?_
  refine cg_aload_n C (i := 0) rfl 0 rfl dL_open_2 ?_
  obtain ⟨hc_3, h⟩ := h
  rcases h with h | ⟨mc1, ms2, hm_, h⟩
  · obtain ⟨mc5, ms6, hm_1, hm_2, h⟩ := h
    refine cg_calli C (t_X11_open l mc5 ms6 x0 S dp h) cc_L_69 hc_3.1 hc_3.2 (by decide) rfl rfl ⟨by decide, by decide⟩ ⟨hm_1, hm_2⟩ rfl (Nat.le_of_ble_eq_true rfl) dL_open_3 (fun r_7 S_7 h => ?_)
    refine cg_i2l C dL_open_6 ?_
    obtain ⟨hc_7, h⟩ := h
    refine cg_lastoreR C hc_7 dL_open_7 ?_
    refine cg_nm (fun S8 e_S8 => ?_)
    have h := h S8 e_S8
    refine cg_goto C 14 (by decide) dL_open_8 ?_
    refine cg_iconst C (x := nI 0) rfl dL_open_14 ?_
    obtain ⟨hb_15, h⟩ := h
    exact cg_iret C h dL_open_15 hb_15.1 hb_15.2
  · refine cg_callx_catch C htab (tx_X11_open l hlt "java/lang/IllegalStateException" mc1 ms2 x0 S dp h) cc_L_69 hc_3.1 hc_3.2 (by decide) rfl rfl ⟨by decide, by decide⟩ hm_ rfl (Nat.le_of_ble_eq_true rfl) dL_open_3 (tableOf []) ⟨0, 8, 11, 15⟩ (tableOf []) rfl (fun z hz => nomatch hz) (by decide) (by decide) (name := "java/lang/IllegalStateException") ce_L_15 (by decide) 11 rfl (fun e4 S3 h => ?_)
    refine cg_astore_n (lv' := [(2, .ref e4), (0, .ref x0), (1, .ref x1)]) C (i := 2) rfl (Nat.le_of_ble_eq_true rfl) rfl dL_open_11 ?_
    refine cg_iconst C (x := nI 1) rfl dL_open_12 ?_
    obtain ⟨hb_13, h⟩ := h
    exact cg_iret C h dL_open_13 hb_13.1 hb_13.2
def kw_L_files (Q : Int32 → cS → Prop) (dp : Nat) (mc ms : Nat) (x0 : Nat) (x1 : Nat) (S : cS) : Prop :=
cA S x0 11 ∧ ((((∃ mc5 ms6 : Nat, 0 + mc5 ≤ mc ∧ 0 + ms6 ≤ ms ∧ (k_X11_files (fun r_7 S_7 => 
cX S_7 x1 15 ((nI 0)) ∧ (∀ S8 : cS, S8 = cSJ S_7 x1 ((nI 0)).toNatClampNeg ((r_7).toInt64) → (0 + mc5 ≤ mc ∧ 0 + ms6 ≤ ms) ∧ (Q ((nI 0)) S8))) dp mc5 ms6 x0 S))) ∨
 (∃ mc1 ms2 : Nat, (0 + mc1 ≤ mc ∧ 0 + ms2 ≤ ms) ∧ kx_X11_files "java/lang/IllegalStateException" (fun S3 =>
(0 + mc1 ≤ mc ∧ 0 + ms2 ≤ ms) ∧ (Q ((nI 1)) S3)) dp mc1 ms2 x0 S)))
set_option maxHeartbeats 1000000 in
set_option maxRecDepth 20000 in
theorem tw_L_files (l : Launch) (hlt : l.stackTraces = false) (mc ms : Nat) (x0 : Nat) (x1 : Nat) (S : cS) (dp : Nat) {P : Int32 → cS → Prop} (h : kw_L_files P dp mc ms x0 x1 S) : cMetW (cQi P) l yL_files cL_files 3 (some .int) [(0, 8, 11, 15)] 8 mc ms 175 [.ref x0, .ref x1] S dp := by
  intro D Y tp sz
  refine cg_bodyW (by decide +kernel) (Nat.le_of_ble_eq_true rfl) ?_
  intro p e s m args below meth c C htab
  generalize va_A (cWd Y S) sz = A at C ⊢
  have C : cC p s m args meth c cL_files 3 (some .int) A D Y tp dp RL := C
  refine cg_lv (lv' := [(0, .ref x0), (1, .ref x1)]) rfl ?_
  unfold kw_L_files at h
  refine cg_aload_n C (i := 1) rfl 1 rfl dL_files_0 ?_
  refine cg_iconst C (x := nI 0) rfl dL_files_1 ?_
  refine cg_aload_n C (i := 0) rfl 0 rfl dL_files_2 ?_
  obtain ⟨hc_3, h⟩ := h
  rcases h with h | ⟨mc1, ms2, hm_, h⟩
  · obtain ⟨mc5, ms6, hm_1, hm_2, h⟩ := h
    refine cg_calli C (t_X11_files l mc5 ms6 x0 S dp h) cc_L_72 hc_3.1 hc_3.2 (by decide) rfl rfl ⟨by decide, by decide⟩ ⟨hm_1, hm_2⟩ rfl (Nat.le_of_ble_eq_true rfl) dL_files_3 (fun r_7 S_7 h => ?_)
    refine cg_i2l C dL_files_6 ?_
    obtain ⟨hc_7, h⟩ := h
    refine cg_lastoreR C hc_7 dL_files_7 ?_
    refine cg_nm (fun S8 e_S8 => ?_)
    have h := h S8 e_S8
    refine cg_goto C 14 (by decide) dL_files_8 ?_
    refine cg_iconst C (x := nI 0) rfl dL_files_14 ?_
    obtain ⟨hb_15, h⟩ := h
    exact cg_iret C h dL_files_15 hb_15.1 hb_15.2
  · refine cg_callx_catch C htab (tx_X11_files l hlt "java/lang/IllegalStateException" mc1 ms2 x0 S dp h) cc_L_72 hc_3.1 hc_3.2 (by decide) rfl rfl ⟨by decide, by decide⟩ hm_ rfl (Nat.le_of_ble_eq_true rfl) dL_files_3 (tableOf []) ⟨0, 8, 11, 15⟩ (tableOf []) rfl (fun z hz => nomatch hz) (by decide) (by decide) (name := "java/lang/IllegalStateException") ce_L_15 (by decide) 11 rfl (fun e4 S3 h => ?_)
    refine cg_astore_n (lv' := [(2, .ref e4), (0, .ref x0), (1, .ref x1)]) C (i := 2) rfl (Nat.le_of_ble_eq_true rfl) rfl dL_files_11 ?_
    refine cg_iconst C (x := nI 1) rfl dL_files_12 ?_
    obtain ⟨hb_13, h⟩ := h
    exact cg_iret C h dL_files_13 hb_13.1 hb_13.2
def kw_L_segments (Q : Int32 → cS → Prop) (dp : Nat) (mc ms : Nat) (x0 : Nat) (x1 : Nat) (S : cS) : Prop :=
cA S x0 11 ∧ ((((0 ≤ mc ∧ 0 ≤ ms) ∧ (k_X11_segments (fun r_5 S_5 => 
cX S_5 x1 15 ((nI 0)) ∧ (∀ S6 : cS, S6 = cSJ S_5 x1 ((nI 0)).toNatClampNeg ((r_5).toInt64) → (0 ≤ mc ∧ 0 ≤ ms) ∧ (Q ((nI 0)) S6))) dp x0 S)) ∨
 (∃ mc1 ms2 : Nat, (0 + mc1 ≤ mc ∧ 0 + ms2 ≤ ms) ∧ kx_X11_segments "java/lang/IllegalStateException" (fun S3 =>
(0 + mc1 ≤ mc ∧ 0 + ms2 ≤ ms) ∧ (Q ((nI 1)) S3)) dp mc1 ms2 x0 S)))
set_option maxHeartbeats 1000000 in
set_option maxRecDepth 20000 in
theorem tw_L_segments (l : Launch) (hlt : l.stackTraces = false) (mc ms : Nat) (x0 : Nat) (x1 : Nat) (S : cS) (dp : Nat) {P : Int32 → cS → Prop} (h : kw_L_segments P dp mc ms x0 x1 S) : cMetW (cQi P) l yL_segments cL_segments 3 (some .int) [(0, 8, 11, 15)] 8 mc ms 122 [.ref x0, .ref x1] S dp := by
  intro D Y tp sz
  refine cg_bodyW (by decide +kernel) (Nat.le_of_ble_eq_true rfl) ?_
  intro p e s m args below meth c C htab
  generalize va_A (cWd Y S) sz = A at C ⊢
  have C : cC p s m args meth c cL_segments 3 (some .int) A D Y tp dp RL := C
  refine cg_lv (lv' := [(0, .ref x0), (1, .ref x1)]) rfl ?_
  unfold kw_L_segments at h
  refine cg_aload_n C (i := 1) rfl 1 rfl dL_segments_0 ?_
  refine cg_iconst C (x := nI 0) rfl dL_segments_1 ?_
  refine cg_aload_n C (i := 0) rfl 0 rfl dL_segments_2 ?_
  obtain ⟨hc_3, h⟩ := h
  rcases h with h | ⟨mc1, ms2, hm_, h⟩
  · obtain ⟨hb_3, h⟩ := h
    refine cg_calli C (t_X11_segments l x0 S dp h) cc_L_75 hc_3.1 hc_3.2 (by decide) rfl rfl ⟨by decide, by decide⟩ hb_3 rfl (Nat.le_of_ble_eq_true rfl) dL_segments_3 (fun r_5 S_5 h => ?_)
    simp only [Nat.add_zero]
    refine cg_i2l C dL_segments_6 ?_
    obtain ⟨hc_7, h⟩ := h
    refine cg_lastoreR C hc_7 dL_segments_7 ?_
    refine cg_nm (fun S6 e_S6 => ?_)
    have h := h S6 e_S6
    refine cg_goto C 14 (by decide) dL_segments_8 ?_
    refine cg_iconst C (x := nI 0) rfl dL_segments_14 ?_
    obtain ⟨hb_15, h⟩ := h
    exact cg_iret C h dL_segments_15 hb_15.1 hb_15.2
  · refine cg_callx_catch C htab (tx_X11_segments l hlt "java/lang/IllegalStateException" mc1 ms2 x0 S dp h) cc_L_75 hc_3.1 hc_3.2 (by decide) rfl rfl ⟨by decide, by decide⟩ hm_ rfl (Nat.le_of_ble_eq_true rfl) dL_segments_3 (tableOf []) ⟨0, 8, 11, 15⟩ (tableOf []) rfl (fun z hz => nomatch hz) (by decide) (by decide) (name := "java/lang/IllegalStateException") ce_L_15 (by decide) 11 rfl (fun e4 S3 h => ?_)
    refine cg_astore_n (lv' := [(2, .ref e4), (0, .ref x0), (1, .ref x1)]) C (i := 2) rfl (Nat.le_of_ble_eq_true rfl) rfl dL_segments_11 ?_
    refine cg_iconst C (x := nI 1) rfl dL_segments_12 ?_
    obtain ⟨hb_13, h⟩ := h
    exact cg_iret C h dL_segments_13 hb_13.1 hb_13.2
def kw_L_segmentAt (Q : Int32 → cS → Prop) (dp : Nat) (mc ms : Nat) (x0 : Nat) (x1 : Int32) (x2 : Nat) (S : cS) : Prop :=
cA S x0 11 ∧ ((((0 ≤ mc ∧ 0 ≤ ms) ∧ (k_X11_segmentAt (fun r_5 S_5 => 
cX S_5 x2 15 ((nI 0)) ∧ (∀ S6 : cS, S6 = cSJ S_5 x2 ((nI 0)).toNatClampNeg ((r_5).toInt64) → (0 ≤ mc ∧ 0 ≤ ms) ∧ (Q ((nI 0)) S6))) dp x0 x1 S)) ∨
 (∃ mc1 ms2 : Nat, (0 + mc1 ≤ mc ∧ 0 + ms2 ≤ ms) ∧ kx_X11_segmentAt "java/lang/IndexOutOfBoundsException" (fun S3 =>
(0 + mc1 ≤ mc ∧ 0 + ms2 ≤ ms) ∧ (Q ((nI 1)) S3)) dp mc1 ms2 x0 x1 S)))
set_option maxHeartbeats 1000000 in
set_option maxRecDepth 20000 in
theorem tw_L_segmentAt (l : Launch) (hlt : l.stackTraces = false) (mc ms : Nat) (x0 : Nat) (x1 : Int32) (x2 : Nat) (S : cS) (dp : Nat) {P : Int32 → cS → Prop} (h : kw_L_segmentAt P dp mc ms x0 x1 x2 S) : cMetW (cQi P) l yL_segmentAt cL_segmentAt 4 (some .int) [(0, 9, 12, 28)] 8 mc ms 128 [.ref x0, .int x1, .ref x2] S dp := by
  intro D Y tp sz
  refine cg_bodyW (by decide +kernel) (Nat.le_of_ble_eq_true rfl) ?_
  intro p e s m args below meth c C htab
  generalize va_A (cWd Y S) sz = A at C ⊢
  have C : cC p s m args meth c cL_segmentAt 4 (some .int) A D Y tp dp RL := C
  refine cg_lv (lv' := [(0, .ref x0), (1, .int x1), (2, .ref x2)]) rfl ?_
  unfold kw_L_segmentAt at h
  refine cg_aload_n C (i := 2) rfl 2 rfl dL_segmentAt_0 ?_
  refine cg_iconst C (x := nI 0) rfl dL_segmentAt_1 ?_
  refine cg_aload_n C (i := 0) rfl 0 rfl dL_segmentAt_2 ?_
  refine cg_iload_n C (i := 1) rfl 1 rfl dL_segmentAt_3 ?_
  obtain ⟨hc_4, h⟩ := h
  rcases h with h | ⟨mc1, ms2, hm_, h⟩
  · obtain ⟨hb_4, h⟩ := h
    refine cg_calli C (t_X11_segmentAt l x0 x1 S dp h) cc_L_78 hc_4.1 hc_4.2 (by decide) rfl rfl ⟨by decide, by decide⟩ hb_4 rfl (Nat.le_of_ble_eq_true rfl) dL_segmentAt_4 (fun r_5 S_5 h => ?_)
    simp only [Nat.add_zero]
    refine cg_i2l C dL_segmentAt_7 ?_
    obtain ⟨hc_8, h⟩ := h
    refine cg_lastoreR C hc_8 dL_segmentAt_8 ?_
    refine cg_nm (fun S6 e_S6 => ?_)
    have h := h S6 e_S6
    refine cg_goto C 15 (by decide) dL_segmentAt_9 ?_
    refine cg_iconst C (x := nI 0) rfl dL_segmentAt_15 ?_
    obtain ⟨hb_16, h⟩ := h
    exact cg_iret C h dL_segmentAt_16 hb_16.1 hb_16.2
  · refine cg_callx_catch C htab (tx_X11_segmentAt l hlt "java/lang/IndexOutOfBoundsException" mc1 ms2 x0 x1 S dp h) cc_L_78 hc_4.1 hc_4.2 (by decide) rfl rfl ⟨by decide, by decide⟩ hm_ rfl (Nat.le_of_ble_eq_true rfl) dL_segmentAt_4 (tableOf []) ⟨0, 9, 12, 28⟩ (tableOf []) rfl (fun z hz => nomatch hz) (by decide) (by decide) (name := "java/lang/IndexOutOfBoundsException") ce_L_28 (by decide) 12 rfl (fun e4 S3 h => ?_)
    refine cg_astore_n (lv' := [(3, .ref e4), (0, .ref x0), (1, .int x1), (2, .ref x2)]) C (i := 3) rfl (Nat.le_of_ble_eq_true rfl) rfl dL_segmentAt_12 ?_
    refine cg_iconst C (x := nI 1) rfl dL_segmentAt_13 ?_
    obtain ⟨hb_14, h⟩ := h
    exact cg_iret C h dL_segmentAt_14 hb_14.1 hb_14.2
def kw_L_live (Q : Int32 → cS → Prop) (dp : Nat) (mc ms : Nat) (x0 : Nat) (x1 : Int32) (x2 : Nat) (S : cS) : Prop :=
cA S x0 11 ∧ ((((0 ≤ mc ∧ 0 ≤ ms) ∧ (k_X11_live (fun r_5 S_5 => 
cX S_5 x2 15 ((nI 0)) ∧ (∀ S6 : cS, S6 = cSJ S_5 x2 ((nI 0)).toNatClampNeg ((r_5).toInt64) → (0 ≤ mc ∧ 0 ≤ ms) ∧ (Q ((nI 0)) S6))) dp x0 x1 S)) ∨
 (∃ mc1 ms2 : Nat, (0 + mc1 ≤ mc ∧ 0 + ms2 ≤ ms) ∧ kx_X11_live "java/lang/IndexOutOfBoundsException" (fun S3 =>
(0 + mc1 ≤ mc ∧ 0 + ms2 ≤ ms) ∧ (Q ((nI 1)) S3)) dp mc1 ms2 x0 x1 S)))
set_option maxHeartbeats 1000000 in
set_option maxRecDepth 20000 in
theorem tw_L_live (l : Launch) (hlt : l.stackTraces = false) (mc ms : Nat) (x0 : Nat) (x1 : Int32) (x2 : Nat) (S : cS) (dp : Nat) {P : Int32 → cS → Prop} (h : kw_L_live P dp mc ms x0 x1 x2 S) : cMetW (cQi P) l yL_live cL_live 4 (some .int) [(0, 9, 12, 28)] 8 mc ms 128 [.ref x0, .int x1, .ref x2] S dp := by
  intro D Y tp sz
  refine cg_bodyW (by decide +kernel) (Nat.le_of_ble_eq_true rfl) ?_
  intro p e s m args below meth c C htab
  generalize va_A (cWd Y S) sz = A at C ⊢
  have C : cC p s m args meth c cL_live 4 (some .int) A D Y tp dp RL := C
  refine cg_lv (lv' := [(0, .ref x0), (1, .int x1), (2, .ref x2)]) rfl ?_
  unfold kw_L_live at h
  refine cg_aload_n C (i := 2) rfl 2 rfl dL_live_0 ?_
  refine cg_iconst C (x := nI 0) rfl dL_live_1 ?_
  refine cg_aload_n C (i := 0) rfl 0 rfl dL_live_2 ?_
  refine cg_iload_n C (i := 1) rfl 1 rfl dL_live_3 ?_
  obtain ⟨hc_4, h⟩ := h
  rcases h with h | ⟨mc1, ms2, hm_, h⟩
  · obtain ⟨hb_4, h⟩ := h
    refine cg_calli C (t_X11_live l x0 x1 S dp h) cc_L_81 hc_4.1 hc_4.2 (by decide) rfl rfl ⟨by decide, by decide⟩ hb_4 rfl (Nat.le_of_ble_eq_true rfl) dL_live_4 (fun r_5 S_5 h => ?_)
    simp only [Nat.add_zero]
    refine cg_i2l C dL_live_7 ?_
    obtain ⟨hc_8, h⟩ := h
    refine cg_lastoreR C hc_8 dL_live_8 ?_
    refine cg_nm (fun S6 e_S6 => ?_)
    have h := h S6 e_S6
    refine cg_goto C 15 (by decide) dL_live_9 ?_
    refine cg_iconst C (x := nI 0) rfl dL_live_15 ?_
    obtain ⟨hb_16, h⟩ := h
    exact cg_iret C h dL_live_16 hb_16.1 hb_16.2
  · refine cg_callx_catch C htab (tx_X11_live l hlt "java/lang/IndexOutOfBoundsException" mc1 ms2 x0 x1 S dp h) cc_L_81 hc_4.1 hc_4.2 (by decide) rfl rfl ⟨by decide, by decide⟩ hm_ rfl (Nat.le_of_ble_eq_true rfl) dL_live_4 (tableOf []) ⟨0, 9, 12, 28⟩ (tableOf []) rfl (fun z hz => nomatch hz) (by decide) (by decide) (name := "java/lang/IndexOutOfBoundsException") ce_L_28 (by decide) 12 rfl (fun e4 S3 h => ?_)
    refine cg_astore_n (lv' := [(3, .ref e4), (0, .ref x0), (1, .int x1), (2, .ref x2)]) C (i := 3) rfl (Nat.le_of_ble_eq_true rfl) rfl dL_live_12 ?_
    refine cg_iconst C (x := nI 1) rfl dL_live_13 ?_
    obtain ⟨hb_14, h⟩ := h
    exact cg_iret C h dL_live_14 hb_14.1 hb_14.2
def kw_L_keyAt (Q : Int32 → cS → Prop) (dp : Nat) (mc ms : Nat) (x0 : Nat) (x1 : Int32) (x2 : Int32) (x3 : Nat) (S : cS) : Prop :=
cA S x0 11 ∧ ((((0 ≤ mc ∧ 0 ≤ ms) ∧ (k_X11_keyAt (fun r_5 S_5 => 
cX S_5 x3 15 ((nI 0)) ∧ (∀ S6 : cS, S6 = cSJ S_5 x3 ((nI 0)).toNatClampNeg ((r_5).toInt64) → (0 ≤ mc ∧ 0 ≤ ms) ∧ (Q ((nI 0)) S6))) dp x0 x1 x2 S)) ∨
 (∃ mc1 ms2 : Nat, (0 + mc1 ≤ mc ∧ 0 + ms2 ≤ ms) ∧ kx_X11_keyAt "java/lang/IndexOutOfBoundsException" (fun S3 =>
(0 + mc1 ≤ mc ∧ 0 + ms2 ≤ ms) ∧ (Q ((nI 1)) S3)) dp mc1 ms2 x0 x1 x2 S)))
set_option maxHeartbeats 1000000 in
set_option maxRecDepth 20000 in
theorem tw_L_keyAt (l : Launch) (hlt : l.stackTraces = false) (mc ms : Nat) (x0 : Nat) (x1 : Int32) (x2 : Int32) (x3 : Nat) (S : cS) (dp : Nat) {P : Int32 → cS → Prop} (h : kw_L_keyAt P dp mc ms x0 x1 x2 x3 S) : cMetW (cQi P) l yL_keyAt cL_keyAt 5 (some .int) [(0, 10, 13, 28)] 8 mc ms 130 [.ref x0, .int x1, .int x2, .ref x3] S dp := by
  intro D Y tp sz
  refine cg_bodyW (by decide +kernel) (Nat.le_of_ble_eq_true rfl) ?_
  intro p e s m args below meth c C htab
  generalize va_A (cWd Y S) sz = A at C ⊢
  have C : cC p s m args meth c cL_keyAt 5 (some .int) A D Y tp dp RL := C
  refine cg_lv (lv' := [(0, .ref x0), (1, .int x1), (2, .int x2), (3, .ref x3)]) rfl ?_
  unfold kw_L_keyAt at h
  refine cg_aload_n C (i := 3) rfl 3 rfl dL_keyAt_0 ?_
  refine cg_iconst C (x := nI 0) rfl dL_keyAt_1 ?_
  refine cg_aload_n C (i := 0) rfl 0 rfl dL_keyAt_2 ?_
  refine cg_iload_n C (i := 1) rfl 1 rfl dL_keyAt_3 ?_
  refine cg_iload_n C (i := 2) rfl 2 rfl dL_keyAt_4 ?_
  obtain ⟨hc_5, h⟩ := h
  rcases h with h | ⟨mc1, ms2, hm_, h⟩
  · obtain ⟨hb_5, h⟩ := h
    refine cg_calli C (t_X11_keyAt l x0 x1 x2 S dp h) cc_L_84 hc_5.1 hc_5.2 (by decide) rfl rfl ⟨by decide, by decide⟩ hb_5 rfl (Nat.le_of_ble_eq_true rfl) dL_keyAt_5 (fun r_5 S_5 h => ?_)
    simp only [Nat.add_zero]
    refine cg_i2l C dL_keyAt_8 ?_
    obtain ⟨hc_9, h⟩ := h
    refine cg_lastoreR C hc_9 dL_keyAt_9 ?_
    refine cg_nm (fun S6 e_S6 => ?_)
    have h := h S6 e_S6
    refine cg_goto C 17 (by decide) dL_keyAt_10 ?_
    refine cg_iconst C (x := nI 0) rfl dL_keyAt_17 ?_
    obtain ⟨hb_18, h⟩ := h
    exact cg_iret C h dL_keyAt_18 hb_18.1 hb_18.2
  · refine cg_callx_catch C htab (tx_X11_keyAt l hlt "java/lang/IndexOutOfBoundsException" mc1 ms2 x0 x1 x2 S dp h) cc_L_84 hc_5.1 hc_5.2 (by decide) rfl rfl ⟨by decide, by decide⟩ hm_ rfl (Nat.le_of_ble_eq_true rfl) dL_keyAt_5 (tableOf []) ⟨0, 10, 13, 28⟩ (tableOf []) rfl (fun z hz => nomatch hz) (by decide) (by decide) (name := "java/lang/IndexOutOfBoundsException") ce_L_28 (by decide) 13 rfl (fun e4 S3 h => ?_)
    refine cg_astore (lv' := [(4, .ref e4), (0, .ref x0), (1, .int x1), (2, .int x2), (3, .ref x3)]) C (Nat.le_of_ble_eq_true rfl) rfl dL_keyAt_13 ?_
    refine cg_iconst C (x := nI 1) rfl dL_keyAt_15 ?_
    obtain ⟨hb_16, h⟩ := h
    exact cg_iret C h dL_keyAt_16 hb_16.1 hb_16.2
def kw_L_words (Q : Int32 → cS → Prop) (dp : Nat) (mc ms : Nat) (x0 : Nat) (x1 : Int32) (x2 : Int32) (x3 : Nat) (S : cS) : Prop :=
cA S x0 11 ∧ ((((0 ≤ mc ∧ 0 ≤ ms) ∧ (k_X11_words (fun r_5 S_5 => 
cX S_5 x3 15 ((nI 0)) ∧ (∀ S6 : cS, S6 = cSJ S_5 x3 ((nI 0)).toNatClampNeg ((r_5).toInt64) → (0 ≤ mc ∧ 0 ≤ ms) ∧ (Q ((nI 0)) S6))) dp x0 x1 x2 S)) ∨
 (∃ mc1 ms2 : Nat, (0 + mc1 ≤ mc ∧ 0 + ms2 ≤ ms) ∧ kx_X11_words "java/lang/IndexOutOfBoundsException" (fun S3 =>
(0 + mc1 ≤ mc ∧ 0 + ms2 ≤ ms) ∧ (Q ((nI 1)) S3)) dp mc1 ms2 x0 x1 x2 S)))
set_option maxHeartbeats 1000000 in
set_option maxRecDepth 20000 in
theorem tw_L_words (l : Launch) (hlt : l.stackTraces = false) (mc ms : Nat) (x0 : Nat) (x1 : Int32) (x2 : Int32) (x3 : Nat) (S : cS) (dp : Nat) {P : Int32 → cS → Prop} (h : kw_L_words P dp mc ms x0 x1 x2 x3 S) : cMetW (cQi P) l yL_words cL_words 5 (some .int) [(0, 10, 13, 28)] 9 mc ms 152 [.ref x0, .int x1, .int x2, .ref x3] S dp := by
  intro D Y tp sz
  refine cg_bodyW (by decide +kernel) (Nat.le_of_ble_eq_true rfl) ?_
  intro p e s m args below meth c C htab
  generalize va_A (cWd Y S) sz = A at C ⊢
  have C : cC p s m args meth c cL_words 5 (some .int) A D Y tp dp RL := C
  refine cg_lv (lv' := [(0, .ref x0), (1, .int x1), (2, .int x2), (3, .ref x3)]) rfl ?_
  unfold kw_L_words at h
  refine cg_aload_n C (i := 3) rfl 3 rfl dL_words_0 ?_
  refine cg_iconst C (x := nI 0) rfl dL_words_1 ?_
  refine cg_aload_n C (i := 0) rfl 0 rfl dL_words_2 ?_
  refine cg_iload_n C (i := 1) rfl 1 rfl dL_words_3 ?_
  refine cg_iload_n C (i := 2) rfl 2 rfl dL_words_4 ?_
  obtain ⟨hc_5, h⟩ := h
  rcases h with h | ⟨mc1, ms2, hm_, h⟩
  · obtain ⟨hb_5, h⟩ := h
    refine cg_calli C (t_X11_words l x0 x1 x2 S dp h) cc_L_88 hc_5.1 hc_5.2 (by decide) rfl rfl ⟨by decide, by decide⟩ hb_5 rfl (Nat.le_of_ble_eq_true rfl) dL_words_5 (fun r_5 S_5 h => ?_)
    simp only [Nat.add_zero]
    refine cg_i2l C dL_words_8 ?_
    obtain ⟨hc_9, h⟩ := h
    refine cg_lastoreR C hc_9 dL_words_9 ?_
    refine cg_nm (fun S6 e_S6 => ?_)
    have h := h S6 e_S6
    refine cg_goto C 17 (by decide) dL_words_10 ?_
    refine cg_iconst C (x := nI 0) rfl dL_words_17 ?_
    obtain ⟨hb_18, h⟩ := h
    exact cg_iret C h dL_words_18 hb_18.1 hb_18.2
  · refine cg_callx_catch C htab (tx_X11_words l hlt "java/lang/IndexOutOfBoundsException" mc1 ms2 x0 x1 x2 S dp h) cc_L_88 hc_5.1 hc_5.2 (by decide) rfl rfl ⟨by decide, by decide⟩ hm_ rfl (Nat.le_of_ble_eq_true rfl) dL_words_5 (tableOf []) ⟨0, 10, 13, 28⟩ (tableOf []) rfl (fun z hz => nomatch hz) (by decide) (by decide) (name := "java/lang/IndexOutOfBoundsException") ce_L_28 (by decide) 13 rfl (fun e4 S3 h => ?_)
    refine cg_astore (lv' := [(4, .ref e4), (0, .ref x0), (1, .int x1), (2, .int x2), (3, .ref x3)]) C (Nat.le_of_ble_eq_true rfl) rfl dL_words_13 ?_
    refine cg_iconst C (x := nI 1) rfl dL_words_15 ?_
    obtain ⟨hb_16, h⟩ := h
    exact cg_iret C h dL_words_16 hb_16.1 hb_16.2
def kw_L_shared (Q : Int32 → cS → Prop) (dp : Nat) (mc ms : Nat) (x0 : Nat) (x1 : Int32) (x2 : Int32) (x3 : Int32) (x4 : Nat) (S : cS) : Prop :=
cA S x0 11 ∧ ((((0 ≤ mc ∧ 0 ≤ ms) ∧ (k_X11_shared (fun r_5 S_5 => 
cX S_5 x4 15 ((nI 0)) ∧ (∀ S6 : cS, S6 = cSJ S_5 x4 ((nI 0)).toNatClampNeg ((r_5).toInt64) → (0 ≤ mc ∧ 0 ≤ ms) ∧ (Q ((nI 0)) S6))) dp x0 x1 x2 x3 S)) ∨
 (∃ mc1 ms2 : Nat, (0 + mc1 ≤ mc ∧ 0 + ms2 ≤ ms) ∧ kx_X11_shared "java/lang/IndexOutOfBoundsException" (fun S3 =>
(0 + mc1 ≤ mc ∧ 0 + ms2 ≤ ms) ∧ (Q ((nI 1)) S3)) dp mc1 ms2 x0 x1 x2 x3 S)))
set_option maxHeartbeats 1000000 in
set_option maxRecDepth 20000 in
theorem tw_L_shared (l : Launch) (hlt : l.stackTraces = false) (mc ms : Nat) (x0 : Nat) (x1 : Int32) (x2 : Int32) (x3 : Int32) (x4 : Nat) (S : cS) (dp : Nat) {P : Int32 → cS → Prop} (h : kw_L_shared P dp mc ms x0 x1 x2 x3 x4 S) : cMetW (cQi P) l yL_shared cL_shared 6 (some .int) [(0, 12, 15, 28)] 10 mc ms 177 [.ref x0, .int x1, .int x2, .int x3, .ref x4] S dp := by
  intro D Y tp sz
  refine cg_bodyW (by decide +kernel) (Nat.le_of_ble_eq_true rfl) ?_
  intro p e s m args below meth c C htab
  generalize va_A (cWd Y S) sz = A at C ⊢
  have C : cC p s m args meth c cL_shared 6 (some .int) A D Y tp dp RL := C
  refine cg_lv (lv' := [(0, .ref x0), (1, .int x1), (2, .int x2), (3, .int x3), (4, .ref x4)]) rfl ?_
  unfold kw_L_shared at h
  refine cg_aload C 4 rfl dL_shared_0 ?_
  refine cg_iconst C (x := nI 0) rfl dL_shared_2 ?_
  refine cg_aload_n C (i := 0) rfl 0 rfl dL_shared_3 ?_
  refine cg_iload_n C (i := 1) rfl 1 rfl dL_shared_4 ?_
  refine cg_iload_n C (i := 2) rfl 2 rfl dL_shared_5 ?_
  refine cg_iload_n C (i := 3) rfl 3 rfl dL_shared_6 ?_
  obtain ⟨hc_7, h⟩ := h
  rcases h with h | ⟨mc1, ms2, hm_, h⟩
  · obtain ⟨hb_7, h⟩ := h
    refine cg_calli C (t_X11_shared l x0 x1 x2 x3 S dp h) cc_L_91 hc_7.1 hc_7.2 (by decide) rfl rfl ⟨by decide, by decide⟩ hb_7 rfl (Nat.le_of_ble_eq_true rfl) dL_shared_7 (fun r_5 S_5 h => ?_)
    simp only [Nat.add_zero]
    refine cg_i2l C dL_shared_10 ?_
    obtain ⟨hc_11, h⟩ := h
    refine cg_lastoreR C hc_11 dL_shared_11 ?_
    refine cg_nm (fun S6 e_S6 => ?_)
    have h := h S6 e_S6
    refine cg_goto C 19 (by decide) dL_shared_12 ?_
    refine cg_iconst C (x := nI 0) rfl dL_shared_19 ?_
    obtain ⟨hb_20, h⟩ := h
    exact cg_iret C h dL_shared_20 hb_20.1 hb_20.2
  · refine cg_callx_catch C htab (tx_X11_shared l hlt "java/lang/IndexOutOfBoundsException" mc1 ms2 x0 x1 x2 x3 S dp h) cc_L_91 hc_7.1 hc_7.2 (by decide) rfl rfl ⟨by decide, by decide⟩ hm_ rfl (Nat.le_of_ble_eq_true rfl) dL_shared_7 (tableOf []) ⟨0, 12, 15, 28⟩ (tableOf []) rfl (fun z hz => nomatch hz) (by decide) (by decide) (name := "java/lang/IndexOutOfBoundsException") ce_L_28 (by decide) 15 rfl (fun e4 S3 h => ?_)
    refine cg_astore (lv' := [(5, .ref e4), (0, .ref x0), (1, .int x1), (2, .int x2), (3, .int x3), (4, .ref x4)]) C (Nat.le_of_ble_eq_true rfl) rfl dL_shared_15 ?_
    refine cg_iconst C (x := nI 1) rfl dL_shared_17 ?_
    obtain ⟨hb_18, h⟩ := h
    exact cg_iret C h dL_shared_18 hb_18.1 hb_18.2
def kw_L_wordBytes (Q : Int32 → cS → Prop) (dp : Nat) (mc ms : Nat) (x0 : Nat) (x1 : Int32) (x2 : Int32) (x3 : Nat) (S : cS) : Prop :=
cA S x0 11 ∧ ((((0 ≤ mc ∧ 0 ≤ ms) ∧ (k_X11_wordBytes (fun r_5 S_5 => 
cX S_5 x3 15 ((nI 0)) ∧ (∀ S6 : cS, S6 = cSJ S_5 x3 ((nI 0)).toNatClampNeg ((r_5).toInt64) → (0 ≤ mc ∧ 0 ≤ ms) ∧ (Q ((nI 0)) S6))) dp x0 x1 x2 S)) ∨
 (∃ mc1 ms2 : Nat, (0 + mc1 ≤ mc ∧ 0 + ms2 ≤ ms) ∧ kx_X11_wordBytes "java/lang/IndexOutOfBoundsException" (fun S3 =>
(0 + mc1 ≤ mc ∧ 0 + ms2 ≤ ms) ∧ (Q ((nI 1)) S3)) dp mc1 ms2 x0 x1 x2 S)))
set_option maxHeartbeats 1000000 in
set_option maxRecDepth 20000 in
theorem tw_L_wordBytes (l : Launch) (hlt : l.stackTraces = false) (mc ms : Nat) (x0 : Nat) (x1 : Int32) (x2 : Int32) (x3 : Nat) (S : cS) (dp : Nat) {P : Int32 → cS → Prop} (h : kw_L_wordBytes P dp mc ms x0 x1 x2 x3 S) : cMetW (cQi P) l yL_wordBytes cL_wordBytes 5 (some .int) [(0, 10, 13, 28)] 9 mc ms 155 [.ref x0, .int x1, .int x2, .ref x3] S dp := by
  intro D Y tp sz
  refine cg_bodyW (by decide +kernel) (Nat.le_of_ble_eq_true rfl) ?_
  intro p e s m args below meth c C htab
  generalize va_A (cWd Y S) sz = A at C ⊢
  have C : cC p s m args meth c cL_wordBytes 5 (some .int) A D Y tp dp RL := C
  refine cg_lv (lv' := [(0, .ref x0), (1, .int x1), (2, .int x2), (3, .ref x3)]) rfl ?_
  unfold kw_L_wordBytes at h
  refine cg_aload_n C (i := 3) rfl 3 rfl dL_wordBytes_0 ?_
  refine cg_iconst C (x := nI 0) rfl dL_wordBytes_1 ?_
  refine cg_aload_n C (i := 0) rfl 0 rfl dL_wordBytes_2 ?_
  refine cg_iload_n C (i := 1) rfl 1 rfl dL_wordBytes_3 ?_
  refine cg_iload_n C (i := 2) rfl 2 rfl dL_wordBytes_4 ?_
  obtain ⟨hc_5, h⟩ := h
  rcases h with h | ⟨mc1, ms2, hm_, h⟩
  · obtain ⟨hb_5, h⟩ := h
    refine cg_calli C (t_X11_wordBytes l x0 x1 x2 S dp h) cc_L_95 hc_5.1 hc_5.2 (by decide) rfl rfl ⟨by decide, by decide⟩ hb_5 rfl (Nat.le_of_ble_eq_true rfl) dL_wordBytes_5 (fun r_5 S_5 h => ?_)
    simp only [Nat.add_zero]
    refine cg_i2l C dL_wordBytes_8 ?_
    obtain ⟨hc_9, h⟩ := h
    refine cg_lastoreR C hc_9 dL_wordBytes_9 ?_
    refine cg_nm (fun S6 e_S6 => ?_)
    have h := h S6 e_S6
    refine cg_goto C 17 (by decide) dL_wordBytes_10 ?_
    refine cg_iconst C (x := nI 0) rfl dL_wordBytes_17 ?_
    obtain ⟨hb_18, h⟩ := h
    exact cg_iret C h dL_wordBytes_18 hb_18.1 hb_18.2
  · refine cg_callx_catch C htab (tx_X11_wordBytes l hlt "java/lang/IndexOutOfBoundsException" mc1 ms2 x0 x1 x2 S dp h) cc_L_95 hc_5.1 hc_5.2 (by decide) rfl rfl ⟨by decide, by decide⟩ hm_ rfl (Nat.le_of_ble_eq_true rfl) dL_wordBytes_5 (tableOf []) ⟨0, 10, 13, 28⟩ (tableOf []) rfl (fun z hz => nomatch hz) (by decide) (by decide) (name := "java/lang/IndexOutOfBoundsException") ce_L_28 (by decide) 13 rfl (fun e4 S3 h => ?_)
    refine cg_astore (lv' := [(4, .ref e4), (0, .ref x0), (1, .int x1), (2, .int x2), (3, .ref x3)]) C (Nat.le_of_ble_eq_true rfl) rfl dL_wordBytes_13 ?_
    refine cg_iconst C (x := nI 1) rfl dL_wordBytes_15 ?_
    obtain ⟨hb_16, h⟩ := h
    exact cg_iret C h dL_wordBytes_16 hb_16.1 hb_16.2
def kw_L_signAt (Q : Int32 → cS → Prop) (dp : Nat) (mc ms : Nat) (x0 : Nat) (x1 : Int32) (x2 : Int32) (x3 : Int32) (x4 : Int32) (x5 : Nat) (S : cS) : Prop :=
cA S x0 11 ∧ ((((0 ≤ mc ∧ 0 ≤ ms) ∧ (k_X11_signAt (fun r_5 S_5 => 
cX S_5 x5 15 ((nI 0)) ∧ (∀ S6 : cS, S6 = cSJ S_5 x5 ((nI 0)).toNatClampNeg ((r_5).toInt64) → (0 ≤ mc ∧ 0 ≤ ms) ∧ (Q ((nI 0)) S6))) dp x0 x1 x2 x3 x4 S)) ∨
 (∃ mc1 ms2 : Nat, (0 + mc1 ≤ mc ∧ 0 + ms2 ≤ ms) ∧ kx_X11_signAt "java/lang/IndexOutOfBoundsException" (fun S3 =>
(0 + mc1 ≤ mc ∧ 0 + ms2 ≤ ms) ∧ (Q ((nI 1)) S3)) dp mc1 ms2 x0 x1 x2 x3 x4 S)))
set_option maxHeartbeats 1000000 in
set_option maxRecDepth 20000 in
theorem tw_L_signAt (l : Launch) (hlt : l.stackTraces = false) (mc ms : Nat) (x0 : Nat) (x1 : Int32) (x2 : Int32) (x3 : Int32) (x4 : Int32) (x5 : Nat) (S : cS) (dp : Nat) {P : Int32 → cS → Prop} (h : kw_L_signAt P dp mc ms x0 x1 x2 x3 x4 x5 S) : cMetW (cQi P) l yL_signAt cL_signAt 7 (some .int) [(0, 14, 17, 28)] 10 mc ms 178 [.ref x0, .int x1, .int x2, .int x3, .int x4, .ref x5] S dp := by
  intro D Y tp sz
  refine cg_bodyW (by decide +kernel) (Nat.le_of_ble_eq_true rfl) ?_
  intro p e s m args below meth c C htab
  generalize va_A (cWd Y S) sz = A at C ⊢
  have C : cC p s m args meth c cL_signAt 7 (some .int) A D Y tp dp RL := C
  refine cg_lv (lv' := [(0, .ref x0), (1, .int x1), (2, .int x2), (3, .int x3), (4, .int x4), (5, .ref x5)]) rfl ?_
  unfold kw_L_signAt at h
  refine cg_aload C 5 rfl dL_signAt_0 ?_
  refine cg_iconst C (x := nI 0) rfl dL_signAt_2 ?_
  refine cg_aload_n C (i := 0) rfl 0 rfl dL_signAt_3 ?_
  refine cg_iload_n C (i := 1) rfl 1 rfl dL_signAt_4 ?_
  refine cg_iload_n C (i := 2) rfl 2 rfl dL_signAt_5 ?_
  refine cg_iload_n C (i := 3) rfl 3 rfl dL_signAt_6 ?_
  refine cg_iload C 4 rfl dL_signAt_7 ?_
  obtain ⟨hc_9, h⟩ := h
  rcases h with h | ⟨mc1, ms2, hm_, h⟩
  · obtain ⟨hb_9, h⟩ := h
    refine cg_calli C (t_X11_signAt l x0 x1 x2 x3 x4 S dp h) cc_L_98 hc_9.1 hc_9.2 (by decide) rfl rfl ⟨by decide, by decide⟩ hb_9 rfl (Nat.le_of_ble_eq_true rfl) dL_signAt_9 (fun r_5 S_5 h => ?_)
    simp only [Nat.add_zero]
    refine cg_i2l C dL_signAt_12 ?_
    obtain ⟨hc_13, h⟩ := h
    refine cg_lastoreR C hc_13 dL_signAt_13 ?_
    refine cg_nm (fun S6 e_S6 => ?_)
    have h := h S6 e_S6
    refine cg_goto C 21 (by decide) dL_signAt_14 ?_
    refine cg_iconst C (x := nI 0) rfl dL_signAt_21 ?_
    obtain ⟨hb_22, h⟩ := h
    exact cg_iret C h dL_signAt_22 hb_22.1 hb_22.2
  · refine cg_callx_catch C htab (tx_X11_signAt l hlt "java/lang/IndexOutOfBoundsException" mc1 ms2 x0 x1 x2 x3 x4 S dp h) cc_L_98 hc_9.1 hc_9.2 (by decide) rfl rfl ⟨by decide, by decide⟩ hm_ rfl (Nat.le_of_ble_eq_true rfl) dL_signAt_9 (tableOf []) ⟨0, 14, 17, 28⟩ (tableOf []) rfl (fun z hz => nomatch hz) (by decide) (by decide) (name := "java/lang/IndexOutOfBoundsException") ce_L_28 (by decide) 17 rfl (fun e4 S3 h => ?_)
    refine cg_astore (lv' := [(6, .ref e4), (0, .ref x0), (1, .int x1), (2, .int x2), (3, .int x3), (4, .int x4), (5, .ref x5)]) C (Nat.le_of_ble_eq_true rfl) rfl dL_signAt_17 ?_
    refine cg_iconst C (x := nI 1) rfl dL_signAt_19 ?_
    obtain ⟨hb_20, h⟩ := h
    exact cg_iret C h dL_signAt_20 hb_20.1 hb_20.2
def kw_L_bytes (Q : Int32 → cS → Prop) (dp : Nat) (mc ms : Nat) (x0 : Nat) (x1 : Int32) (x2 : Int32) (x3 : Int32) (x4 : Nat) (S : cS) : Prop :=
cA S x0 11 ∧ ((((0 ≤ mc ∧ 0 ≤ ms) ∧ (k_X11_bytes (fun r_5 S_5 => 
cX S_5 x4 15 ((nI 0)) ∧ (∀ S6 : cS, S6 = cSJ S_5 x4 ((nI 0)).toNatClampNeg ((r_5).toInt64) → (0 ≤ mc ∧ 0 ≤ ms) ∧ (Q ((nI 0)) S6))) dp x0 x1 x2 x3 S)) ∨
 (∃ mc1 ms2 : Nat, (0 + mc1 ≤ mc ∧ 0 + ms2 ≤ ms) ∧ kx_X11_bytes "java/lang/IndexOutOfBoundsException" (fun S3 =>
(0 + mc1 ≤ mc ∧ 0 + ms2 ≤ ms) ∧ (Q ((nI 1)) S3)) dp mc1 ms2 x0 x1 x2 x3 S)))
set_option maxHeartbeats 1000000 in
set_option maxRecDepth 20000 in
theorem tw_L_bytes (l : Launch) (hlt : l.stackTraces = false) (mc ms : Nat) (x0 : Nat) (x1 : Int32) (x2 : Int32) (x3 : Int32) (x4 : Nat) (S : cS) (dp : Nat) {P : Int32 → cS → Prop} (h : kw_L_bytes P dp mc ms x0 x1 x2 x3 x4 S) : cMetW (cQi P) l yL_bytes cL_bytes 6 (some .int) [(0, 12, 15, 28)] 10 mc ms 177 [.ref x0, .int x1, .int x2, .int x3, .ref x4] S dp := by
  intro D Y tp sz
  refine cg_bodyW (by decide +kernel) (Nat.le_of_ble_eq_true rfl) ?_
  intro p e s m args below meth c C htab
  generalize va_A (cWd Y S) sz = A at C ⊢
  have C : cC p s m args meth c cL_bytes 6 (some .int) A D Y tp dp RL := C
  refine cg_lv (lv' := [(0, .ref x0), (1, .int x1), (2, .int x2), (3, .int x3), (4, .ref x4)]) rfl ?_
  unfold kw_L_bytes at h
  refine cg_aload C 4 rfl dL_bytes_0 ?_
  refine cg_iconst C (x := nI 0) rfl dL_bytes_2 ?_
  refine cg_aload_n C (i := 0) rfl 0 rfl dL_bytes_3 ?_
  refine cg_iload_n C (i := 1) rfl 1 rfl dL_bytes_4 ?_
  refine cg_iload_n C (i := 2) rfl 2 rfl dL_bytes_5 ?_
  refine cg_iload_n C (i := 3) rfl 3 rfl dL_bytes_6 ?_
  obtain ⟨hc_7, h⟩ := h
  rcases h with h | ⟨mc1, ms2, hm_, h⟩
  · obtain ⟨hb_7, h⟩ := h
    refine cg_calli C (t_X11_bytes l x0 x1 x2 x3 S dp h) cc_L_102 hc_7.1 hc_7.2 (by decide) rfl rfl ⟨by decide, by decide⟩ hb_7 rfl (Nat.le_of_ble_eq_true rfl) dL_bytes_7 (fun r_5 S_5 h => ?_)
    simp only [Nat.add_zero]
    refine cg_i2l C dL_bytes_10 ?_
    obtain ⟨hc_11, h⟩ := h
    refine cg_lastoreR C hc_11 dL_bytes_11 ?_
    refine cg_nm (fun S6 e_S6 => ?_)
    have h := h S6 e_S6
    refine cg_goto C 19 (by decide) dL_bytes_12 ?_
    refine cg_iconst C (x := nI 0) rfl dL_bytes_19 ?_
    obtain ⟨hb_20, h⟩ := h
    exact cg_iret C h dL_bytes_20 hb_20.1 hb_20.2
  · refine cg_callx_catch C htab (tx_X11_bytes l hlt "java/lang/IndexOutOfBoundsException" mc1 ms2 x0 x1 x2 x3 S dp h) cc_L_102 hc_7.1 hc_7.2 (by decide) rfl rfl ⟨by decide, by decide⟩ hm_ rfl (Nat.le_of_ble_eq_true rfl) dL_bytes_7 (tableOf []) ⟨0, 12, 15, 28⟩ (tableOf []) rfl (fun z hz => nomatch hz) (by decide) (by decide) (name := "java/lang/IndexOutOfBoundsException") ce_L_28 (by decide) 15 rfl (fun e4 S3 h => ?_)
    refine cg_astore (lv' := [(5, .ref e4), (0, .ref x0), (1, .int x1), (2, .int x2), (3, .int x3), (4, .ref x4)]) C (Nat.le_of_ble_eq_true rfl) rfl dL_bytes_15 ?_
    refine cg_iconst C (x := nI 1) rfl dL_bytes_17 ?_
    obtain ⟨hb_18, h⟩ := h
    exact cg_iret C h dL_bytes_18 hb_18.1 hb_18.2
def kw_L_byteAt (Q : Int32 → cS → Prop) (dp : Nat) (mc ms : Nat) (x0 : Nat) (x1 : Int32) (x2 : Int32) (x3 : Int32) (x4 : Int32) (x5 : Nat) (S : cS) : Prop :=
cA S x0 11 ∧ ((((0 ≤ mc ∧ 0 ≤ ms) ∧ (k_X11_byteAt (fun r_5 S_5 => 
cX S_5 x5 15 ((nI 0)) ∧ (∀ S6 : cS, S6 = cSJ S_5 x5 ((nI 0)).toNatClampNeg ((r_5).toInt64) → (0 ≤ mc ∧ 0 ≤ ms) ∧ (Q ((nI 0)) S6))) dp x0 x1 x2 x3 x4 S)) ∨
 (∃ mc1 ms2 : Nat, (0 + mc1 ≤ mc ∧ 0 + ms2 ≤ ms) ∧ kx_X11_byteAt "java/lang/IndexOutOfBoundsException" (fun S3 =>
(0 + mc1 ≤ mc ∧ 0 + ms2 ≤ ms) ∧ (Q ((nI 1)) S3)) dp mc1 ms2 x0 x1 x2 x3 x4 S)))
set_option maxHeartbeats 1000000 in
set_option maxRecDepth 20000 in
theorem tw_L_byteAt (l : Launch) (hlt : l.stackTraces = false) (mc ms : Nat) (x0 : Nat) (x1 : Int32) (x2 : Int32) (x3 : Int32) (x4 : Int32) (x5 : Nat) (S : cS) (dp : Nat) {P : Int32 → cS → Prop} (h : kw_L_byteAt P dp mc ms x0 x1 x2 x3 x4 x5 S) : cMetW (cQi P) l yL_byteAt cL_byteAt 7 (some .int) [(0, 14, 17, 28)] 10 mc ms 179 [.ref x0, .int x1, .int x2, .int x3, .int x4, .ref x5] S dp := by
  intro D Y tp sz
  refine cg_bodyW (by decide +kernel) (Nat.le_of_ble_eq_true rfl) ?_
  intro p e s m args below meth c C htab
  generalize va_A (cWd Y S) sz = A at C ⊢
  have C : cC p s m args meth c cL_byteAt 7 (some .int) A D Y tp dp RL := C
  refine cg_lv (lv' := [(0, .ref x0), (1, .int x1), (2, .int x2), (3, .int x3), (4, .int x4), (5, .ref x5)]) rfl ?_
  unfold kw_L_byteAt at h
  refine cg_aload C 5 rfl dL_byteAt_0 ?_
  refine cg_iconst C (x := nI 0) rfl dL_byteAt_2 ?_
  refine cg_aload_n C (i := 0) rfl 0 rfl dL_byteAt_3 ?_
  refine cg_iload_n C (i := 1) rfl 1 rfl dL_byteAt_4 ?_
  refine cg_iload_n C (i := 2) rfl 2 rfl dL_byteAt_5 ?_
  refine cg_iload_n C (i := 3) rfl 3 rfl dL_byteAt_6 ?_
  refine cg_iload C 4 rfl dL_byteAt_7 ?_
  obtain ⟨hc_9, h⟩ := h
  rcases h with h | ⟨mc1, ms2, hm_, h⟩
  · obtain ⟨hb_9, h⟩ := h
    refine cg_calli C (t_X11_byteAt l x0 x1 x2 x3 x4 S dp h) cc_L_105 hc_9.1 hc_9.2 (by decide) rfl rfl ⟨by decide, by decide⟩ hb_9 rfl (Nat.le_of_ble_eq_true rfl) dL_byteAt_9 (fun r_5 S_5 h => ?_)
    simp only [Nat.add_zero]
    refine cg_i2l C dL_byteAt_12 ?_
    obtain ⟨hc_13, h⟩ := h
    refine cg_lastoreR C hc_13 dL_byteAt_13 ?_
    refine cg_nm (fun S6 e_S6 => ?_)
    have h := h S6 e_S6
    refine cg_goto C 21 (by decide) dL_byteAt_14 ?_
    refine cg_iconst C (x := nI 0) rfl dL_byteAt_21 ?_
    obtain ⟨hb_22, h⟩ := h
    exact cg_iret C h dL_byteAt_22 hb_22.1 hb_22.2
  · refine cg_callx_catch C htab (tx_X11_byteAt l hlt "java/lang/IndexOutOfBoundsException" mc1 ms2 x0 x1 x2 x3 x4 S dp h) cc_L_105 hc_9.1 hc_9.2 (by decide) rfl rfl ⟨by decide, by decide⟩ hm_ rfl (Nat.le_of_ble_eq_true rfl) dL_byteAt_9 (tableOf []) ⟨0, 14, 17, 28⟩ (tableOf []) rfl (fun z hz => nomatch hz) (by decide) (by decide) (name := "java/lang/IndexOutOfBoundsException") ce_L_28 (by decide) 17 rfl (fun e4 S3 h => ?_)
    refine cg_astore (lv' := [(6, .ref e4), (0, .ref x0), (1, .int x1), (2, .int x2), (3, .int x3), (4, .int x4), (5, .ref x5)]) C (Nat.le_of_ble_eq_true rfl) rfl dL_byteAt_17 ?_
    refine cg_iconst C (x := nI 1) rfl dL_byteAt_19 ?_
    obtain ⟨hb_20, h⟩ := h
    exact cg_iret C h dL_byteAt_20 hb_20.1 hb_20.2
def kw_L_look (Q : Int32 → cS → Prop) (dp : Nat) (mc ms : Nat) (x0 : Nat) (x1 : Int32) (x2 : Nat) (S : cS) : Prop :=
cA S x0 11 ∧ ((((∃ mc5 ms6 : Nat, 0 + mc5 ≤ mc ∧ 0 + ms6 ≤ ms ∧ (k_X11_look (fun r_7 S_7 => 
cX S_7 x2 15 ((nI 0)) ∧ (∀ S8 : cS, S8 = cSJ S_7 x2 ((nI 0)).toNatClampNeg ((r_7).toInt64) → (0 + mc5 ≤ mc ∧ 0 + ms6 ≤ ms) ∧ (Q ((nI 0)) S8))) dp mc5 ms6 x0 x1 S))) ∨
 (∃ mc1 ms2 : Nat, (0 + mc1 ≤ mc ∧ 0 + ms2 ≤ ms) ∧ kx_X11_look "java/lang/IllegalStateException" (fun S3 =>
(0 + mc1 ≤ mc ∧ 0 + ms2 ≤ ms) ∧ (Q ((nI 1)) S3)) dp mc1 ms2 x0 x1 S)))
set_option maxHeartbeats 1000000 in
set_option maxRecDepth 20000 in
theorem tw_L_look (l : Launch) (hlt : l.stackTraces = false) (mc ms : Nat) (x0 : Nat) (x1 : Int32) (x2 : Nat) (S : cS) (dp : Nat) {P : Int32 → cS → Prop} (h : kw_L_look P dp mc ms x0 x1 x2 S) : cMetW (cQi P) l yL_look cL_look 4 (some .int) [(0, 9, 12, 15)] 11 mc ms 255 [.ref x0, .int x1, .ref x2] S dp := by
  intro D Y tp sz
  refine cg_bodyW (by decide +kernel) (Nat.le_of_ble_eq_true rfl) ?_
  intro p e s m args below meth c C htab
  generalize va_A (cWd Y S) sz = A at C ⊢
  have C : cC p s m args meth c cL_look 4 (some .int) A D Y tp dp RL := C
  refine cg_lv (lv' := [(0, .ref x0), (1, .int x1), (2, .ref x2)]) rfl ?_
  unfold kw_L_look at h
  refine cg_aload_n C (i := 2) rfl 2 rfl dL_look_0 ?_
  refine cg_iconst C (x := nI 0) rfl dL_look_1 ?_
  refine cg_aload_n C (i := 0) rfl 0 rfl dL_look_2 ?_
  refine cg_iload_n C (i := 1) rfl 1 rfl dL_look_3 ?_
  obtain ⟨hc_4, h⟩ := h
  rcases h with h | ⟨mc1, ms2, hm_, h⟩
  · obtain ⟨mc5, ms6, hm_1, hm_2, h⟩ := h
    refine cg_calli C (t_X11_look l mc5 ms6 x0 x1 S dp h) cc_L_109 hc_4.1 hc_4.2 (by decide) rfl rfl ⟨by decide, by decide⟩ ⟨hm_1, hm_2⟩ rfl (Nat.le_of_ble_eq_true rfl) dL_look_4 (fun r_7 S_7 h => ?_)
    refine cg_i2l C dL_look_7 ?_
    obtain ⟨hc_8, h⟩ := h
    refine cg_lastoreR C hc_8 dL_look_8 ?_
    refine cg_nm (fun S8 e_S8 => ?_)
    have h := h S8 e_S8
    refine cg_goto C 15 (by decide) dL_look_9 ?_
    refine cg_iconst C (x := nI 0) rfl dL_look_15 ?_
    obtain ⟨hb_16, h⟩ := h
    exact cg_iret C h dL_look_16 hb_16.1 hb_16.2
  · refine cg_callx_catch C htab (tx_X11_look l hlt "java/lang/IllegalStateException" mc1 ms2 x0 x1 S dp h) cc_L_109 hc_4.1 hc_4.2 (by decide) rfl rfl ⟨by decide, by decide⟩ hm_ rfl (Nat.le_of_ble_eq_true rfl) dL_look_4 (tableOf []) ⟨0, 9, 12, 15⟩ (tableOf []) rfl (fun z hz => nomatch hz) (by decide) (by decide) (name := "java/lang/IllegalStateException") ce_L_15 (by decide) 12 rfl (fun e4 S3 h => ?_)
    refine cg_astore_n (lv' := [(3, .ref e4), (0, .ref x0), (1, .int x1), (2, .ref x2)]) C (i := 3) rfl (Nat.le_of_ble_eq_true rfl) rfl dL_look_12 ?_
    refine cg_iconst C (x := nI 1) rfl dL_look_13 ?_
    obtain ⟨hb_14, h⟩ := h
    exact cg_iret C h dL_look_14 hb_14.1 hb_14.2
def kw_L_shut (Q : Int32 → cS → Prop) (dp : Nat) (mc ms : Nat) (x0 : Nat) (x1 : Int32) (x2 : Nat) (S : cS) : Prop :=
cA S x0 11 ∧ ((((∃ mc5 ms6 : Nat, 0 + mc5 ≤ mc ∧ 0 + ms6 ≤ ms ∧ (k_X11_shut (fun r_7 S_7 => 
cX S_7 x2 15 ((nI 0)) ∧ (∀ S8 : cS, S8 = cSJ S_7 x2 ((nI 0)).toNatClampNeg ((r_7).toInt64) → (0 + mc5 ≤ mc ∧ 0 + ms6 ≤ ms) ∧ (Q ((nI 0)) S8))) dp mc5 ms6 x0 x1 S))) ∨
 (∃ mc1 ms2 : Nat, (0 + mc1 ≤ mc ∧ 0 + ms2 ≤ ms) ∧ kx_X11_shut "java/lang/IndexOutOfBoundsException" (fun S3 =>
(0 + mc1 ≤ mc ∧ 0 + ms2 ≤ ms) ∧ (Q ((nI 1)) S3)) dp mc1 ms2 x0 x1 S)))
set_option maxHeartbeats 1000000 in
set_option maxRecDepth 20000 in
theorem tw_L_shut (l : Launch) (hlt : l.stackTraces = false) (mc ms : Nat) (x0 : Nat) (x1 : Int32) (x2 : Nat) (S : cS) (dp : Nat) {P : Int32 → cS → Prop} (h : kw_L_shut P dp mc ms x0 x1 x2 S) : cMetW (cQi P) l yL_shut cL_shut 4 (some .int) [(0, 9, 12, 28)] 8 mc ms 178 [.ref x0, .int x1, .ref x2] S dp := by
  intro D Y tp sz
  refine cg_bodyW (by decide +kernel) (Nat.le_of_ble_eq_true rfl) ?_
  intro p e s m args below meth c C htab
  generalize va_A (cWd Y S) sz = A at C ⊢
  have C : cC p s m args meth c cL_shut 4 (some .int) A D Y tp dp RL := C
  refine cg_lv (lv' := [(0, .ref x0), (1, .int x1), (2, .ref x2)]) rfl ?_
  unfold kw_L_shut at h
  refine cg_aload_n C (i := 2) rfl 2 rfl dL_shut_0 ?_
  refine cg_iconst C (x := nI 0) rfl dL_shut_1 ?_
  refine cg_aload_n C (i := 0) rfl 0 rfl dL_shut_2 ?_
  refine cg_iload_n C (i := 1) rfl 1 rfl dL_shut_3 ?_
  obtain ⟨hc_4, h⟩ := h
  rcases h with h | ⟨mc1, ms2, hm_, h⟩
  · obtain ⟨mc5, ms6, hm_1, hm_2, h⟩ := h
    refine cg_calli C (t_X11_shut l mc5 ms6 x0 x1 S dp h) cc_L_113 hc_4.1 hc_4.2 (by decide) rfl rfl ⟨by decide, by decide⟩ ⟨hm_1, hm_2⟩ rfl (Nat.le_of_ble_eq_true rfl) dL_shut_4 (fun r_7 S_7 h => ?_)
    refine cg_i2l C dL_shut_7 ?_
    obtain ⟨hc_8, h⟩ := h
    refine cg_lastoreR C hc_8 dL_shut_8 ?_
    refine cg_nm (fun S8 e_S8 => ?_)
    have h := h S8 e_S8
    refine cg_goto C 15 (by decide) dL_shut_9 ?_
    refine cg_iconst C (x := nI 0) rfl dL_shut_15 ?_
    obtain ⟨hb_16, h⟩ := h
    exact cg_iret C h dL_shut_16 hb_16.1 hb_16.2
  · refine cg_callx_catch C htab (tx_X11_shut l hlt "java/lang/IndexOutOfBoundsException" mc1 ms2 x0 x1 S dp h) cc_L_113 hc_4.1 hc_4.2 (by decide) rfl rfl ⟨by decide, by decide⟩ hm_ rfl (Nat.le_of_ble_eq_true rfl) dL_shut_4 (tableOf []) ⟨0, 9, 12, 28⟩ (tableOf []) rfl (fun z hz => nomatch hz) (by decide) (by decide) (name := "java/lang/IndexOutOfBoundsException") ce_L_28 (by decide) 12 rfl (fun e4 S3 h => ?_)
    refine cg_astore_n (lv' := [(3, .ref e4), (0, .ref x0), (1, .int x1), (2, .ref x2)]) C (i := 3) rfl (Nat.le_of_ble_eq_true rfl) rfl dL_shut_12 ?_
    refine cg_iconst C (x := nI 1) rfl dL_shut_13 ?_
    obtain ⟨hb_14, h⟩ := h
    exact cg_iret C h dL_shut_14 hb_14.1 hb_14.2
def kw_L_documents (Q : Int32 → cS → Prop) (dp : Nat) (mc ms : Nat) (x0 : Nat) (x1 : Int32) (x2 : Nat) (S : cS) : Prop :=
cA S x0 11 ∧ ((((0 ≤ mc ∧ 0 ≤ ms) ∧ (k_X11_documents (fun r_5 S_5 => 
cX S_5 x2 15 ((nI 0)) ∧ (∀ S6 : cS, S6 = cSJ S_5 x2 ((nI 0)).toNatClampNeg ((r_5).toInt64) → (0 ≤ mc ∧ 0 ≤ ms) ∧ (Q ((nI 0)) S6))) dp x0 x1 S)) ∨
 (∃ mc1 ms2 : Nat, (0 + mc1 ≤ mc ∧ 0 + ms2 ≤ ms) ∧ kx_X11_documents "java/lang/IndexOutOfBoundsException" (fun S3 =>
(0 + mc1 ≤ mc ∧ 0 + ms2 ≤ ms) ∧ (Q ((nI 1)) S3)) dp mc1 ms2 x0 x1 S)))
set_option maxHeartbeats 1000000 in
set_option maxRecDepth 20000 in
theorem tw_L_documents (l : Launch) (hlt : l.stackTraces = false) (mc ms : Nat) (x0 : Nat) (x1 : Int32) (x2 : Nat) (S : cS) (dp : Nat) {P : Int32 → cS → Prop} (h : kw_L_documents P dp mc ms x0 x1 x2 S) : cMetW (cQi P) l yL_documents cL_documents 4 (some .int) [(0, 9, 12, 28)] 8 mc ms 125 [.ref x0, .int x1, .ref x2] S dp := by
  intro D Y tp sz
  refine cg_bodyW (by decide +kernel) (Nat.le_of_ble_eq_true rfl) ?_
  intro p e s m args below meth c C htab
  generalize va_A (cWd Y S) sz = A at C ⊢
  have C : cC p s m args meth c cL_documents 4 (some .int) A D Y tp dp RL := C
  refine cg_lv (lv' := [(0, .ref x0), (1, .int x1), (2, .ref x2)]) rfl ?_
  unfold kw_L_documents at h
  refine cg_aload_n C (i := 2) rfl 2 rfl dL_documents_0 ?_
  refine cg_iconst C (x := nI 0) rfl dL_documents_1 ?_
  refine cg_aload_n C (i := 0) rfl 0 rfl dL_documents_2 ?_
  refine cg_iload_n C (i := 1) rfl 1 rfl dL_documents_3 ?_
  obtain ⟨hc_4, h⟩ := h
  rcases h with h | ⟨mc1, ms2, hm_, h⟩
  · obtain ⟨hb_4, h⟩ := h
    refine cg_calli C (t_X11_documents l x0 x1 S dp h) cc_L_116 hc_4.1 hc_4.2 (by decide) rfl rfl ⟨by decide, by decide⟩ hb_4 rfl (Nat.le_of_ble_eq_true rfl) dL_documents_4 (fun r_5 S_5 h => ?_)
    simp only [Nat.add_zero]
    refine cg_i2l C dL_documents_7 ?_
    obtain ⟨hc_8, h⟩ := h
    refine cg_lastoreR C hc_8 dL_documents_8 ?_
    refine cg_nm (fun S6 e_S6 => ?_)
    have h := h S6 e_S6
    refine cg_goto C 15 (by decide) dL_documents_9 ?_
    refine cg_iconst C (x := nI 0) rfl dL_documents_15 ?_
    obtain ⟨hb_16, h⟩ := h
    exact cg_iret C h dL_documents_16 hb_16.1 hb_16.2
  · refine cg_callx_catch C htab (tx_X11_documents l hlt "java/lang/IndexOutOfBoundsException" mc1 ms2 x0 x1 S dp h) cc_L_116 hc_4.1 hc_4.2 (by decide) rfl rfl ⟨by decide, by decide⟩ hm_ rfl (Nat.le_of_ble_eq_true rfl) dL_documents_4 (tableOf []) ⟨0, 9, 12, 28⟩ (tableOf []) rfl (fun z hz => nomatch hz) (by decide) (by decide) (name := "java/lang/IndexOutOfBoundsException") ce_L_28 (by decide) 12 rfl (fun e4 S3 h => ?_)
    refine cg_astore_n (lv' := [(3, .ref e4), (0, .ref x0), (1, .int x1), (2, .ref x2)]) C (i := 3) rfl (Nat.le_of_ble_eq_true rfl) rfl dL_documents_12 ?_
    refine cg_iconst C (x := nI 1) rfl dL_documents_13 ?_
    obtain ⟨hb_14, h⟩ := h
    exact cg_iret C h dL_documents_14 hb_14.1 hb_14.2
def kw_L_term (Q : Int32 → cS → Prop) (dp : Nat) (mc ms : Nat) (x0 : Nat) (x1 : Int32) (x2 : Nat) (S : cS) : Prop :=
cA S x0 11 ∧ ((((∃ mc9 ms10 : Nat, 0 + mc9 ≤ mc ∧ 0 + ms10 ≤ ms ∧ (k_X11_term (fun r_11 S_11 => 
cX S_11 x2 15 ((nI 0)) ∧ (∀ S12 : cS, S12 = cSJ S_11 x2 ((nI 0)).toNatClampNeg ((r_11).toInt64) → (0 + mc9 ≤ mc ∧ 0 + ms10 ≤ ms) ∧ (Q ((nI 0)) S12))) dp mc9 ms10 x0 x1 S))) ∨
 (∃ mc1 ms2 : Nat, (0 + mc1 ≤ mc ∧ 0 + ms2 ≤ ms) ∧ kx_X11_term "java/lang/IndexOutOfBoundsException" (fun S3 =>
(0 + mc1 ≤ mc ∧ 0 + ms2 ≤ ms) ∧ (Q ((nI 1)) S3)) dp mc1 ms2 x0 x1 S) ∨
 (∃ mc5 ms6 : Nat, (0 + mc5 ≤ mc ∧ 0 + ms6 ≤ ms) ∧ kx_X11_term "java/lang/IllegalStateException" (fun S7 =>
(0 + mc5 ≤ mc ∧ 0 + ms6 ≤ ms) ∧ (Q ((nI 2)) S7)) dp mc5 ms6 x0 x1 S)))
set_option maxHeartbeats 1000000 in
set_option maxRecDepth 20000 in
theorem tw_L_term (l : Launch) (hlt : l.stackTraces = false) (mc ms : Nat) (x0 : Nat) (x1 : Int32) (x2 : Nat) (S : cS) (dp : Nat) {P : Int32 → cS → Prop} (h : kw_L_term P dp mc ms x0 x1 x2 S) : cMetW (cQi P) l yL_term cL_term 4 (some .int) [(0, 9, 12, 28), (0, 9, 15, 15)] 10 mc ms 230 [.ref x0, .int x1, .ref x2] S dp := by
  intro D Y tp sz
  refine cg_bodyW (by decide +kernel) (Nat.le_of_ble_eq_true rfl) ?_
  intro p e s m args below meth c C htab
  generalize va_A (cWd Y S) sz = A at C ⊢
  have C : cC p s m args meth c cL_term 4 (some .int) A D Y tp dp RL := C
  refine cg_lv (lv' := [(0, .ref x0), (1, .int x1), (2, .ref x2)]) rfl ?_
  unfold kw_L_term at h
  refine cg_aload_n C (i := 2) rfl 2 rfl dL_term_0 ?_
  refine cg_iconst C (x := nI 0) rfl dL_term_1 ?_
  refine cg_aload_n C (i := 0) rfl 0 rfl dL_term_2 ?_
  refine cg_iload_n C (i := 1) rfl 1 rfl dL_term_3 ?_
  obtain ⟨hc_4, h⟩ := h
  rcases h with h | ⟨mc1, ms2, hm_, h⟩ | ⟨mc5, ms6, hm_, h⟩
  · obtain ⟨mc9, ms10, hm_1, hm_2, h⟩ := h
    refine cg_calli C (t_X11_term l mc9 ms10 x0 x1 S dp h) cc_L_119 hc_4.1 hc_4.2 (by decide) rfl rfl ⟨by decide, by decide⟩ ⟨hm_1, hm_2⟩ rfl (Nat.le_of_ble_eq_true rfl) dL_term_4 (fun r_11 S_11 h => ?_)
    refine cg_i2l C dL_term_7 ?_
    obtain ⟨hc_8, h⟩ := h
    refine cg_lastoreR C hc_8 dL_term_8 ?_
    refine cg_nm (fun S12 e_S12 => ?_)
    have h := h S12 e_S12
    refine cg_goto C 18 (by decide) dL_term_9 ?_
    refine cg_iconst C (x := nI 0) rfl dL_term_18 ?_
    obtain ⟨hb_19, h⟩ := h
    exact cg_iret C h dL_term_19 hb_19.1 hb_19.2
  · refine cg_callx_catch C htab (tx_X11_term l hlt "java/lang/IndexOutOfBoundsException" mc1 ms2 x0 x1 S dp h) cc_L_119 hc_4.1 hc_4.2 (by decide) rfl rfl ⟨by decide, by decide⟩ hm_ rfl (Nat.le_of_ble_eq_true rfl) dL_term_4 (tableOf []) ⟨0, 9, 12, 28⟩ (tableOf [(0, 9, 15, 15)]) rfl (fun z hz => nomatch hz) (by decide) (by decide) (name := "java/lang/IndexOutOfBoundsException") ce_L_28 (by decide) 12 rfl (fun e4 S3 h => ?_)
    refine cg_astore_n (lv' := [(3, .ref e4), (0, .ref x0), (1, .int x1), (2, .ref x2)]) C (i := 3) rfl (Nat.le_of_ble_eq_true rfl) rfl dL_term_12 ?_
    refine cg_iconst C (x := nI 1) rfl dL_term_13 ?_
    obtain ⟨hb_14, h⟩ := h
    exact cg_iret C h dL_term_14 hb_14.1 hb_14.2
  · refine cg_callx_catch C htab (tx_X11_term l hlt "java/lang/IllegalStateException" mc5 ms6 x0 x1 S dp h) cc_L_119 hc_4.1 hc_4.2 (by decide) rfl rfl ⟨by decide, by decide⟩ hm_ rfl (Nat.le_of_ble_eq_true rfl) dL_term_4 (tableOf [(0, 9, 12, 28)]) ⟨0, 9, 15, 15⟩ (tableOf []) rfl (fun z hz => by
        rcases List.mem_cons.mp hz with rfl | hz
        · exact ⟨by decide, "java/lang/IndexOutOfBoundsException", ce_L_28, by decide⟩
        exact nomatch hz) (by decide) (by decide) (name := "java/lang/IllegalStateException") ce_L_15 (by decide) 15 rfl (fun e8 S7 h => ?_)
    refine cg_astore_n (lv' := [(3, .ref e8), (0, .ref x0), (1, .int x1), (2, .ref x2)]) C (i := 3) rfl (Nat.le_of_ble_eq_true rfl) rfl dL_term_15 ?_
    refine cg_iconst C (x := nI 2) rfl dL_term_16 ?_
    obtain ⟨hb_17, h⟩ := h
    exact cg_iret C h dL_term_17 hb_17.1 hb_17.2
def kw_L_phrase (Q : Int32 → cS → Prop) (dp : Nat) (mc ms : Nat) (x0 : Nat) (x1 : Int32) (x2 : Int32) (x3 : Nat) (S : cS) : Prop :=
cA S x0 11 ∧ ((((∃ mc13 ms14 : Nat, 0 + mc13 ≤ mc ∧ 0 + ms14 ≤ ms ∧ (k_X11_phrase (fun r_15 S_15 => 
cX S_15 x3 15 ((nI 0)) ∧ (∀ S16 : cS, S16 = cSJ S_15 x3 ((nI 0)).toNatClampNeg ((r_15).toInt64) → (0 + mc13 ≤ mc ∧ 0 + ms14 ≤ ms) ∧ (Q ((nI 0)) S16))) dp mc13 ms14 x0 x1 x2 S))) ∨
 (∃ mc1 ms2 : Nat, (0 + mc1 ≤ mc ∧ 0 + ms2 ≤ ms) ∧ kx_X11_phrase "java/lang/IndexOutOfBoundsException" (fun S3 =>
(0 + mc1 ≤ mc ∧ 0 + ms2 ≤ ms) ∧ (Q ((nI 1)) S3)) dp mc1 ms2 x0 x1 x2 S) ∨
 (∃ mc5 ms6 : Nat, (0 + mc5 ≤ mc ∧ 0 + ms6 ≤ ms) ∧ kx_X11_phrase "java/lang/IllegalArgumentException" (fun S7 =>
(0 + mc5 ≤ mc ∧ 0 + ms6 ≤ ms) ∧ (Q ((nI 2)) S7)) dp mc5 ms6 x0 x1 x2 S) ∨
 (∃ mc9 ms10 : Nat, (0 + mc9 ≤ mc ∧ 0 + ms10 ≤ ms) ∧ kx_X11_phrase "java/lang/IllegalStateException" (fun S11 =>
(0 + mc9 ≤ mc ∧ 0 + ms10 ≤ ms) ∧ (Q ((nI 3)) S11)) dp mc9 ms10 x0 x1 x2 S)))
set_option maxHeartbeats 1000000 in
set_option maxRecDepth 20000 in
theorem tw_L_phrase (l : Launch) (hlt : l.stackTraces = false) (mc ms : Nat) (x0 : Nat) (x1 : Int32) (x2 : Int32) (x3 : Nat) (S : cS) (dp : Nat) {P : Int32 → cS → Prop} (h : kw_L_phrase P dp mc ms x0 x1 x2 x3 S) : cMetW (cQi P) l yL_phrase cL_phrase 5 (some .int) [(0, 10, 13, 28), (0, 10, 17, 13), (0, 10, 21, 15)] 10 mc ms 232 [.ref x0, .int x1, .int x2, .ref x3] S dp := by
  intro D Y tp sz
  refine cg_bodyW (by decide +kernel) (Nat.le_of_ble_eq_true rfl) ?_
  intro p e s m args below meth c C htab
  generalize va_A (cWd Y S) sz = A at C ⊢
  have C : cC p s m args meth c cL_phrase 5 (some .int) A D Y tp dp RL := C
  refine cg_lv (lv' := [(0, .ref x0), (1, .int x1), (2, .int x2), (3, .ref x3)]) rfl ?_
  unfold kw_L_phrase at h
  refine cg_aload_n C (i := 3) rfl 3 rfl dL_phrase_0 ?_
  refine cg_iconst C (x := nI 0) rfl dL_phrase_1 ?_
  refine cg_aload_n C (i := 0) rfl 0 rfl dL_phrase_2 ?_
  refine cg_iload_n C (i := 1) rfl 1 rfl dL_phrase_3 ?_
  refine cg_iload_n C (i := 2) rfl 2 rfl dL_phrase_4 ?_
  obtain ⟨hc_5, h⟩ := h
  rcases h with h | ⟨mc1, ms2, hm_, h⟩ | ⟨mc5, ms6, hm_, h⟩ | ⟨mc9, ms10, hm_, h⟩
  · obtain ⟨mc13, ms14, hm_1, hm_2, h⟩ := h
    refine cg_calli C (t_X11_phrase l mc13 ms14 x0 x1 x2 S dp h) cc_L_122 hc_5.1 hc_5.2 (by decide) rfl rfl ⟨by decide, by decide⟩ ⟨hm_1, hm_2⟩ rfl (Nat.le_of_ble_eq_true rfl) dL_phrase_5 (fun r_15 S_15 h => ?_)
    refine cg_i2l C dL_phrase_8 ?_
    obtain ⟨hc_9, h⟩ := h
    refine cg_lastoreR C hc_9 dL_phrase_9 ?_
    refine cg_nm (fun S16 e_S16 => ?_)
    have h := h S16 e_S16
    refine cg_goto C 25 (by decide) dL_phrase_10 ?_
    refine cg_iconst C (x := nI 0) rfl dL_phrase_25 ?_
    obtain ⟨hb_26, h⟩ := h
    exact cg_iret C h dL_phrase_26 hb_26.1 hb_26.2
  · refine cg_callx_catch C htab (tx_X11_phrase l hlt "java/lang/IndexOutOfBoundsException" mc1 ms2 x0 x1 x2 S dp h) cc_L_122 hc_5.1 hc_5.2 (by decide) rfl rfl ⟨by decide, by decide⟩ hm_ rfl (Nat.le_of_ble_eq_true rfl) dL_phrase_5 (tableOf []) ⟨0, 10, 13, 28⟩ (tableOf [(0, 10, 17, 13), (0, 10, 21, 15)]) rfl (fun z hz => nomatch hz) (by decide) (by decide) (name := "java/lang/IndexOutOfBoundsException") ce_L_28 (by decide) 13 rfl (fun e4 S3 h => ?_)
    refine cg_astore (lv' := [(4, .ref e4), (0, .ref x0), (1, .int x1), (2, .int x2), (3, .ref x3)]) C (Nat.le_of_ble_eq_true rfl) rfl dL_phrase_13 ?_
    refine cg_iconst C (x := nI 1) rfl dL_phrase_15 ?_
    obtain ⟨hb_16, h⟩ := h
    exact cg_iret C h dL_phrase_16 hb_16.1 hb_16.2
  · refine cg_callx_catch C htab (tx_X11_phrase l hlt "java/lang/IllegalArgumentException" mc5 ms6 x0 x1 x2 S dp h) cc_L_122 hc_5.1 hc_5.2 (by decide) rfl rfl ⟨by decide, by decide⟩ hm_ rfl (Nat.le_of_ble_eq_true rfl) dL_phrase_5 (tableOf [(0, 10, 13, 28)]) ⟨0, 10, 17, 13⟩ (tableOf [(0, 10, 21, 15)]) rfl (fun z hz => by
        rcases List.mem_cons.mp hz with rfl | hz
        · exact ⟨by decide, "java/lang/IndexOutOfBoundsException", ce_L_28, by decide⟩
        exact nomatch hz) (by decide) (by decide) (name := "java/lang/IllegalArgumentException") ce_L_13 (by decide) 17 rfl (fun e8 S7 h => ?_)
    refine cg_astore (lv' := [(4, .ref e8), (0, .ref x0), (1, .int x1), (2, .int x2), (3, .ref x3)]) C (Nat.le_of_ble_eq_true rfl) rfl dL_phrase_17 ?_
    refine cg_iconst C (x := nI 2) rfl dL_phrase_19 ?_
    obtain ⟨hb_20, h⟩ := h
    exact cg_iret C h dL_phrase_20 hb_20.1 hb_20.2
  · refine cg_callx_catch C htab (tx_X11_phrase l hlt "java/lang/IllegalStateException" mc9 ms10 x0 x1 x2 S dp h) cc_L_122 hc_5.1 hc_5.2 (by decide) rfl rfl ⟨by decide, by decide⟩ hm_ rfl (Nat.le_of_ble_eq_true rfl) dL_phrase_5 (tableOf [(0, 10, 13, 28), (0, 10, 17, 13)]) ⟨0, 10, 21, 15⟩ (tableOf []) rfl (fun z hz => by
        rcases List.mem_cons.mp hz with rfl | hz
        · exact ⟨by decide, "java/lang/IndexOutOfBoundsException", ce_L_28, by decide⟩
        rcases List.mem_cons.mp hz with rfl | hz
        · exact ⟨by decide, "java/lang/IllegalArgumentException", ce_L_13, by decide⟩
        exact nomatch hz) (by decide) (by decide) (name := "java/lang/IllegalStateException") ce_L_15 (by decide) 21 rfl (fun e12 S11 h => ?_)
    refine cg_astore (lv' := [(4, .ref e12), (0, .ref x0), (1, .int x1), (2, .int x2), (3, .ref x3)]) C (Nat.le_of_ble_eq_true rfl) rfl dL_phrase_21 ?_
    refine cg_iconst C (x := nI 3) rfl dL_phrase_23 ?_
    obtain ⟨hb_24, h⟩ := h
    exact cg_iret C h dL_phrase_24 hb_24.1 hb_24.2
def kw_L_near (Q : Int32 → cS → Prop) (dp : Nat) (mc ms : Nat) (x0 : Nat) (x1 : Int32) (x2 : Int32) (x3 : Int32) (x4 : Nat) (S : cS) : Prop :=
cA S x0 11 ∧ ((((∃ mc13 ms14 : Nat, 0 + mc13 ≤ mc ∧ 0 + ms14 ≤ ms ∧ (k_X11_near (fun r_15 S_15 => 
cX S_15 x4 15 ((nI 0)) ∧ (∀ S16 : cS, S16 = cSJ S_15 x4 ((nI 0)).toNatClampNeg ((r_15).toInt64) → (0 + mc13 ≤ mc ∧ 0 + ms14 ≤ ms) ∧ (Q ((nI 0)) S16))) dp mc13 ms14 x0 x1 x2 x3 S))) ∨
 (∃ mc1 ms2 : Nat, (0 + mc1 ≤ mc ∧ 0 + ms2 ≤ ms) ∧ kx_X11_near "java/lang/IndexOutOfBoundsException" (fun S3 =>
(0 + mc1 ≤ mc ∧ 0 + ms2 ≤ ms) ∧ (Q ((nI 1)) S3)) dp mc1 ms2 x0 x1 x2 x3 S) ∨
 (∃ mc5 ms6 : Nat, (0 + mc5 ≤ mc ∧ 0 + ms6 ≤ ms) ∧ kx_X11_near "java/lang/IllegalArgumentException" (fun S7 =>
(0 + mc5 ≤ mc ∧ 0 + ms6 ≤ ms) ∧ (Q ((nI 2)) S7)) dp mc5 ms6 x0 x1 x2 x3 S) ∨
 (∃ mc9 ms10 : Nat, (0 + mc9 ≤ mc ∧ 0 + ms10 ≤ ms) ∧ kx_X11_near "java/lang/IllegalStateException" (fun S11 =>
(0 + mc9 ≤ mc ∧ 0 + ms10 ≤ ms) ∧ (Q ((nI 3)) S11)) dp mc9 ms10 x0 x1 x2 x3 S)))
set_option maxHeartbeats 1000000 in
set_option maxRecDepth 20000 in
theorem tw_L_near (l : Launch) (hlt : l.stackTraces = false) (mc ms : Nat) (x0 : Nat) (x1 : Int32) (x2 : Int32) (x3 : Int32) (x4 : Nat) (S : cS) (dp : Nat) {P : Int32 → cS → Prop} (h : kw_L_near P dp mc ms x0 x1 x2 x3 x4 S) : cMetW (cQi P) l yL_near cL_near 6 (some .int) [(0, 12, 15, 28), (0, 12, 19, 13), (0, 12, 23, 15)] 10 mc ms 233 [.ref x0, .int x1, .int x2, .int x3, .ref x4] S dp := by
  intro D Y tp sz
  refine cg_bodyW (by decide +kernel) (Nat.le_of_ble_eq_true rfl) ?_
  intro p e s m args below meth c C htab
  generalize va_A (cWd Y S) sz = A at C ⊢
  have C : cC p s m args meth c cL_near 6 (some .int) A D Y tp dp RL := C
  refine cg_lv (lv' := [(0, .ref x0), (1, .int x1), (2, .int x2), (3, .int x3), (4, .ref x4)]) rfl ?_
  unfold kw_L_near at h
  refine cg_aload C 4 rfl dL_near_0 ?_
  refine cg_iconst C (x := nI 0) rfl dL_near_2 ?_
  refine cg_aload_n C (i := 0) rfl 0 rfl dL_near_3 ?_
  refine cg_iload_n C (i := 1) rfl 1 rfl dL_near_4 ?_
  refine cg_iload_n C (i := 2) rfl 2 rfl dL_near_5 ?_
  refine cg_iload_n C (i := 3) rfl 3 rfl dL_near_6 ?_
  obtain ⟨hc_7, h⟩ := h
  rcases h with h | ⟨mc1, ms2, hm_, h⟩ | ⟨mc5, ms6, hm_, h⟩ | ⟨mc9, ms10, hm_, h⟩
  · obtain ⟨mc13, ms14, hm_1, hm_2, h⟩ := h
    refine cg_calli C (t_X11_near l mc13 ms14 x0 x1 x2 x3 S dp h) cc_L_125 hc_7.1 hc_7.2 (by decide) rfl rfl ⟨by decide, by decide⟩ ⟨hm_1, hm_2⟩ rfl (Nat.le_of_ble_eq_true rfl) dL_near_7 (fun r_15 S_15 h => ?_)
    refine cg_i2l C dL_near_10 ?_
    obtain ⟨hc_11, h⟩ := h
    refine cg_lastoreR C hc_11 dL_near_11 ?_
    refine cg_nm (fun S16 e_S16 => ?_)
    have h := h S16 e_S16
    refine cg_goto C 27 (by decide) dL_near_12 ?_
    refine cg_iconst C (x := nI 0) rfl dL_near_27 ?_
    obtain ⟨hb_28, h⟩ := h
    exact cg_iret C h dL_near_28 hb_28.1 hb_28.2
  · refine cg_callx_catch C htab (tx_X11_near l hlt "java/lang/IndexOutOfBoundsException" mc1 ms2 x0 x1 x2 x3 S dp h) cc_L_125 hc_7.1 hc_7.2 (by decide) rfl rfl ⟨by decide, by decide⟩ hm_ rfl (Nat.le_of_ble_eq_true rfl) dL_near_7 (tableOf []) ⟨0, 12, 15, 28⟩ (tableOf [(0, 12, 19, 13), (0, 12, 23, 15)]) rfl (fun z hz => nomatch hz) (by decide) (by decide) (name := "java/lang/IndexOutOfBoundsException") ce_L_28 (by decide) 15 rfl (fun e4 S3 h => ?_)
    refine cg_astore (lv' := [(5, .ref e4), (0, .ref x0), (1, .int x1), (2, .int x2), (3, .int x3), (4, .ref x4)]) C (Nat.le_of_ble_eq_true rfl) rfl dL_near_15 ?_
    refine cg_iconst C (x := nI 1) rfl dL_near_17 ?_
    obtain ⟨hb_18, h⟩ := h
    exact cg_iret C h dL_near_18 hb_18.1 hb_18.2
  · refine cg_callx_catch C htab (tx_X11_near l hlt "java/lang/IllegalArgumentException" mc5 ms6 x0 x1 x2 x3 S dp h) cc_L_125 hc_7.1 hc_7.2 (by decide) rfl rfl ⟨by decide, by decide⟩ hm_ rfl (Nat.le_of_ble_eq_true rfl) dL_near_7 (tableOf [(0, 12, 15, 28)]) ⟨0, 12, 19, 13⟩ (tableOf [(0, 12, 23, 15)]) rfl (fun z hz => by
        rcases List.mem_cons.mp hz with rfl | hz
        · exact ⟨by decide, "java/lang/IndexOutOfBoundsException", ce_L_28, by decide⟩
        exact nomatch hz) (by decide) (by decide) (name := "java/lang/IllegalArgumentException") ce_L_13 (by decide) 19 rfl (fun e8 S7 h => ?_)
    refine cg_astore (lv' := [(5, .ref e8), (0, .ref x0), (1, .int x1), (2, .int x2), (3, .int x3), (4, .ref x4)]) C (Nat.le_of_ble_eq_true rfl) rfl dL_near_19 ?_
    refine cg_iconst C (x := nI 2) rfl dL_near_21 ?_
    obtain ⟨hb_22, h⟩ := h
    exact cg_iret C h dL_near_22 hb_22.1 hb_22.2
  · refine cg_callx_catch C htab (tx_X11_near l hlt "java/lang/IllegalStateException" mc9 ms10 x0 x1 x2 x3 S dp h) cc_L_125 hc_7.1 hc_7.2 (by decide) rfl rfl ⟨by decide, by decide⟩ hm_ rfl (Nat.le_of_ble_eq_true rfl) dL_near_7 (tableOf [(0, 12, 15, 28), (0, 12, 19, 13)]) ⟨0, 12, 23, 15⟩ (tableOf []) rfl (fun z hz => by
        rcases List.mem_cons.mp hz with rfl | hz
        · exact ⟨by decide, "java/lang/IndexOutOfBoundsException", ce_L_28, by decide⟩
        rcases List.mem_cons.mp hz with rfl | hz
        · exact ⟨by decide, "java/lang/IllegalArgumentException", ce_L_13, by decide⟩
        exact nomatch hz) (by decide) (by decide) (name := "java/lang/IllegalStateException") ce_L_15 (by decide) 23 rfl (fun e12 S11 h => ?_)
    refine cg_astore (lv' := [(5, .ref e12), (0, .ref x0), (1, .int x1), (2, .int x2), (3, .int x3), (4, .ref x4)]) C (Nat.le_of_ble_eq_true rfl) rfl dL_near_23 ?_
    refine cg_iconst C (x := nI 3) rfl dL_near_25 ?_
    obtain ⟨hb_26, h⟩ := h
    exact cg_iret C h dL_near_26 hb_26.1 hb_26.2
def kw_L_prefix (Q : Int32 → cS → Prop) (dp : Nat) (mc ms : Nat) (x0 : Nat) (x1 : Int32) (x2 : Nat) (S : cS) : Prop :=
cA S x0 11 ∧ ((((∃ mc9 ms10 : Nat, 0 + mc9 ≤ mc ∧ 0 + ms10 ≤ ms ∧ (k_X11_prefix (fun r_11 S_11 => 
cX S_11 x2 15 ((nI 0)) ∧ (∀ S12 : cS, S12 = cSJ S_11 x2 ((nI 0)).toNatClampNeg ((r_11).toInt64) → (0 + mc9 ≤ mc ∧ 0 + ms10 ≤ ms) ∧ (Q ((nI 0)) S12))) dp mc9 ms10 x0 x1 S))) ∨
 (∃ mc1 ms2 : Nat, (0 + mc1 ≤ mc ∧ 0 + ms2 ≤ ms) ∧ kx_X11_prefix "java/lang/IndexOutOfBoundsException" (fun S3 =>
(0 + mc1 ≤ mc ∧ 0 + ms2 ≤ ms) ∧ (Q ((nI 1)) S3)) dp mc1 ms2 x0 x1 S) ∨
 (∃ mc5 ms6 : Nat, (0 + mc5 ≤ mc ∧ 0 + ms6 ≤ ms) ∧ kx_X11_prefix "java/lang/IllegalStateException" (fun S7 =>
(0 + mc5 ≤ mc ∧ 0 + ms6 ≤ ms) ∧ (Q ((nI 2)) S7)) dp mc5 ms6 x0 x1 S)))
set_option maxHeartbeats 1000000 in
set_option maxRecDepth 20000 in
theorem tw_L_prefix (l : Launch) (hlt : l.stackTraces = false) (mc ms : Nat) (x0 : Nat) (x1 : Int32) (x2 : Nat) (S : cS) (dp : Nat) {P : Int32 → cS → Prop} (h : kw_L_prefix P dp mc ms x0 x1 x2 S) : cMetW (cQi P) l yL_prefix cL_prefix 4 (some .int) [(0, 9, 12, 28), (0, 9, 15, 15)] 10 mc ms 230 [.ref x0, .int x1, .ref x2] S dp := by
  intro D Y tp sz
  refine cg_bodyW (by decide +kernel) (Nat.le_of_ble_eq_true rfl) ?_
  intro p e s m args below meth c C htab
  generalize va_A (cWd Y S) sz = A at C ⊢
  have C : cC p s m args meth c cL_prefix 4 (some .int) A D Y tp dp RL := C
  refine cg_lv (lv' := [(0, .ref x0), (1, .int x1), (2, .ref x2)]) rfl ?_
  unfold kw_L_prefix at h
  refine cg_aload_n C (i := 2) rfl 2 rfl dL_prefix_0 ?_
  refine cg_iconst C (x := nI 0) rfl dL_prefix_1 ?_
  refine cg_aload_n C (i := 0) rfl 0 rfl dL_prefix_2 ?_
  refine cg_iload_n C (i := 1) rfl 1 rfl dL_prefix_3 ?_
  obtain ⟨hc_4, h⟩ := h
  rcases h with h | ⟨mc1, ms2, hm_, h⟩ | ⟨mc5, ms6, hm_, h⟩
  · obtain ⟨mc9, ms10, hm_1, hm_2, h⟩ := h
    refine cg_calli C (t_X11_prefix l mc9 ms10 x0 x1 S dp h) cc_L_129 hc_4.1 hc_4.2 (by decide) rfl rfl ⟨by decide, by decide⟩ ⟨hm_1, hm_2⟩ rfl (Nat.le_of_ble_eq_true rfl) dL_prefix_4 (fun r_11 S_11 h => ?_)
    refine cg_i2l C dL_prefix_7 ?_
    obtain ⟨hc_8, h⟩ := h
    refine cg_lastoreR C hc_8 dL_prefix_8 ?_
    refine cg_nm (fun S12 e_S12 => ?_)
    have h := h S12 e_S12
    refine cg_goto C 18 (by decide) dL_prefix_9 ?_
    refine cg_iconst C (x := nI 0) rfl dL_prefix_18 ?_
    obtain ⟨hb_19, h⟩ := h
    exact cg_iret C h dL_prefix_19 hb_19.1 hb_19.2
  · refine cg_callx_catch C htab (tx_X11_prefix l hlt "java/lang/IndexOutOfBoundsException" mc1 ms2 x0 x1 S dp h) cc_L_129 hc_4.1 hc_4.2 (by decide) rfl rfl ⟨by decide, by decide⟩ hm_ rfl (Nat.le_of_ble_eq_true rfl) dL_prefix_4 (tableOf []) ⟨0, 9, 12, 28⟩ (tableOf [(0, 9, 15, 15)]) rfl (fun z hz => nomatch hz) (by decide) (by decide) (name := "java/lang/IndexOutOfBoundsException") ce_L_28 (by decide) 12 rfl (fun e4 S3 h => ?_)
    refine cg_astore_n (lv' := [(3, .ref e4), (0, .ref x0), (1, .int x1), (2, .ref x2)]) C (i := 3) rfl (Nat.le_of_ble_eq_true rfl) rfl dL_prefix_12 ?_
    refine cg_iconst C (x := nI 1) rfl dL_prefix_13 ?_
    obtain ⟨hb_14, h⟩ := h
    exact cg_iret C h dL_prefix_14 hb_14.1 hb_14.2
  · refine cg_callx_catch C htab (tx_X11_prefix l hlt "java/lang/IllegalStateException" mc5 ms6 x0 x1 S dp h) cc_L_129 hc_4.1 hc_4.2 (by decide) rfl rfl ⟨by decide, by decide⟩ hm_ rfl (Nat.le_of_ble_eq_true rfl) dL_prefix_4 (tableOf [(0, 9, 12, 28)]) ⟨0, 9, 15, 15⟩ (tableOf []) rfl (fun z hz => by
        rcases List.mem_cons.mp hz with rfl | hz
        · exact ⟨by decide, "java/lang/IndexOutOfBoundsException", ce_L_28, by decide⟩
        exact nomatch hz) (by decide) (by decide) (name := "java/lang/IllegalStateException") ce_L_15 (by decide) 15 rfl (fun e8 S7 h => ?_)
    refine cg_astore_n (lv' := [(3, .ref e8), (0, .ref x0), (1, .int x1), (2, .ref x2)]) C (i := 3) rfl (Nat.le_of_ble_eq_true rfl) rfl dL_prefix_15 ?_
    refine cg_iconst C (x := nI 2) rfl dL_prefix_16 ?_
    obtain ⟨hb_17, h⟩ := h
    exact cg_iret C h dL_prefix_17 hb_17.1 hb_17.2
def kw_L_wild (Q : Int32 → cS → Prop) (dp : Nat) (mc ms : Nat) (x0 : Nat) (x1 : Int32) (x2 : Nat) (S : cS) : Prop :=
cA S x0 11 ∧ ((((∃ mc9 ms10 : Nat, 0 + mc9 ≤ mc ∧ 0 + ms10 ≤ ms ∧ (k_X11_wild (fun r_11 S_11 => 
cX S_11 x2 15 ((nI 0)) ∧ (∀ S12 : cS, S12 = cSJ S_11 x2 ((nI 0)).toNatClampNeg ((r_11).toInt64) → (0 + mc9 ≤ mc ∧ 0 + ms10 ≤ ms) ∧ (Q ((nI 0)) S12))) dp mc9 ms10 x0 x1 S))) ∨
 (∃ mc1 ms2 : Nat, (0 + mc1 ≤ mc ∧ 0 + ms2 ≤ ms) ∧ kx_X11_wild "java/lang/IndexOutOfBoundsException" (fun S3 =>
(0 + mc1 ≤ mc ∧ 0 + ms2 ≤ ms) ∧ (Q ((nI 1)) S3)) dp mc1 ms2 x0 x1 S) ∨
 (∃ mc5 ms6 : Nat, (0 + mc5 ≤ mc ∧ 0 + ms6 ≤ ms) ∧ kx_X11_wild "java/lang/IllegalStateException" (fun S7 =>
(0 + mc5 ≤ mc ∧ 0 + ms6 ≤ ms) ∧ (Q ((nI 2)) S7)) dp mc5 ms6 x0 x1 S)))
set_option maxHeartbeats 1000000 in
set_option maxRecDepth 20000 in
theorem tw_L_wild (l : Launch) (hlt : l.stackTraces = false) (mc ms : Nat) (x0 : Nat) (x1 : Int32) (x2 : Nat) (S : cS) (dp : Nat) {P : Int32 → cS → Prop} (h : kw_L_wild P dp mc ms x0 x1 x2 S) : cMetW (cQi P) l yL_wild cL_wild 4 (some .int) [(0, 9, 12, 28), (0, 9, 15, 15)] 10 mc ms 230 [.ref x0, .int x1, .ref x2] S dp := by
  intro D Y tp sz
  refine cg_bodyW (by decide +kernel) (Nat.le_of_ble_eq_true rfl) ?_
  intro p e s m args below meth c C htab
  generalize va_A (cWd Y S) sz = A at C ⊢
  have C : cC p s m args meth c cL_wild 4 (some .int) A D Y tp dp RL := C
  refine cg_lv (lv' := [(0, .ref x0), (1, .int x1), (2, .ref x2)]) rfl ?_
  unfold kw_L_wild at h
  refine cg_aload_n C (i := 2) rfl 2 rfl dL_wild_0 ?_
  refine cg_iconst C (x := nI 0) rfl dL_wild_1 ?_
  refine cg_aload_n C (i := 0) rfl 0 rfl dL_wild_2 ?_
  refine cg_iload_n C (i := 1) rfl 1 rfl dL_wild_3 ?_
  obtain ⟨hc_4, h⟩ := h
  rcases h with h | ⟨mc1, ms2, hm_, h⟩ | ⟨mc5, ms6, hm_, h⟩
  · obtain ⟨mc9, ms10, hm_1, hm_2, h⟩ := h
    refine cg_calli C (t_X11_wild l mc9 ms10 x0 x1 S dp h) cc_L_132 hc_4.1 hc_4.2 (by decide) rfl rfl ⟨by decide, by decide⟩ ⟨hm_1, hm_2⟩ rfl (Nat.le_of_ble_eq_true rfl) dL_wild_4 (fun r_11 S_11 h => ?_)
    refine cg_i2l C dL_wild_7 ?_
    obtain ⟨hc_8, h⟩ := h
    refine cg_lastoreR C hc_8 dL_wild_8 ?_
    refine cg_nm (fun S12 e_S12 => ?_)
    have h := h S12 e_S12
    refine cg_goto C 18 (by decide) dL_wild_9 ?_
    refine cg_iconst C (x := nI 0) rfl dL_wild_18 ?_
    obtain ⟨hb_19, h⟩ := h
    exact cg_iret C h dL_wild_19 hb_19.1 hb_19.2
  · refine cg_callx_catch C htab (tx_X11_wild l hlt "java/lang/IndexOutOfBoundsException" mc1 ms2 x0 x1 S dp h) cc_L_132 hc_4.1 hc_4.2 (by decide) rfl rfl ⟨by decide, by decide⟩ hm_ rfl (Nat.le_of_ble_eq_true rfl) dL_wild_4 (tableOf []) ⟨0, 9, 12, 28⟩ (tableOf [(0, 9, 15, 15)]) rfl (fun z hz => nomatch hz) (by decide) (by decide) (name := "java/lang/IndexOutOfBoundsException") ce_L_28 (by decide) 12 rfl (fun e4 S3 h => ?_)
    refine cg_astore_n (lv' := [(3, .ref e4), (0, .ref x0), (1, .int x1), (2, .ref x2)]) C (i := 3) rfl (Nat.le_of_ble_eq_true rfl) rfl dL_wild_12 ?_
    refine cg_iconst C (x := nI 1) rfl dL_wild_13 ?_
    obtain ⟨hb_14, h⟩ := h
    exact cg_iret C h dL_wild_14 hb_14.1 hb_14.2
  · refine cg_callx_catch C htab (tx_X11_wild l hlt "java/lang/IllegalStateException" mc5 ms6 x0 x1 S dp h) cc_L_132 hc_4.1 hc_4.2 (by decide) rfl rfl ⟨by decide, by decide⟩ hm_ rfl (Nat.le_of_ble_eq_true rfl) dL_wild_4 (tableOf [(0, 9, 12, 28)]) ⟨0, 9, 15, 15⟩ (tableOf []) rfl (fun z hz => by
        rcases List.mem_cons.mp hz with rfl | hz
        · exact ⟨by decide, "java/lang/IndexOutOfBoundsException", ce_L_28, by decide⟩
        exact nomatch hz) (by decide) (by decide) (name := "java/lang/IllegalStateException") ce_L_15 (by decide) 15 rfl (fun e8 S7 h => ?_)
    refine cg_astore_n (lv' := [(3, .ref e8), (0, .ref x0), (1, .int x1), (2, .ref x2)]) C (i := 3) rfl (Nat.le_of_ble_eq_true rfl) rfl dL_wild_15 ?_
    refine cg_iconst C (x := nI 2) rfl dL_wild_16 ?_
    obtain ⟨hb_17, h⟩ := h
    exact cg_iret C h dL_wild_17 hb_17.1 hb_17.2
def kw_L_fuzzy (Q : Int32 → cS → Prop) (dp : Nat) (mc ms : Nat) (x0 : Nat) (x1 : Int32) (x2 : Int32) (x3 : Nat) (S : cS) : Prop :=
cA S x0 11 ∧ ((((∃ mc13 ms14 : Nat, 0 + mc13 ≤ mc ∧ 0 + ms14 ≤ ms ∧ (k_X11_fuzzy (fun r_15 S_15 => 
cX S_15 x3 15 ((nI 0)) ∧ (∀ S16 : cS, S16 = cSJ S_15 x3 ((nI 0)).toNatClampNeg ((r_15).toInt64) → (0 + mc13 ≤ mc ∧ 0 + ms14 ≤ ms) ∧ (Q ((nI 0)) S16))) dp mc13 ms14 x0 x1 x2 S))) ∨
 (∃ mc1 ms2 : Nat, (0 + mc1 ≤ mc ∧ 0 + ms2 ≤ ms) ∧ kx_X11_fuzzy "java/lang/IndexOutOfBoundsException" (fun S3 =>
(0 + mc1 ≤ mc ∧ 0 + ms2 ≤ ms) ∧ (Q ((nI 1)) S3)) dp mc1 ms2 x0 x1 x2 S) ∨
 (∃ mc5 ms6 : Nat, (0 + mc5 ≤ mc ∧ 0 + ms6 ≤ ms) ∧ kx_X11_fuzzy "java/lang/IllegalArgumentException" (fun S7 =>
(0 + mc5 ≤ mc ∧ 0 + ms6 ≤ ms) ∧ (Q ((nI 2)) S7)) dp mc5 ms6 x0 x1 x2 S) ∨
 (∃ mc9 ms10 : Nat, (0 + mc9 ≤ mc ∧ 0 + ms10 ≤ ms) ∧ kx_X11_fuzzy "java/lang/IllegalStateException" (fun S11 =>
(0 + mc9 ≤ mc ∧ 0 + ms10 ≤ ms) ∧ (Q ((nI 3)) S11)) dp mc9 ms10 x0 x1 x2 S)))
set_option maxHeartbeats 1000000 in
set_option maxRecDepth 20000 in
theorem tw_L_fuzzy (l : Launch) (hlt : l.stackTraces = false) (mc ms : Nat) (x0 : Nat) (x1 : Int32) (x2 : Int32) (x3 : Nat) (S : cS) (dp : Nat) {P : Int32 → cS → Prop} (h : kw_L_fuzzy P dp mc ms x0 x1 x2 x3 S) : cMetW (cQi P) l yL_fuzzy cL_fuzzy 5 (some .int) [(0, 10, 13, 28), (0, 10, 17, 13), (0, 10, 21, 15)] 10 mc ms 231 [.ref x0, .int x1, .int x2, .ref x3] S dp := by
  intro D Y tp sz
  refine cg_bodyW (by decide +kernel) (Nat.le_of_ble_eq_true rfl) ?_
  intro p e s m args below meth c C htab
  generalize va_A (cWd Y S) sz = A at C ⊢
  have C : cC p s m args meth c cL_fuzzy 5 (some .int) A D Y tp dp RL := C
  refine cg_lv (lv' := [(0, .ref x0), (1, .int x1), (2, .int x2), (3, .ref x3)]) rfl ?_
  unfold kw_L_fuzzy at h
  refine cg_aload_n C (i := 3) rfl 3 rfl dL_fuzzy_0 ?_
  refine cg_iconst C (x := nI 0) rfl dL_fuzzy_1 ?_
  refine cg_aload_n C (i := 0) rfl 0 rfl dL_fuzzy_2 ?_
  refine cg_iload_n C (i := 1) rfl 1 rfl dL_fuzzy_3 ?_
  refine cg_iload_n C (i := 2) rfl 2 rfl dL_fuzzy_4 ?_
  obtain ⟨hc_5, h⟩ := h
  rcases h with h | ⟨mc1, ms2, hm_, h⟩ | ⟨mc5, ms6, hm_, h⟩ | ⟨mc9, ms10, hm_, h⟩
  · obtain ⟨mc13, ms14, hm_1, hm_2, h⟩ := h
    refine cg_calli C (t_X11_fuzzy l mc13 ms14 x0 x1 x2 S dp h) cc_L_135 hc_5.1 hc_5.2 (by decide) rfl rfl ⟨by decide, by decide⟩ ⟨hm_1, hm_2⟩ rfl (Nat.le_of_ble_eq_true rfl) dL_fuzzy_5 (fun r_15 S_15 h => ?_)
    refine cg_i2l C dL_fuzzy_8 ?_
    obtain ⟨hc_9, h⟩ := h
    refine cg_lastoreR C hc_9 dL_fuzzy_9 ?_
    refine cg_nm (fun S16 e_S16 => ?_)
    have h := h S16 e_S16
    refine cg_goto C 25 (by decide) dL_fuzzy_10 ?_
    refine cg_iconst C (x := nI 0) rfl dL_fuzzy_25 ?_
    obtain ⟨hb_26, h⟩ := h
    exact cg_iret C h dL_fuzzy_26 hb_26.1 hb_26.2
  · refine cg_callx_catch C htab (tx_X11_fuzzy l hlt "java/lang/IndexOutOfBoundsException" mc1 ms2 x0 x1 x2 S dp h) cc_L_135 hc_5.1 hc_5.2 (by decide) rfl rfl ⟨by decide, by decide⟩ hm_ rfl (Nat.le_of_ble_eq_true rfl) dL_fuzzy_5 (tableOf []) ⟨0, 10, 13, 28⟩ (tableOf [(0, 10, 17, 13), (0, 10, 21, 15)]) rfl (fun z hz => nomatch hz) (by decide) (by decide) (name := "java/lang/IndexOutOfBoundsException") ce_L_28 (by decide) 13 rfl (fun e4 S3 h => ?_)
    refine cg_astore (lv' := [(4, .ref e4), (0, .ref x0), (1, .int x1), (2, .int x2), (3, .ref x3)]) C (Nat.le_of_ble_eq_true rfl) rfl dL_fuzzy_13 ?_
    refine cg_iconst C (x := nI 1) rfl dL_fuzzy_15 ?_
    obtain ⟨hb_16, h⟩ := h
    exact cg_iret C h dL_fuzzy_16 hb_16.1 hb_16.2
  · refine cg_callx_catch C htab (tx_X11_fuzzy l hlt "java/lang/IllegalArgumentException" mc5 ms6 x0 x1 x2 S dp h) cc_L_135 hc_5.1 hc_5.2 (by decide) rfl rfl ⟨by decide, by decide⟩ hm_ rfl (Nat.le_of_ble_eq_true rfl) dL_fuzzy_5 (tableOf [(0, 10, 13, 28)]) ⟨0, 10, 17, 13⟩ (tableOf [(0, 10, 21, 15)]) rfl (fun z hz => by
        rcases List.mem_cons.mp hz with rfl | hz
        · exact ⟨by decide, "java/lang/IndexOutOfBoundsException", ce_L_28, by decide⟩
        exact nomatch hz) (by decide) (by decide) (name := "java/lang/IllegalArgumentException") ce_L_13 (by decide) 17 rfl (fun e8 S7 h => ?_)
    refine cg_astore (lv' := [(4, .ref e8), (0, .ref x0), (1, .int x1), (2, .int x2), (3, .ref x3)]) C (Nat.le_of_ble_eq_true rfl) rfl dL_fuzzy_17 ?_
    refine cg_iconst C (x := nI 2) rfl dL_fuzzy_19 ?_
    obtain ⟨hb_20, h⟩ := h
    exact cg_iret C h dL_fuzzy_20 hb_20.1 hb_20.2
  · refine cg_callx_catch C htab (tx_X11_fuzzy l hlt "java/lang/IllegalStateException" mc9 ms10 x0 x1 x2 S dp h) cc_L_135 hc_5.1 hc_5.2 (by decide) rfl rfl ⟨by decide, by decide⟩ hm_ rfl (Nat.le_of_ble_eq_true rfl) dL_fuzzy_5 (tableOf [(0, 10, 13, 28), (0, 10, 17, 13)]) ⟨0, 10, 21, 15⟩ (tableOf []) rfl (fun z hz => by
        rcases List.mem_cons.mp hz with rfl | hz
        · exact ⟨by decide, "java/lang/IndexOutOfBoundsException", ce_L_28, by decide⟩
        rcases List.mem_cons.mp hz with rfl | hz
        · exact ⟨by decide, "java/lang/IllegalArgumentException", ce_L_13, by decide⟩
        exact nomatch hz) (by decide) (by decide) (name := "java/lang/IllegalStateException") ce_L_15 (by decide) 21 rfl (fun e12 S11 h => ?_)
    refine cg_astore (lv' := [(4, .ref e12), (0, .ref x0), (1, .int x1), (2, .int x2), (3, .ref x3)]) C (Nat.le_of_ble_eq_true rfl) rfl dL_fuzzy_21 ?_
    refine cg_iconst C (x := nI 3) rfl dL_fuzzy_23 ?_
    obtain ⟨hb_24, h⟩ := h
    exact cg_iret C h dL_fuzzy_24 hb_24.1 hb_24.2
def kw_L_least (Q : Int32 → cS → Prop) (dp : Nat) (mc ms : Nat) (x0 : Nat) (x1 : Int32) (x2 : Int32) (x3 : Nat) (S : cS) : Prop :=
cA S x0 11 ∧ ((((∃ mc9 ms10 : Nat, 0 + mc9 ≤ mc ∧ 0 + ms10 ≤ ms ∧ (k_X11_least (fun r_11 S_11 => 
cX S_11 x3 15 ((nI 0)) ∧ (∀ S12 : cS, S12 = cSJ S_11 x3 ((nI 0)).toNatClampNeg ((r_11).toInt64) → (0 + mc9 ≤ mc ∧ 0 + ms10 ≤ ms) ∧ (Q ((nI 0)) S12))) dp mc9 ms10 x0 x1 x2 S))) ∨
 (∃ mc1 ms2 : Nat, (0 + mc1 ≤ mc ∧ 0 + ms2 ≤ ms) ∧ kx_X11_least "java/lang/IllegalArgumentException" (fun S3 =>
(0 + mc1 ≤ mc ∧ 0 + ms2 ≤ ms) ∧ (Q ((nI 1)) S3)) dp mc1 ms2 x0 x1 x2 S) ∨
 (∃ mc5 ms6 : Nat, (0 + mc5 ≤ mc ∧ 0 + ms6 ≤ ms) ∧ kx_X11_least "java/lang/IllegalStateException" (fun S7 =>
(0 + mc5 ≤ mc ∧ 0 + ms6 ≤ ms) ∧ (Q ((nI 2)) S7)) dp mc5 ms6 x0 x1 x2 S)))
set_option maxHeartbeats 1000000 in
set_option maxRecDepth 20000 in
theorem tw_L_least (l : Launch) (hlt : l.stackTraces = false) (mc ms : Nat) (x0 : Nat) (x1 : Int32) (x2 : Int32) (x3 : Nat) (S : cS) (dp : Nat) {P : Int32 → cS → Prop} (h : kw_L_least P dp mc ms x0 x1 x2 x3 S) : cMetW (cQi P) l yL_least cL_least 5 (some .int) [(0, 10, 13, 13), (0, 10, 17, 15)] 10 mc ms 231 [.ref x0, .int x1, .int x2, .ref x3] S dp := by
  intro D Y tp sz
  refine cg_bodyW (by decide +kernel) (Nat.le_of_ble_eq_true rfl) ?_
  intro p e s m args below meth c C htab
  generalize va_A (cWd Y S) sz = A at C ⊢
  have C : cC p s m args meth c cL_least 5 (some .int) A D Y tp dp RL := C
  refine cg_lv (lv' := [(0, .ref x0), (1, .int x1), (2, .int x2), (3, .ref x3)]) rfl ?_
  unfold kw_L_least at h
  refine cg_aload_n C (i := 3) rfl 3 rfl dL_least_0 ?_
  refine cg_iconst C (x := nI 0) rfl dL_least_1 ?_
  refine cg_aload_n C (i := 0) rfl 0 rfl dL_least_2 ?_
  refine cg_iload_n C (i := 1) rfl 1 rfl dL_least_3 ?_
  refine cg_iload_n C (i := 2) rfl 2 rfl dL_least_4 ?_
  obtain ⟨hc_5, h⟩ := h
  rcases h with h | ⟨mc1, ms2, hm_, h⟩ | ⟨mc5, ms6, hm_, h⟩
  · obtain ⟨mc9, ms10, hm_1, hm_2, h⟩ := h
    refine cg_calli C (t_X11_least l mc9 ms10 x0 x1 x2 S dp h) cc_L_138 hc_5.1 hc_5.2 (by decide) rfl rfl ⟨by decide, by decide⟩ ⟨hm_1, hm_2⟩ rfl (Nat.le_of_ble_eq_true rfl) dL_least_5 (fun r_11 S_11 h => ?_)
    refine cg_i2l C dL_least_8 ?_
    obtain ⟨hc_9, h⟩ := h
    refine cg_lastoreR C hc_9 dL_least_9 ?_
    refine cg_nm (fun S12 e_S12 => ?_)
    have h := h S12 e_S12
    refine cg_goto C 21 (by decide) dL_least_10 ?_
    refine cg_iconst C (x := nI 0) rfl dL_least_21 ?_
    obtain ⟨hb_22, h⟩ := h
    exact cg_iret C h dL_least_22 hb_22.1 hb_22.2
  · refine cg_callx_catch C htab (tx_X11_least l hlt "java/lang/IllegalArgumentException" mc1 ms2 x0 x1 x2 S dp h) cc_L_138 hc_5.1 hc_5.2 (by decide) rfl rfl ⟨by decide, by decide⟩ hm_ rfl (Nat.le_of_ble_eq_true rfl) dL_least_5 (tableOf []) ⟨0, 10, 13, 13⟩ (tableOf [(0, 10, 17, 15)]) rfl (fun z hz => nomatch hz) (by decide) (by decide) (name := "java/lang/IllegalArgumentException") ce_L_13 (by decide) 13 rfl (fun e4 S3 h => ?_)
    refine cg_astore (lv' := [(4, .ref e4), (0, .ref x0), (1, .int x1), (2, .int x2), (3, .ref x3)]) C (Nat.le_of_ble_eq_true rfl) rfl dL_least_13 ?_
    refine cg_iconst C (x := nI 1) rfl dL_least_15 ?_
    obtain ⟨hb_16, h⟩ := h
    exact cg_iret C h dL_least_16 hb_16.1 hb_16.2
  · refine cg_callx_catch C htab (tx_X11_least l hlt "java/lang/IllegalStateException" mc5 ms6 x0 x1 x2 S dp h) cc_L_138 hc_5.1 hc_5.2 (by decide) rfl rfl ⟨by decide, by decide⟩ hm_ rfl (Nat.le_of_ble_eq_true rfl) dL_least_5 (tableOf [(0, 10, 13, 13)]) ⟨0, 10, 17, 15⟩ (tableOf []) rfl (fun z hz => by
        rcases List.mem_cons.mp hz with rfl | hz
        · exact ⟨by decide, "java/lang/IllegalArgumentException", ce_L_13, by decide⟩
        exact nomatch hz) (by decide) (by decide) (name := "java/lang/IllegalStateException") ce_L_15 (by decide) 17 rfl (fun e8 S7 h => ?_)
    refine cg_astore (lv' := [(4, .ref e8), (0, .ref x0), (1, .int x1), (2, .int x2), (3, .ref x3)]) C (Nat.le_of_ble_eq_true rfl) rfl dL_least_17 ?_
    refine cg_iconst C (x := nI 2) rfl dL_least_19 ?_
    obtain ⟨hb_20, h⟩ := h
    exact cg_iret C h dL_least_20 hb_20.1 hb_20.2
def kw_L_but (Q : Int32 → cS → Prop) (dp : Nat) (mc ms : Nat) (x0 : Nat) (x1 : Nat) (S : cS) : Prop :=
cA S x0 11 ∧ ((((∃ mc5 ms6 : Nat, 0 + mc5 ≤ mc ∧ 0 + ms6 ≤ ms ∧ (k_X11_but (fun r_7 S_7 => 
cX S_7 x1 15 ((nI 0)) ∧ (∀ S8 : cS, S8 = cSJ S_7 x1 ((nI 0)).toNatClampNeg ((r_7).toInt64) → (0 + mc5 ≤ mc ∧ 0 + ms6 ≤ ms) ∧ (Q ((nI 0)) S8))) dp mc5 ms6 x0 S))) ∨
 (∃ mc1 ms2 : Nat, (0 + mc1 ≤ mc ∧ 0 + ms2 ≤ ms) ∧ kx_X11_but "java/lang/IllegalStateException" (fun S3 =>
(0 + mc1 ≤ mc ∧ 0 + ms2 ≤ ms) ∧ (Q ((nI 1)) S3)) dp mc1 ms2 x0 S)))
set_option maxHeartbeats 1000000 in
set_option maxRecDepth 20000 in
theorem tw_L_but (l : Launch) (hlt : l.stackTraces = false) (mc ms : Nat) (x0 : Nat) (x1 : Nat) (S : cS) (dp : Nat) {P : Int32 → cS → Prop} (h : kw_L_but P dp mc ms x0 x1 S) : cMetW (cQi P) l yL_but cL_but 3 (some .int) [(0, 8, 11, 15)] 10 mc ms 229 [.ref x0, .ref x1] S dp := by
  intro D Y tp sz
  refine cg_bodyW (by decide +kernel) (Nat.le_of_ble_eq_true rfl) ?_
  intro p e s m args below meth c C htab
  generalize va_A (cWd Y S) sz = A at C ⊢
  have C : cC p s m args meth c cL_but 3 (some .int) A D Y tp dp RL := C
  refine cg_lv (lv' := [(0, .ref x0), (1, .ref x1)]) rfl ?_
  unfold kw_L_but at h
  refine cg_aload_n C (i := 1) rfl 1 rfl dL_but_0 ?_
  refine cg_iconst C (x := nI 0) rfl dL_but_1 ?_
  refine cg_aload_n C (i := 0) rfl 0 rfl dL_but_2 ?_
  obtain ⟨hc_3, h⟩ := h
  rcases h with h | ⟨mc1, ms2, hm_, h⟩
  · obtain ⟨mc5, ms6, hm_1, hm_2, h⟩ := h
    refine cg_calli C (t_X11_but l mc5 ms6 x0 S dp h) cc_L_141 hc_3.1 hc_3.2 (by decide) rfl rfl ⟨by decide, by decide⟩ ⟨hm_1, hm_2⟩ rfl (Nat.le_of_ble_eq_true rfl) dL_but_3 (fun r_7 S_7 h => ?_)
    refine cg_i2l C dL_but_6 ?_
    obtain ⟨hc_7, h⟩ := h
    refine cg_lastoreR C hc_7 dL_but_7 ?_
    refine cg_nm (fun S8 e_S8 => ?_)
    have h := h S8 e_S8
    refine cg_goto C 14 (by decide) dL_but_8 ?_
    refine cg_iconst C (x := nI 0) rfl dL_but_14 ?_
    obtain ⟨hb_15, h⟩ := h
    exact cg_iret C h dL_but_15 hb_15.1 hb_15.2
  · refine cg_callx_catch C htab (tx_X11_but l hlt "java/lang/IllegalStateException" mc1 ms2 x0 S dp h) cc_L_141 hc_3.1 hc_3.2 (by decide) rfl rfl ⟨by decide, by decide⟩ hm_ rfl (Nat.le_of_ble_eq_true rfl) dL_but_3 (tableOf []) ⟨0, 8, 11, 15⟩ (tableOf []) rfl (fun z hz => nomatch hz) (by decide) (by decide) (name := "java/lang/IllegalStateException") ce_L_15 (by decide) 11 rfl (fun e4 S3 h => ?_)
    refine cg_astore_n (lv' := [(2, .ref e4), (0, .ref x0), (1, .ref x1)]) C (i := 2) rfl (Nat.le_of_ble_eq_true rfl) rfl dL_but_11 ?_
    refine cg_iconst C (x := nI 1) rfl dL_but_12 ?_
    obtain ⟨hb_13, h⟩ := h
    exact cg_iret C h dL_but_13 hb_13.1 hb_13.2
def kw_L_query (Q : Int32 → cS → Prop) (dp : Nat) (mc ms : Nat) (x0 : Nat) (x1 : Nat) (S : cS) : Prop :=
cA S x0 11 ∧ ((((∃ mc5 ms6 : Nat, 0 + mc5 ≤ mc ∧ 0 + ms6 ≤ ms ∧ (k_X11_query (fun r_7 S_7 => 
cX S_7 x1 15 ((nI 0)) ∧ (∀ S8 : cS, S8 = cSJ S_7 x1 ((nI 0)).toNatClampNeg ((r_7).toInt64) → (0 + mc5 ≤ mc ∧ 0 + ms6 ≤ ms) ∧ (Q ((nI 0)) S8))) dp mc5 ms6 x0 S))) ∨
 (∃ mc1 ms2 : Nat, (0 + mc1 ≤ mc ∧ 0 + ms2 ≤ ms) ∧ kx_X11_query "java/lang/IllegalStateException" (fun S3 =>
(0 + mc1 ≤ mc ∧ 0 + ms2 ≤ ms) ∧ (Q ((nI 1)) S3)) dp mc1 ms2 x0 S)))
set_option maxHeartbeats 1000000 in
set_option maxRecDepth 20000 in
theorem tw_L_query (l : Launch) (hlt : l.stackTraces = false) (mc ms : Nat) (x0 : Nat) (x1 : Nat) (S : cS) (dp : Nat) {P : Int32 → cS → Prop} (h : kw_L_query P dp mc ms x0 x1 S) : cMetW (cQi P) l yL_query cL_query 3 (some .int) [(0, 8, 11, 15)] 9 mc ms 208 [.ref x0, .ref x1] S dp := by
  intro D Y tp sz
  refine cg_bodyW (by decide +kernel) (Nat.le_of_ble_eq_true rfl) ?_
  intro p e s m args below meth c C htab
  generalize va_A (cWd Y S) sz = A at C ⊢
  have C : cC p s m args meth c cL_query 3 (some .int) A D Y tp dp RL := C
  refine cg_lv (lv' := [(0, .ref x0), (1, .ref x1)]) rfl ?_
  unfold kw_L_query at h
  refine cg_aload_n C (i := 1) rfl 1 rfl dL_query_0 ?_
  refine cg_iconst C (x := nI 0) rfl dL_query_1 ?_
  refine cg_aload_n C (i := 0) rfl 0 rfl dL_query_2 ?_
  obtain ⟨hc_3, h⟩ := h
  rcases h with h | ⟨mc1, ms2, hm_, h⟩
  · obtain ⟨mc5, ms6, hm_1, hm_2, h⟩ := h
    refine cg_calli C (t_X11_query l mc5 ms6 x0 S dp h) cc_L_144 hc_3.1 hc_3.2 (by decide) rfl rfl ⟨by decide, by decide⟩ ⟨hm_1, hm_2⟩ rfl (Nat.le_of_ble_eq_true rfl) dL_query_3 (fun r_7 S_7 h => ?_)
    refine cg_i2l C dL_query_6 ?_
    obtain ⟨hc_7, h⟩ := h
    refine cg_lastoreR C hc_7 dL_query_7 ?_
    refine cg_nm (fun S8 e_S8 => ?_)
    have h := h S8 e_S8
    refine cg_goto C 14 (by decide) dL_query_8 ?_
    refine cg_iconst C (x := nI 0) rfl dL_query_14 ?_
    obtain ⟨hb_15, h⟩ := h
    exact cg_iret C h dL_query_15 hb_15.1 hb_15.2
  · refine cg_callx_catch C htab (tx_X11_query l hlt "java/lang/IllegalStateException" mc1 ms2 x0 S dp h) cc_L_144 hc_3.1 hc_3.2 (by decide) rfl rfl ⟨by decide, by decide⟩ hm_ rfl (Nat.le_of_ble_eq_true rfl) dL_query_3 (tableOf []) ⟨0, 8, 11, 15⟩ (tableOf []) rfl (fun z hz => nomatch hz) (by decide) (by decide) (name := "java/lang/IllegalStateException") ce_L_15 (by decide) 11 rfl (fun e4 S3 h => ?_)
    refine cg_astore_n (lv' := [(2, .ref e4), (0, .ref x0), (1, .ref x1)]) C (i := 2) rfl (Nat.le_of_ble_eq_true rfl) rfl dL_query_11 ?_
    refine cg_iconst C (x := nI 1) rfl dL_query_12 ?_
    obtain ⟨hb_13, h⟩ := h
    exact cg_iret C h dL_query_13 hb_13.1 hb_13.2
def kw_L_weigh (Q : Int32 → cS → Prop) (dp : Nat) (mc ms : Nat) (x0 : Nat) (x1 : Int32) (x2 : Int32) (x3 : Nat) (S : cS) : Prop :=
cA S x0 11 ∧ ((((0 ≤ mc ∧ 0 ≤ ms) ∧ (k_X11_weigh (fun r_9 S_9 => 
cX S_9 x3 15 ((nI 0)) ∧ (∀ S10 : cS, S10 = cSJ S_9 x3 ((nI 0)).toNatClampNeg ((r_9).toInt64) → (0 ≤ mc ∧ 0 ≤ ms) ∧ (Q ((nI 0)) S10))) dp x0 x1 x2 S)) ∨
 (∃ mc1 ms2 : Nat, (0 + mc1 ≤ mc ∧ 0 + ms2 ≤ ms) ∧ kx_X11_weigh "java/lang/IndexOutOfBoundsException" (fun S3 =>
(0 + mc1 ≤ mc ∧ 0 + ms2 ≤ ms) ∧ (Q ((nI 1)) S3)) dp mc1 ms2 x0 x1 x2 S) ∨
 (∃ mc5 ms6 : Nat, (0 + mc5 ≤ mc ∧ 0 + ms6 ≤ ms) ∧ kx_X11_weigh "java/lang/IllegalArgumentException" (fun S7 =>
(0 + mc5 ≤ mc ∧ 0 + ms6 ≤ ms) ∧ (Q ((nI 2)) S7)) dp mc5 ms6 x0 x1 x2 S)))
set_option maxHeartbeats 1000000 in
set_option maxRecDepth 20000 in
theorem tw_L_weigh (l : Launch) (hlt : l.stackTraces = false) (mc ms : Nat) (x0 : Nat) (x1 : Int32) (x2 : Int32) (x3 : Nat) (S : cS) (dp : Nat) {P : Int32 → cS → Prop} (h : kw_L_weigh P dp mc ms x0 x1 x2 x3 S) : cMetW (cQi P) l yL_weigh cL_weigh 5 (some .int) [(0, 10, 13, 28), (0, 10, 17, 13)] 8 mc ms 125 [.ref x0, .int x1, .int x2, .ref x3] S dp := by
  intro D Y tp sz
  refine cg_bodyW (by decide +kernel) (Nat.le_of_ble_eq_true rfl) ?_
  intro p e s m args below meth c C htab
  generalize va_A (cWd Y S) sz = A at C ⊢
  have C : cC p s m args meth c cL_weigh 5 (some .int) A D Y tp dp RL := C
  refine cg_lv (lv' := [(0, .ref x0), (1, .int x1), (2, .int x2), (3, .ref x3)]) rfl ?_
  unfold kw_L_weigh at h
  refine cg_aload_n C (i := 3) rfl 3 rfl dL_weigh_0 ?_
  refine cg_iconst C (x := nI 0) rfl dL_weigh_1 ?_
  refine cg_aload_n C (i := 0) rfl 0 rfl dL_weigh_2 ?_
  refine cg_iload_n C (i := 1) rfl 1 rfl dL_weigh_3 ?_
  refine cg_iload_n C (i := 2) rfl 2 rfl dL_weigh_4 ?_
  obtain ⟨hc_5, h⟩ := h
  rcases h with h | ⟨mc1, ms2, hm_, h⟩ | ⟨mc5, ms6, hm_, h⟩
  · obtain ⟨hb_5, h⟩ := h
    refine cg_calli C (t_X11_weigh l x0 x1 x2 S dp h) cc_L_147 hc_5.1 hc_5.2 (by decide) rfl rfl ⟨by decide, by decide⟩ hb_5 rfl (Nat.le_of_ble_eq_true rfl) dL_weigh_5 (fun r_9 S_9 h => ?_)
    simp only [Nat.add_zero]
    refine cg_i2l C dL_weigh_8 ?_
    obtain ⟨hc_9, h⟩ := h
    refine cg_lastoreR C hc_9 dL_weigh_9 ?_
    refine cg_nm (fun S10 e_S10 => ?_)
    have h := h S10 e_S10
    refine cg_goto C 21 (by decide) dL_weigh_10 ?_
    refine cg_iconst C (x := nI 0) rfl dL_weigh_21 ?_
    obtain ⟨hb_22, h⟩ := h
    exact cg_iret C h dL_weigh_22 hb_22.1 hb_22.2
  · refine cg_callx_catch C htab (tx_X11_weigh l hlt "java/lang/IndexOutOfBoundsException" mc1 ms2 x0 x1 x2 S dp h) cc_L_147 hc_5.1 hc_5.2 (by decide) rfl rfl ⟨by decide, by decide⟩ hm_ rfl (Nat.le_of_ble_eq_true rfl) dL_weigh_5 (tableOf []) ⟨0, 10, 13, 28⟩ (tableOf [(0, 10, 17, 13)]) rfl (fun z hz => nomatch hz) (by decide) (by decide) (name := "java/lang/IndexOutOfBoundsException") ce_L_28 (by decide) 13 rfl (fun e4 S3 h => ?_)
    refine cg_astore (lv' := [(4, .ref e4), (0, .ref x0), (1, .int x1), (2, .int x2), (3, .ref x3)]) C (Nat.le_of_ble_eq_true rfl) rfl dL_weigh_13 ?_
    refine cg_iconst C (x := nI 1) rfl dL_weigh_15 ?_
    obtain ⟨hb_16, h⟩ := h
    exact cg_iret C h dL_weigh_16 hb_16.1 hb_16.2
  · refine cg_callx_catch C htab (tx_X11_weigh l hlt "java/lang/IllegalArgumentException" mc5 ms6 x0 x1 x2 S dp h) cc_L_147 hc_5.1 hc_5.2 (by decide) rfl rfl ⟨by decide, by decide⟩ hm_ rfl (Nat.le_of_ble_eq_true rfl) dL_weigh_5 (tableOf [(0, 10, 13, 28)]) ⟨0, 10, 17, 13⟩ (tableOf []) rfl (fun z hz => by
        rcases List.mem_cons.mp hz with rfl | hz
        · exact ⟨by decide, "java/lang/IndexOutOfBoundsException", ce_L_28, by decide⟩
        exact nomatch hz) (by decide) (by decide) (name := "java/lang/IllegalArgumentException") ce_L_13 (by decide) 17 rfl (fun e8 S7 h => ?_)
    refine cg_astore (lv' := [(4, .ref e8), (0, .ref x0), (1, .int x1), (2, .int x2), (3, .ref x3)]) C (Nat.le_of_ble_eq_true rfl) rfl dL_weigh_17 ?_
    refine cg_iconst C (x := nI 2) rfl dL_weigh_19 ?_
    obtain ⟨hb_20, h⟩ := h
    exact cg_iret C h dL_weigh_20 hb_20.1 hb_20.2
def kw_L_find (Q : Int32 → cS → Prop) (dp : Nat) (mc ms : Nat) (x0 : Nat) (x1 : Int32) (x2 : Int32) (x3 : Int32) (x4 : Nat) (S : cS) : Prop :=
cA S x0 11 ∧ ((((0 ≤ mc ∧ 0 ≤ ms) ∧ (k_X11_find (fun r_9 S_9 => 
cX S_9 x4 15 ((nI 0)) ∧ (∀ S10 : cS, S10 = cSJ S_9 x4 ((nI 0)).toNatClampNeg ((r_9).toInt64) → (0 ≤ mc ∧ 0 ≤ ms) ∧ (Q ((nI 0)) S10))) dp x0 x1 x2 x3 S)) ∨
 (∃ mc1 ms2 : Nat, (0 + mc1 ≤ mc ∧ 0 + ms2 ≤ ms) ∧ kx_X11_find "java/lang/IndexOutOfBoundsException" (fun S3 =>
(0 + mc1 ≤ mc ∧ 0 + ms2 ≤ ms) ∧ (Q ((nI 1)) S3)) dp mc1 ms2 x0 x1 x2 x3 S) ∨
 (∃ mc5 ms6 : Nat, (0 + mc5 ≤ mc ∧ 0 + ms6 ≤ ms) ∧ kx_X11_find "java/lang/IllegalArgumentException" (fun S7 =>
(0 + mc5 ≤ mc ∧ 0 + ms6 ≤ ms) ∧ (Q ((nI 2)) S7)) dp mc5 ms6 x0 x1 x2 x3 S)))
set_option maxHeartbeats 1000000 in
set_option maxRecDepth 20000 in
theorem tw_L_find (l : Launch) (hlt : l.stackTraces = false) (mc ms : Nat) (x0 : Nat) (x1 : Int32) (x2 : Int32) (x3 : Int32) (x4 : Nat) (S : cS) (dp : Nat) {P : Int32 → cS → Prop} (h : kw_L_find P dp mc ms x0 x1 x2 x3 x4 S) : cMetW (cQi P) l yL_find cL_find 6 (some .int) [(0, 12, 15, 28), (0, 12, 19, 13)] 9 mc ms 220 [.ref x0, .int x1, .int x2, .int x3, .ref x4] S dp := by
  intro D Y tp sz
  refine cg_bodyW (by decide +kernel) (Nat.le_of_ble_eq_true rfl) ?_
  intro p e s m args below meth c C htab
  generalize va_A (cWd Y S) sz = A at C ⊢
  have C : cC p s m args meth c cL_find 6 (some .int) A D Y tp dp RL := C
  refine cg_lv (lv' := [(0, .ref x0), (1, .int x1), (2, .int x2), (3, .int x3), (4, .ref x4)]) rfl ?_
  unfold kw_L_find at h
  refine cg_aload C 4 rfl dL_find_0 ?_
  refine cg_iconst C (x := nI 0) rfl dL_find_2 ?_
  refine cg_aload_n C (i := 0) rfl 0 rfl dL_find_3 ?_
  refine cg_iload_n C (i := 1) rfl 1 rfl dL_find_4 ?_
  refine cg_iload_n C (i := 2) rfl 2 rfl dL_find_5 ?_
  refine cg_iload_n C (i := 3) rfl 3 rfl dL_find_6 ?_
  obtain ⟨hc_7, h⟩ := h
  rcases h with h | ⟨mc1, ms2, hm_, h⟩ | ⟨mc5, ms6, hm_, h⟩
  · obtain ⟨hb_7, h⟩ := h
    refine cg_calli C (t_X11_find l x0 x1 x2 x3 S dp h) cc_L_150 hc_7.1 hc_7.2 (by decide) rfl rfl ⟨by decide, by decide⟩ hb_7 rfl (Nat.le_of_ble_eq_true rfl) dL_find_7 (fun r_9 S_9 h => ?_)
    simp only [Nat.add_zero]
    refine cg_i2l C dL_find_10 ?_
    obtain ⟨hc_11, h⟩ := h
    refine cg_lastoreR C hc_11 dL_find_11 ?_
    refine cg_nm (fun S10 e_S10 => ?_)
    have h := h S10 e_S10
    refine cg_goto C 23 (by decide) dL_find_12 ?_
    refine cg_iconst C (x := nI 0) rfl dL_find_23 ?_
    obtain ⟨hb_24, h⟩ := h
    exact cg_iret C h dL_find_24 hb_24.1 hb_24.2
  · refine cg_callx_catch C htab (tx_X11_find l hlt "java/lang/IndexOutOfBoundsException" mc1 ms2 x0 x1 x2 x3 S dp h) cc_L_150 hc_7.1 hc_7.2 (by decide) rfl rfl ⟨by decide, by decide⟩ hm_ rfl (Nat.le_of_ble_eq_true rfl) dL_find_7 (tableOf []) ⟨0, 12, 15, 28⟩ (tableOf [(0, 12, 19, 13)]) rfl (fun z hz => nomatch hz) (by decide) (by decide) (name := "java/lang/IndexOutOfBoundsException") ce_L_28 (by decide) 15 rfl (fun e4 S3 h => ?_)
    refine cg_astore (lv' := [(5, .ref e4), (0, .ref x0), (1, .int x1), (2, .int x2), (3, .int x3), (4, .ref x4)]) C (Nat.le_of_ble_eq_true rfl) rfl dL_find_15 ?_
    refine cg_iconst C (x := nI 1) rfl dL_find_17 ?_
    obtain ⟨hb_18, h⟩ := h
    exact cg_iret C h dL_find_18 hb_18.1 hb_18.2
  · refine cg_callx_catch C htab (tx_X11_find l hlt "java/lang/IllegalArgumentException" mc5 ms6 x0 x1 x2 x3 S dp h) cc_L_150 hc_7.1 hc_7.2 (by decide) rfl rfl ⟨by decide, by decide⟩ hm_ rfl (Nat.le_of_ble_eq_true rfl) dL_find_7 (tableOf [(0, 12, 15, 28)]) ⟨0, 12, 19, 13⟩ (tableOf []) rfl (fun z hz => by
        rcases List.mem_cons.mp hz with rfl | hz
        · exact ⟨by decide, "java/lang/IndexOutOfBoundsException", ce_L_28, by decide⟩
        exact nomatch hz) (by decide) (by decide) (name := "java/lang/IllegalArgumentException") ce_L_13 (by decide) 19 rfl (fun e8 S7 h => ?_)
    refine cg_astore (lv' := [(5, .ref e8), (0, .ref x0), (1, .int x1), (2, .int x2), (3, .int x3), (4, .ref x4)]) C (Nat.le_of_ble_eq_true rfl) rfl dL_find_19 ?_
    refine cg_iconst C (x := nI 2) rfl dL_find_21 ?_
    obtain ⟨hb_22, h⟩ := h
    exact cg_iret C h dL_find_22 hb_22.1 hb_22.2
def kw_L_hitAt (Q : Int32 → cS → Prop) (dp : Nat) (mc ms : Nat) (x0 : Nat) (x1 : Int32) (x2 : Nat) (S : cS) : Prop :=
cA S x0 11 ∧ ((((0 ≤ mc ∧ 0 ≤ ms) ∧ (k_X11_hitAt (fun r_5 S_5 => 
cX S_5 x2 15 ((nI 0)) ∧ (∀ S6 : cS, S6 = cSJ S_5 x2 ((nI 0)).toNatClampNeg ((r_5).toInt64) → (0 ≤ mc ∧ 0 ≤ ms) ∧ (Q ((nI 0)) S6))) dp x0 x1 S)) ∨
 (∃ mc1 ms2 : Nat, (0 + mc1 ≤ mc ∧ 0 + ms2 ≤ ms) ∧ kx_X11_hitAt "java/lang/IndexOutOfBoundsException" (fun S3 =>
(0 + mc1 ≤ mc ∧ 0 + ms2 ≤ ms) ∧ (Q ((nI 1)) S3)) dp mc1 ms2 x0 x1 S)))
set_option maxHeartbeats 1000000 in
set_option maxRecDepth 20000 in
theorem tw_L_hitAt (l : Launch) (hlt : l.stackTraces = false) (mc ms : Nat) (x0 : Nat) (x1 : Int32) (x2 : Nat) (S : cS) (dp : Nat) {P : Int32 → cS → Prop} (h : kw_L_hitAt P dp mc ms x0 x1 x2 S) : cMetW (cQi P) l yL_hitAt cL_hitAt 4 (some .int) [(0, 9, 12, 28)] 8 mc ms 124 [.ref x0, .int x1, .ref x2] S dp := by
  intro D Y tp sz
  refine cg_bodyW (by decide +kernel) (Nat.le_of_ble_eq_true rfl) ?_
  intro p e s m args below meth c C htab
  generalize va_A (cWd Y S) sz = A at C ⊢
  have C : cC p s m args meth c cL_hitAt 4 (some .int) A D Y tp dp RL := C
  refine cg_lv (lv' := [(0, .ref x0), (1, .int x1), (2, .ref x2)]) rfl ?_
  unfold kw_L_hitAt at h
  refine cg_aload_n C (i := 2) rfl 2 rfl dL_hitAt_0 ?_
  refine cg_iconst C (x := nI 0) rfl dL_hitAt_1 ?_
  refine cg_aload_n C (i := 0) rfl 0 rfl dL_hitAt_2 ?_
  refine cg_iload_n C (i := 1) rfl 1 rfl dL_hitAt_3 ?_
  obtain ⟨hc_4, h⟩ := h
  rcases h with h | ⟨mc1, ms2, hm_, h⟩
  · obtain ⟨hb_4, h⟩ := h
    refine cg_calli C (t_X11_hitAt l x0 x1 S dp h) cc_L_153 hc_4.1 hc_4.2 (by decide) rfl rfl ⟨by decide, by decide⟩ hb_4 rfl (Nat.le_of_ble_eq_true rfl) dL_hitAt_4 (fun r_5 S_5 h => ?_)
    simp only [Nat.add_zero]
    refine cg_i2l C dL_hitAt_7 ?_
    obtain ⟨hc_8, h⟩ := h
    refine cg_lastoreR C hc_8 dL_hitAt_8 ?_
    refine cg_nm (fun S6 e_S6 => ?_)
    have h := h S6 e_S6
    refine cg_goto C 15 (by decide) dL_hitAt_9 ?_
    refine cg_iconst C (x := nI 0) rfl dL_hitAt_15 ?_
    obtain ⟨hb_16, h⟩ := h
    exact cg_iret C h dL_hitAt_16 hb_16.1 hb_16.2
  · refine cg_callx_catch C htab (tx_X11_hitAt l hlt "java/lang/IndexOutOfBoundsException" mc1 ms2 x0 x1 S dp h) cc_L_153 hc_4.1 hc_4.2 (by decide) rfl rfl ⟨by decide, by decide⟩ hm_ rfl (Nat.le_of_ble_eq_true rfl) dL_hitAt_4 (tableOf []) ⟨0, 9, 12, 28⟩ (tableOf []) rfl (fun z hz => nomatch hz) (by decide) (by decide) (name := "java/lang/IndexOutOfBoundsException") ce_L_28 (by decide) 12 rfl (fun e4 S3 h => ?_)
    refine cg_astore_n (lv' := [(3, .ref e4), (0, .ref x0), (1, .int x1), (2, .ref x2)]) C (i := 3) rfl (Nat.le_of_ble_eq_true rfl) rfl dL_hitAt_12 ?_
    refine cg_iconst C (x := nI 1) rfl dL_hitAt_13 ?_
    obtain ⟨hb_14, h⟩ := h
    exact cg_iret C h dL_hitAt_14 hb_14.1 hb_14.2
def kw_L_rankAt (Q : Int32 → cS → Prop) (dp : Nat) (mc ms : Nat) (x0 : Nat) (x1 : Int32) (x2 : Nat) (S : cS) : Prop :=
cA S x0 11 ∧ ((((0 ≤ mc ∧ 0 ≤ ms) ∧ (k_X11_rankAt (fun r_5 S_5 => 
cX S_5 x2 15 ((nI 0)) ∧ (∀ S6 : cS, S6 = cSJ S_5 x2 ((nI 0)).toNatClampNeg ((r_5).toInt64) → (0 ≤ mc ∧ 0 ≤ ms) ∧ (Q ((nI 0)) S6))) dp x0 x1 S)) ∨
 (∃ mc1 ms2 : Nat, (0 + mc1 ≤ mc ∧ 0 + ms2 ≤ ms) ∧ kx_X11_rankAt "java/lang/IndexOutOfBoundsException" (fun S3 =>
(0 + mc1 ≤ mc ∧ 0 + ms2 ≤ ms) ∧ (Q ((nI 1)) S3)) dp mc1 ms2 x0 x1 S)))
set_option maxHeartbeats 1000000 in
set_option maxRecDepth 20000 in
theorem tw_L_rankAt (l : Launch) (hlt : l.stackTraces = false) (mc ms : Nat) (x0 : Nat) (x1 : Int32) (x2 : Nat) (S : cS) (dp : Nat) {P : Int32 → cS → Prop} (h : kw_L_rankAt P dp mc ms x0 x1 x2 S) : cMetW (cQi P) l yL_rankAt cL_rankAt 4 (some .int) [(0, 9, 12, 28)] 8 mc ms 124 [.ref x0, .int x1, .ref x2] S dp := by
  intro D Y tp sz
  refine cg_bodyW (by decide +kernel) (Nat.le_of_ble_eq_true rfl) ?_
  intro p e s m args below meth c C htab
  generalize va_A (cWd Y S) sz = A at C ⊢
  have C : cC p s m args meth c cL_rankAt 4 (some .int) A D Y tp dp RL := C
  refine cg_lv (lv' := [(0, .ref x0), (1, .int x1), (2, .ref x2)]) rfl ?_
  unfold kw_L_rankAt at h
  refine cg_aload_n C (i := 2) rfl 2 rfl dL_rankAt_0 ?_
  refine cg_iconst C (x := nI 0) rfl dL_rankAt_1 ?_
  refine cg_aload_n C (i := 0) rfl 0 rfl dL_rankAt_2 ?_
  refine cg_iload_n C (i := 1) rfl 1 rfl dL_rankAt_3 ?_
  obtain ⟨hc_4, h⟩ := h
  rcases h with h | ⟨mc1, ms2, hm_, h⟩
  · obtain ⟨hb_4, h⟩ := h
    refine cg_calli C (t_X11_rankAt l x0 x1 S dp h) cc_L_156 hc_4.1 hc_4.2 (by decide) rfl rfl ⟨by decide, by decide⟩ hb_4 rfl (Nat.le_of_ble_eq_true rfl) dL_rankAt_4 (fun r_5 S_5 h => ?_)
    simp only [Nat.add_zero]
    refine cg_i2l C dL_rankAt_7 ?_
    obtain ⟨hc_8, h⟩ := h
    refine cg_lastoreR C hc_8 dL_rankAt_8 ?_
    refine cg_nm (fun S6 e_S6 => ?_)
    have h := h S6 e_S6
    refine cg_goto C 15 (by decide) dL_rankAt_9 ?_
    refine cg_iconst C (x := nI 0) rfl dL_rankAt_15 ?_
    obtain ⟨hb_16, h⟩ := h
    exact cg_iret C h dL_rankAt_16 hb_16.1 hb_16.2
  · refine cg_callx_catch C htab (tx_X11_rankAt l hlt "java/lang/IndexOutOfBoundsException" mc1 ms2 x0 x1 S dp h) cc_L_156 hc_4.1 hc_4.2 (by decide) rfl rfl ⟨by decide, by decide⟩ hm_ rfl (Nat.le_of_ble_eq_true rfl) dL_rankAt_4 (tableOf []) ⟨0, 9, 12, 28⟩ (tableOf []) rfl (fun z hz => nomatch hz) (by decide) (by decide) (name := "java/lang/IndexOutOfBoundsException") ce_L_28 (by decide) 12 rfl (fun e4 S3 h => ?_)
    refine cg_astore_n (lv' := [(3, .ref e4), (0, .ref x0), (1, .int x1), (2, .ref x2)]) C (i := 3) rfl (Nat.le_of_ble_eq_true rfl) rfl dL_rankAt_12 ?_
    refine cg_iconst C (x := nI 1) rfl dL_rankAt_13 ?_
    obtain ⟨hb_14, h⟩ := h
    exact cg_iret C h dL_rankAt_14 hb_14.1 hb_14.2
def kw_L_rankByScan (Q : Int32 → cS → Prop) (dp : Nat) (mc ms : Nat) (x0 : Nat) (x1 : Int32) (x2 : Int32) (x3 : Int32) (x4 : Nat) (S : cS) : Prop :=
cA S x0 11 ∧ ((((0 ≤ mc ∧ 0 ≤ ms) ∧ (k_X11_rankByScan (fun r_5 S_5 => 
cX S_5 x4 15 ((nI 0)) ∧ (∀ S6 : cS, S6 = cSJ S_5 x4 ((nI 0)).toNatClampNeg ((r_5).toInt64) → (0 ≤ mc ∧ 0 ≤ ms) ∧ (Q ((nI 0)) S6))) dp x0 x1 x2 x3 S)) ∨
 (∃ mc1 ms2 : Nat, (0 + mc1 ≤ mc ∧ 0 + ms2 ≤ ms) ∧ kx_X11_rankByScan "java/lang/IndexOutOfBoundsException" (fun S3 =>
(0 + mc1 ≤ mc ∧ 0 + ms2 ≤ ms) ∧ (Q ((nI 1)) S3)) dp mc1 ms2 x0 x1 x2 x3 S)))
set_option maxHeartbeats 1000000 in
set_option maxRecDepth 20000 in
theorem tw_L_rankByScan (l : Launch) (hlt : l.stackTraces = false) (mc ms : Nat) (x0 : Nat) (x1 : Int32) (x2 : Int32) (x3 : Int32) (x4 : Nat) (S : cS) (dp : Nat) {P : Int32 → cS → Prop} (h : kw_L_rankByScan P dp mc ms x0 x1 x2 x3 x4 S) : cMetW (cQi P) l yL_rankByScan cL_rankByScan 6 (some .int) [(0, 12, 15, 28)] 8 mc ms 164 [.ref x0, .int x1, .int x2, .int x3, .ref x4] S dp := by
  intro D Y tp sz
  refine cg_bodyW (by decide +kernel) (Nat.le_of_ble_eq_true rfl) ?_
  intro p e s m args below meth c C htab
  generalize va_A (cWd Y S) sz = A at C ⊢
  have C : cC p s m args meth c cL_rankByScan 6 (some .int) A D Y tp dp RL := C
  refine cg_lv (lv' := [(0, .ref x0), (1, .int x1), (2, .int x2), (3, .int x3), (4, .ref x4)]) rfl ?_
  unfold kw_L_rankByScan at h
  refine cg_aload C 4 rfl dL_rankByScan_0 ?_
  refine cg_iconst C (x := nI 0) rfl dL_rankByScan_2 ?_
  refine cg_aload_n C (i := 0) rfl 0 rfl dL_rankByScan_3 ?_
  refine cg_iload_n C (i := 1) rfl 1 rfl dL_rankByScan_4 ?_
  refine cg_iload_n C (i := 2) rfl 2 rfl dL_rankByScan_5 ?_
  refine cg_iload_n C (i := 3) rfl 3 rfl dL_rankByScan_6 ?_
  obtain ⟨hc_7, h⟩ := h
  rcases h with h | ⟨mc1, ms2, hm_, h⟩
  · obtain ⟨hb_7, h⟩ := h
    refine cg_calli C (t_X11_rankByScan l x0 x1 x2 x3 S dp h) cc_L_159 hc_7.1 hc_7.2 (by decide) rfl rfl ⟨by decide, by decide⟩ hb_7 rfl (Nat.le_of_ble_eq_true rfl) dL_rankByScan_7 (fun r_5 S_5 h => ?_)
    simp only [Nat.add_zero]
    refine cg_i2l C dL_rankByScan_10 ?_
    obtain ⟨hc_11, h⟩ := h
    refine cg_lastoreR C hc_11 dL_rankByScan_11 ?_
    refine cg_nm (fun S6 e_S6 => ?_)
    have h := h S6 e_S6
    refine cg_goto C 19 (by decide) dL_rankByScan_12 ?_
    refine cg_iconst C (x := nI 0) rfl dL_rankByScan_19 ?_
    obtain ⟨hb_20, h⟩ := h
    exact cg_iret C h dL_rankByScan_20 hb_20.1 hb_20.2
  · refine cg_callx_catch C htab (tx_X11_rankByScan l hlt "java/lang/IndexOutOfBoundsException" mc1 ms2 x0 x1 x2 x3 S dp h) cc_L_159 hc_7.1 hc_7.2 (by decide) rfl rfl ⟨by decide, by decide⟩ hm_ rfl (Nat.le_of_ble_eq_true rfl) dL_rankByScan_7 (tableOf []) ⟨0, 12, 15, 28⟩ (tableOf []) rfl (fun z hz => nomatch hz) (by decide) (by decide) (name := "java/lang/IndexOutOfBoundsException") ce_L_28 (by decide) 15 rfl (fun e4 S3 h => ?_)
    refine cg_astore (lv' := [(5, .ref e4), (0, .ref x0), (1, .int x1), (2, .int x2), (3, .int x3), (4, .ref x4)]) C (Nat.le_of_ble_eq_true rfl) rfl dL_rankByScan_15 ?_
    refine cg_iconst C (x := nI 1) rfl dL_rankByScan_17 ?_
    obtain ⟨hb_18, h⟩ := h
    exact cg_iret C h dL_rankByScan_18 hb_18.1 hb_18.2
def kw_L_matches (Q : Int32 → cS → Prop) (dp : Nat) (mc ms : Nat) (x0 : Nat) (x1 : Int32) (x2 : Int32) (x3 : Nat) (S : cS) : Prop :=
cA S x0 11 ∧ ((((∃ mc5 ms6 : Nat, 0 + mc5 ≤ mc ∧ 0 + ms6 ≤ ms ∧ (k_X11_matches (fun r_7 S_7 => 
cX S_7 x3 15 ((nI 0)) ∧ (∀ S8 : cS, S8 = cSJ S_7 x3 ((nI 0)).toNatClampNeg ((r_7).toInt64) → (0 + mc5 ≤ mc ∧ 0 + ms6 ≤ ms) ∧ (Q ((nI 0)) S8))) dp mc5 ms6 x0 x1 x2 S))) ∨
 (∃ mc1 ms2 : Nat, (0 + mc1 ≤ mc ∧ 0 + ms2 ≤ ms) ∧ kx_X11_matches "java/lang/IndexOutOfBoundsException" (fun S3 =>
(0 + mc1 ≤ mc ∧ 0 + ms2 ≤ ms) ∧ (Q ((nI 1)) S3)) dp mc1 ms2 x0 x1 x2 S)))
set_option maxHeartbeats 1000000 in
set_option maxRecDepth 20000 in
theorem tw_L_matches (l : Launch) (hlt : l.stackTraces = false) (mc ms : Nat) (x0 : Nat) (x1 : Int32) (x2 : Int32) (x3 : Nat) (S : cS) (dp : Nat) {P : Int32 → cS → Prop} (h : kw_L_matches P dp mc ms x0 x1 x2 x3 S) : cMetW (cQi P) l yL_matches cL_matches 5 (some .int) [(0, 10, 13, 28)] 10 mc ms 238 [.ref x0, .int x1, .int x2, .ref x3] S dp := by
  intro D Y tp sz
  refine cg_bodyW (by decide +kernel) (Nat.le_of_ble_eq_true rfl) ?_
  intro p e s m args below meth c C htab
  generalize va_A (cWd Y S) sz = A at C ⊢
  have C : cC p s m args meth c cL_matches 5 (some .int) A D Y tp dp RL := C
  refine cg_lv (lv' := [(0, .ref x0), (1, .int x1), (2, .int x2), (3, .ref x3)]) rfl ?_
  unfold kw_L_matches at h
  refine cg_aload_n C (i := 3) rfl 3 rfl dL_matches_0 ?_
  refine cg_iconst C (x := nI 0) rfl dL_matches_1 ?_
  refine cg_aload_n C (i := 0) rfl 0 rfl dL_matches_2 ?_
  refine cg_iload_n C (i := 1) rfl 1 rfl dL_matches_3 ?_
  refine cg_iload_n C (i := 2) rfl 2 rfl dL_matches_4 ?_
  obtain ⟨hc_5, h⟩ := h
  rcases h with h | ⟨mc1, ms2, hm_, h⟩
  · obtain ⟨mc5, ms6, hm_1, hm_2, h⟩ := h
    refine cg_calli C (t_X11_matches l mc5 ms6 x0 x1 x2 S dp h) cc_L_162 hc_5.1 hc_5.2 (by decide) rfl rfl ⟨by decide, by decide⟩ ⟨hm_1, hm_2⟩ rfl (Nat.le_of_ble_eq_true rfl) dL_matches_5 (fun r_7 S_7 h => ?_)
    refine cg_i2l C dL_matches_8 ?_
    obtain ⟨hc_9, h⟩ := h
    refine cg_lastoreR C hc_9 dL_matches_9 ?_
    refine cg_nm (fun S8 e_S8 => ?_)
    have h := h S8 e_S8
    refine cg_goto C 17 (by decide) dL_matches_10 ?_
    refine cg_iconst C (x := nI 0) rfl dL_matches_17 ?_
    obtain ⟨hb_18, h⟩ := h
    exact cg_iret C h dL_matches_18 hb_18.1 hb_18.2
  · refine cg_callx_catch C htab (tx_X11_matches l hlt "java/lang/IndexOutOfBoundsException" mc1 ms2 x0 x1 x2 S dp h) cc_L_162 hc_5.1 hc_5.2 (by decide) rfl rfl ⟨by decide, by decide⟩ hm_ rfl (Nat.le_of_ble_eq_true rfl) dL_matches_5 (tableOf []) ⟨0, 10, 13, 28⟩ (tableOf []) rfl (fun z hz => nomatch hz) (by decide) (by decide) (name := "java/lang/IndexOutOfBoundsException") ce_L_28 (by decide) 13 rfl (fun e4 S3 h => ?_)
    refine cg_astore (lv' := [(4, .ref e4), (0, .ref x0), (1, .int x1), (2, .int x2), (3, .ref x3)]) C (Nat.le_of_ble_eq_true rfl) rfl dL_matches_13 ?_
    refine cg_iconst C (x := nI 1) rfl dL_matches_15 ?_
    obtain ⟨hb_16, h⟩ := h
    exact cg_iret C h dL_matches_16 hb_16.1 hb_16.2
def kw_L_matchesByScan (Q : Int32 → cS → Prop) (dp : Nat) (mc ms : Nat) (x0 : Nat) (x1 : Int32) (x2 : Int32) (x3 : Nat) (S : cS) : Prop :=
cA S x0 11 ∧ ((((0 ≤ mc ∧ 0 ≤ ms) ∧ (k_X11_matchesByScan (fun r_5 S_5 => 
cX S_5 x3 15 ((nI 0)) ∧ (∀ S6 : cS, S6 = cSJ S_5 x3 ((nI 0)).toNatClampNeg ((r_5).toInt64) → (0 ≤ mc ∧ 0 ≤ ms) ∧ (Q ((nI 0)) S6))) dp x0 x1 x2 S)) ∨
 (∃ mc1 ms2 : Nat, (0 + mc1 ≤ mc ∧ 0 + ms2 ≤ ms) ∧ kx_X11_matchesByScan "java/lang/IndexOutOfBoundsException" (fun S3 =>
(0 + mc1 ≤ mc ∧ 0 + ms2 ≤ ms) ∧ (Q ((nI 1)) S3)) dp mc1 ms2 x0 x1 x2 S)))
set_option maxHeartbeats 1000000 in
set_option maxRecDepth 20000 in
theorem tw_L_matchesByScan (l : Launch) (hlt : l.stackTraces = false) (mc ms : Nat) (x0 : Nat) (x1 : Int32) (x2 : Int32) (x3 : Nat) (S : cS) (dp : Nat) {P : Int32 → cS → Prop} (h : kw_L_matchesByScan P dp mc ms x0 x1 x2 x3 S) : cMetW (cQi P) l yL_matchesByScan cL_matchesByScan 5 (some .int) [(0, 10, 13, 28)] 8 mc ms 181 [.ref x0, .int x1, .int x2, .ref x3] S dp := by
  intro D Y tp sz
  refine cg_bodyW (by decide +kernel) (Nat.le_of_ble_eq_true rfl) ?_
  intro p e s m args below meth c C htab
  generalize va_A (cWd Y S) sz = A at C ⊢
  have C : cC p s m args meth c cL_matchesByScan 5 (some .int) A D Y tp dp RL := C
  refine cg_lv (lv' := [(0, .ref x0), (1, .int x1), (2, .int x2), (3, .ref x3)]) rfl ?_
  unfold kw_L_matchesByScan at h
  refine cg_aload_n C (i := 3) rfl 3 rfl dL_matchesByScan_0 ?_
  refine cg_iconst C (x := nI 0) rfl dL_matchesByScan_1 ?_
  refine cg_aload_n C (i := 0) rfl 0 rfl dL_matchesByScan_2 ?_
  refine cg_iload_n C (i := 1) rfl 1 rfl dL_matchesByScan_3 ?_
  refine cg_iload_n C (i := 2) rfl 2 rfl dL_matchesByScan_4 ?_
  obtain ⟨hc_5, h⟩ := h
  rcases h with h | ⟨mc1, ms2, hm_, h⟩
  · obtain ⟨hb_5, h⟩ := h
    refine cg_calli C (t_X11_matchesByScan l x0 x1 x2 S dp h) cc_L_165 hc_5.1 hc_5.2 (by decide) rfl rfl ⟨by decide, by decide⟩ hb_5 rfl (Nat.le_of_ble_eq_true rfl) dL_matchesByScan_5 (fun r_5 S_5 h => ?_)
    simp only [Nat.add_zero]
    refine cg_i2l C dL_matchesByScan_8 ?_
    obtain ⟨hc_9, h⟩ := h
    refine cg_lastoreR C hc_9 dL_matchesByScan_9 ?_
    refine cg_nm (fun S6 e_S6 => ?_)
    have h := h S6 e_S6
    refine cg_goto C 17 (by decide) dL_matchesByScan_10 ?_
    refine cg_iconst C (x := nI 0) rfl dL_matchesByScan_17 ?_
    obtain ⟨hb_18, h⟩ := h
    exact cg_iret C h dL_matchesByScan_18 hb_18.1 hb_18.2
  · refine cg_callx_catch C htab (tx_X11_matchesByScan l hlt "java/lang/IndexOutOfBoundsException" mc1 ms2 x0 x1 x2 S dp h) cc_L_165 hc_5.1 hc_5.2 (by decide) rfl rfl ⟨by decide, by decide⟩ hm_ rfl (Nat.le_of_ble_eq_true rfl) dL_matchesByScan_5 (tableOf []) ⟨0, 10, 13, 28⟩ (tableOf []) rfl (fun z hz => nomatch hz) (by decide) (by decide) (name := "java/lang/IndexOutOfBoundsException") ce_L_28 (by decide) 13 rfl (fun e4 S3 h => ?_)
    refine cg_astore (lv' := [(4, .ref e4), (0, .ref x0), (1, .int x1), (2, .int x2), (3, .ref x3)]) C (Nat.le_of_ble_eq_true rfl) rfl dL_matchesByScan_13 ?_
    refine cg_iconst C (x := nI 1) rfl dL_matchesByScan_15 ?_
    obtain ⟨hb_16, h⟩ := h
    exact cg_iret C h dL_matchesByScan_16 hb_16.1 hb_16.2
def kw_L_facet (Q : Int32 → cS → Prop) (dp : Nat) (mc ms : Nat) (x0 : Nat) (x1 : Int32) (x2 : Int32) (x3 : Int32) (x4 : Nat) (S : cS) : Prop :=
cA S x0 11 ∧ ((((∃ mc9 ms10 : Nat, 0 + mc9 ≤ mc ∧ 0 + ms10 ≤ ms ∧ (k_X11_facet (fun r_11 S_11 => 
cX S_11 x4 15 ((nI 0)) ∧ (∀ S12 : cS, S12 = cSJ S_11 x4 ((nI 0)).toNatClampNeg ((r_11).toInt64) → (0 + mc9 ≤ mc ∧ 0 + ms10 ≤ ms) ∧ (Q ((nI 0)) S12))) dp mc9 ms10 x0 x1 x2 x3 S))) ∨
 (∃ mc1 ms2 : Nat, (0 + mc1 ≤ mc ∧ 0 + ms2 ≤ ms) ∧ kx_X11_facet "java/lang/IndexOutOfBoundsException" (fun S3 =>
(0 + mc1 ≤ mc ∧ 0 + ms2 ≤ ms) ∧ (Q ((nI 1)) S3)) dp mc1 ms2 x0 x1 x2 x3 S) ∨
 (∃ mc5 ms6 : Nat, (0 + mc5 ≤ mc ∧ 0 + ms6 ≤ ms) ∧ kx_X11_facet "java/lang/IllegalArgumentException" (fun S7 =>
(0 + mc5 ≤ mc ∧ 0 + ms6 ≤ ms) ∧ (Q ((nI 2)) S7)) dp mc5 ms6 x0 x1 x2 x3 S)))
set_option maxHeartbeats 1000000 in
set_option maxRecDepth 20000 in
theorem tw_L_facet (l : Launch) (hlt : l.stackTraces = false) (mc ms : Nat) (x0 : Nat) (x1 : Int32) (x2 : Int32) (x3 : Int32) (x4 : Nat) (S : cS) (dp : Nat) {P : Int32 → cS → Prop} (h : kw_L_facet P dp mc ms x0 x1 x2 x3 x4 S) : cMetW (cQi P) l yL_facet cL_facet 6 (some .int) [(0, 12, 15, 28), (0, 12, 19, 13)] 10 mc ms 242 [.ref x0, .int x1, .int x2, .int x3, .ref x4] S dp := by
  intro D Y tp sz
  refine cg_bodyW (by decide +kernel) (Nat.le_of_ble_eq_true rfl) ?_
  intro p e s m args below meth c C htab
  generalize va_A (cWd Y S) sz = A at C ⊢
  have C : cC p s m args meth c cL_facet 6 (some .int) A D Y tp dp RL := C
  refine cg_lv (lv' := [(0, .ref x0), (1, .int x1), (2, .int x2), (3, .int x3), (4, .ref x4)]) rfl ?_
  unfold kw_L_facet at h
  refine cg_aload C 4 rfl dL_facet_0 ?_
  refine cg_iconst C (x := nI 0) rfl dL_facet_2 ?_
  refine cg_aload_n C (i := 0) rfl 0 rfl dL_facet_3 ?_
  refine cg_iload_n C (i := 1) rfl 1 rfl dL_facet_4 ?_
  refine cg_iload_n C (i := 2) rfl 2 rfl dL_facet_5 ?_
  refine cg_iload_n C (i := 3) rfl 3 rfl dL_facet_6 ?_
  obtain ⟨hc_7, h⟩ := h
  rcases h with h | ⟨mc1, ms2, hm_, h⟩ | ⟨mc5, ms6, hm_, h⟩
  · obtain ⟨mc9, ms10, hm_1, hm_2, h⟩ := h
    refine cg_calli C (t_X11_facet l mc9 ms10 x0 x1 x2 x3 S dp h) cc_L_168 hc_7.1 hc_7.2 (by decide) rfl rfl ⟨by decide, by decide⟩ ⟨hm_1, hm_2⟩ rfl (Nat.le_of_ble_eq_true rfl) dL_facet_7 (fun r_11 S_11 h => ?_)
    refine cg_i2l C dL_facet_10 ?_
    obtain ⟨hc_11, h⟩ := h
    refine cg_lastoreR C hc_11 dL_facet_11 ?_
    refine cg_nm (fun S12 e_S12 => ?_)
    have h := h S12 e_S12
    refine cg_goto C 23 (by decide) dL_facet_12 ?_
    refine cg_iconst C (x := nI 0) rfl dL_facet_23 ?_
    obtain ⟨hb_24, h⟩ := h
    exact cg_iret C h dL_facet_24 hb_24.1 hb_24.2
  · refine cg_callx_catch C htab (tx_X11_facet l hlt "java/lang/IndexOutOfBoundsException" mc1 ms2 x0 x1 x2 x3 S dp h) cc_L_168 hc_7.1 hc_7.2 (by decide) rfl rfl ⟨by decide, by decide⟩ hm_ rfl (Nat.le_of_ble_eq_true rfl) dL_facet_7 (tableOf []) ⟨0, 12, 15, 28⟩ (tableOf [(0, 12, 19, 13)]) rfl (fun z hz => nomatch hz) (by decide) (by decide) (name := "java/lang/IndexOutOfBoundsException") ce_L_28 (by decide) 15 rfl (fun e4 S3 h => ?_)
    refine cg_astore (lv' := [(5, .ref e4), (0, .ref x0), (1, .int x1), (2, .int x2), (3, .int x3), (4, .ref x4)]) C (Nat.le_of_ble_eq_true rfl) rfl dL_facet_15 ?_
    refine cg_iconst C (x := nI 1) rfl dL_facet_17 ?_
    obtain ⟨hb_18, h⟩ := h
    exact cg_iret C h dL_facet_18 hb_18.1 hb_18.2
  · refine cg_callx_catch C htab (tx_X11_facet l hlt "java/lang/IllegalArgumentException" mc5 ms6 x0 x1 x2 x3 S dp h) cc_L_168 hc_7.1 hc_7.2 (by decide) rfl rfl ⟨by decide, by decide⟩ hm_ rfl (Nat.le_of_ble_eq_true rfl) dL_facet_7 (tableOf [(0, 12, 15, 28)]) ⟨0, 12, 19, 13⟩ (tableOf []) rfl (fun z hz => by
        rcases List.mem_cons.mp hz with rfl | hz
        · exact ⟨by decide, "java/lang/IndexOutOfBoundsException", ce_L_28, by decide⟩
        exact nomatch hz) (by decide) (by decide) (name := "java/lang/IllegalArgumentException") ce_L_13 (by decide) 19 rfl (fun e8 S7 h => ?_)
    refine cg_astore (lv' := [(5, .ref e8), (0, .ref x0), (1, .int x1), (2, .int x2), (3, .int x3), (4, .ref x4)]) C (Nat.le_of_ble_eq_true rfl) rfl dL_facet_19 ?_
    refine cg_iconst C (x := nI 2) rfl dL_facet_21 ?_
    obtain ⟨hb_22, h⟩ := h
    exact cg_iret C h dL_facet_22 hb_22.1 hb_22.2
def kw_L_sortedAt (Q : Int32 → cS → Prop) (dp : Nat) (mc ms : Nat) (x0 : Nat) (x1 : Int32) (x2 : Int32) (x3 : Int32) (x4 : Int32) (x5 : Nat) (S : cS) : Prop :=
cA S x0 11 ∧ ((((∃ mc5 ms6 : Nat, 0 + mc5 ≤ mc ∧ 0 + ms6 ≤ ms ∧ (k_X11_sortedAt (fun r_7 S_7 => 
cX S_7 x5 15 ((nI 0)) ∧ (∀ S8 : cS, S8 = cSJ S_7 x5 ((nI 0)).toNatClampNeg ((r_7).toInt64) → (0 + mc5 ≤ mc ∧ 0 + ms6 ≤ ms) ∧ (Q ((nI 0)) S8))) dp mc5 ms6 x0 x1 x2 x3 x4 S))) ∨
 (∃ mc1 ms2 : Nat, (0 + mc1 ≤ mc ∧ 0 + ms2 ≤ ms) ∧ kx_X11_sortedAt "java/lang/IndexOutOfBoundsException" (fun S3 =>
(0 + mc1 ≤ mc ∧ 0 + ms2 ≤ ms) ∧ (Q ((nI 1)) S3)) dp mc1 ms2 x0 x1 x2 x3 x4 S)))
set_option maxHeartbeats 1000000 in
set_option maxRecDepth 20000 in
theorem tw_L_sortedAt (l : Launch) (hlt : l.stackTraces = false) (mc ms : Nat) (x0 : Nat) (x1 : Int32) (x2 : Int32) (x3 : Int32) (x4 : Int32) (x5 : Nat) (S : cS) (dp : Nat) {P : Int32 → cS → Prop} (h : kw_L_sortedAt P dp mc ms x0 x1 x2 x3 x4 x5 S) : cMetW (cQi P) l yL_sortedAt cL_sortedAt 7 (some .int) [(0, 14, 17, 28)] 10 mc ms 242 [.ref x0, .int x1, .int x2, .int x3, .int x4, .ref x5] S dp := by
  intro D Y tp sz
  refine cg_bodyW (by decide +kernel) (Nat.le_of_ble_eq_true rfl) ?_
  intro p e s m args below meth c C htab
  generalize va_A (cWd Y S) sz = A at C ⊢
  have C : cC p s m args meth c cL_sortedAt 7 (some .int) A D Y tp dp RL := C
  refine cg_lv (lv' := [(0, .ref x0), (1, .int x1), (2, .int x2), (3, .int x3), (4, .int x4), (5, .ref x5)]) rfl ?_
  unfold kw_L_sortedAt at h
  refine cg_aload C 5 rfl dL_sortedAt_0 ?_
  refine cg_iconst C (x := nI 0) rfl dL_sortedAt_2 ?_
  refine cg_aload_n C (i := 0) rfl 0 rfl dL_sortedAt_3 ?_
  refine cg_iload_n C (i := 1) rfl 1 rfl dL_sortedAt_4 ?_
  refine cg_iload_n C (i := 2) rfl 2 rfl dL_sortedAt_5 ?_
  refine cg_iload_n C (i := 3) rfl 3 rfl dL_sortedAt_6 ?_
  refine cg_iload C 4 rfl dL_sortedAt_7 ?_
  obtain ⟨hc_9, h⟩ := h
  rcases h with h | ⟨mc1, ms2, hm_, h⟩
  · obtain ⟨mc5, ms6, hm_1, hm_2, h⟩ := h
    refine cg_calli C (t_X11_sortedAt l mc5 ms6 x0 x1 x2 x3 x4 S dp h) cc_L_171 hc_9.1 hc_9.2 (by decide) rfl rfl ⟨by decide, by decide⟩ ⟨hm_1, hm_2⟩ rfl (Nat.le_of_ble_eq_true rfl) dL_sortedAt_9 (fun r_7 S_7 h => ?_)
    refine cg_i2l C dL_sortedAt_12 ?_
    obtain ⟨hc_13, h⟩ := h
    refine cg_lastoreR C hc_13 dL_sortedAt_13 ?_
    refine cg_nm (fun S8 e_S8 => ?_)
    have h := h S8 e_S8
    refine cg_goto C 21 (by decide) dL_sortedAt_14 ?_
    refine cg_iconst C (x := nI 0) rfl dL_sortedAt_21 ?_
    obtain ⟨hb_22, h⟩ := h
    exact cg_iret C h dL_sortedAt_22 hb_22.1 hb_22.2
  · refine cg_callx_catch C htab (tx_X11_sortedAt l hlt "java/lang/IndexOutOfBoundsException" mc1 ms2 x0 x1 x2 x3 x4 S dp h) cc_L_171 hc_9.1 hc_9.2 (by decide) rfl rfl ⟨by decide, by decide⟩ hm_ rfl (Nat.le_of_ble_eq_true rfl) dL_sortedAt_9 (tableOf []) ⟨0, 14, 17, 28⟩ (tableOf []) rfl (fun z hz => nomatch hz) (by decide) (by decide) (name := "java/lang/IndexOutOfBoundsException") ce_L_28 (by decide) 17 rfl (fun e4 S3 h => ?_)
    refine cg_astore (lv' := [(6, .ref e4), (0, .ref x0), (1, .int x1), (2, .int x2), (3, .int x3), (4, .int x4), (5, .ref x5)]) C (Nat.le_of_ble_eq_true rfl) rfl dL_sortedAt_17 ?_
    refine cg_iconst C (x := nI 1) rfl dL_sortedAt_19 ?_
    obtain ⟨hb_20, h⟩ := h
    exact cg_iret C h dL_sortedAt_20 hb_20.1 hb_20.2
def kw_L_passages (Q : Int32 → cS → Prop) (dp : Nat) (mc ms : Nat) (x0 : Nat) (x1 : Int32) (x2 : Int32) (x3 : Int32) (x4 : Int32) (x5 : Nat) (S : cS) : Prop :=
cA S x0 11 ∧ ((((0 ≤ mc ∧ 0 ≤ ms) ∧ (k_X11_passages (fun r_5 S_5 => 
cX S_5 x5 15 ((nI 0)) ∧ (∀ S6 : cS, S6 = cSJ S_5 x5 ((nI 0)).toNatClampNeg ((r_5).toInt64) → (0 ≤ mc ∧ 0 ≤ ms) ∧ (Q ((nI 0)) S6))) dp x0 x1 x2 x3 x4 S)) ∨
 (∃ mc1 ms2 : Nat, (0 + mc1 ≤ mc ∧ 0 + ms2 ≤ ms) ∧ kx_X11_passages "java/lang/IndexOutOfBoundsException" (fun S3 =>
(0 + mc1 ≤ mc ∧ 0 + ms2 ≤ ms) ∧ (Q ((nI 1)) S3)) dp mc1 ms2 x0 x1 x2 x3 x4 S)))
set_option maxHeartbeats 1000000 in
set_option maxRecDepth 20000 in
theorem tw_L_passages (l : Launch) (hlt : l.stackTraces = false) (mc ms : Nat) (x0 : Nat) (x1 : Int32) (x2 : Int32) (x3 : Int32) (x4 : Int32) (x5 : Nat) (S : cS) (dp : Nat) {P : Int32 → cS → Prop} (h : kw_L_passages P dp mc ms x0 x1 x2 x3 x4 x5 S) : cMetW (cQi P) l yL_passages cL_passages 7 (some .int) [(0, 14, 17, 28)] 8 mc ms 200 [.ref x0, .int x1, .int x2, .int x3, .int x4, .ref x5] S dp := by
  intro D Y tp sz
  refine cg_bodyW (by decide +kernel) (Nat.le_of_ble_eq_true rfl) ?_
  intro p e s m args below meth c C htab
  generalize va_A (cWd Y S) sz = A at C ⊢
  have C : cC p s m args meth c cL_passages 7 (some .int) A D Y tp dp RL := C
  refine cg_lv (lv' := [(0, .ref x0), (1, .int x1), (2, .int x2), (3, .int x3), (4, .int x4), (5, .ref x5)]) rfl ?_
  unfold kw_L_passages at h
  refine cg_aload C 5 rfl dL_passages_0 ?_
  refine cg_iconst C (x := nI 0) rfl dL_passages_2 ?_
  refine cg_aload_n C (i := 0) rfl 0 rfl dL_passages_3 ?_
  refine cg_iload_n C (i := 1) rfl 1 rfl dL_passages_4 ?_
  refine cg_iload_n C (i := 2) rfl 2 rfl dL_passages_5 ?_
  refine cg_iload_n C (i := 3) rfl 3 rfl dL_passages_6 ?_
  refine cg_iload C 4 rfl dL_passages_7 ?_
  obtain ⟨hc_9, h⟩ := h
  rcases h with h | ⟨mc1, ms2, hm_, h⟩
  · obtain ⟨hb_9, h⟩ := h
    refine cg_calli C (t_X11_passages l x0 x1 x2 x3 x4 S dp h) cc_L_175 hc_9.1 hc_9.2 (by decide) rfl rfl ⟨by decide, by decide⟩ hb_9 rfl (Nat.le_of_ble_eq_true rfl) dL_passages_9 (fun r_5 S_5 h => ?_)
    simp only [Nat.add_zero]
    refine cg_i2l C dL_passages_12 ?_
    obtain ⟨hc_13, h⟩ := h
    refine cg_lastoreR C hc_13 dL_passages_13 ?_
    refine cg_nm (fun S6 e_S6 => ?_)
    have h := h S6 e_S6
    refine cg_goto C 21 (by decide) dL_passages_14 ?_
    refine cg_iconst C (x := nI 0) rfl dL_passages_21 ?_
    obtain ⟨hb_22, h⟩ := h
    exact cg_iret C h dL_passages_22 hb_22.1 hb_22.2
  · refine cg_callx_catch C htab (tx_X11_passages l hlt "java/lang/IndexOutOfBoundsException" mc1 ms2 x0 x1 x2 x3 x4 S dp h) cc_L_175 hc_9.1 hc_9.2 (by decide) rfl rfl ⟨by decide, by decide⟩ hm_ rfl (Nat.le_of_ble_eq_true rfl) dL_passages_9 (tableOf []) ⟨0, 14, 17, 28⟩ (tableOf []) rfl (fun z hz => nomatch hz) (by decide) (by decide) (name := "java/lang/IndexOutOfBoundsException") ce_L_28 (by decide) 17 rfl (fun e4 S3 h => ?_)
    refine cg_astore (lv' := [(6, .ref e4), (0, .ref x0), (1, .int x1), (2, .int x2), (3, .int x3), (4, .int x4), (5, .ref x5)]) C (Nat.le_of_ble_eq_true rfl) rfl dL_passages_17 ?_
    refine cg_iconst C (x := nI 1) rfl dL_passages_19 ?_
    obtain ⟨hb_20, h⟩ := h
    exact cg_iret C h dL_passages_20 hb_20.1 hb_20.2
def kw_L_passageAt (Q : Int32 → cS → Prop) (dp : Nat) (mc ms : Nat) (x0 : Nat) (x1 : Int32) (x2 : Int32) (x3 : Int32) (x4 : Int32) (x5 : Int32) (x6 : Nat) (S : cS) : Prop :=
cA S x0 11 ∧ ((((0 ≤ mc ∧ 0 ≤ ms) ∧ (k_X11_passageAt (fun r_5 S_5 => 
cX S_5 x6 15 ((nI 0)) ∧ (∀ S6 : cS, S6 = cSJ S_5 x6 ((nI 0)).toNatClampNeg ((r_5).toInt64) → (0 ≤ mc ∧ 0 ≤ ms) ∧ (Q ((nI 0)) S6))) dp x0 x1 x2 x3 x4 x5 S)) ∨
 (∃ mc1 ms2 : Nat, (0 + mc1 ≤ mc ∧ 0 + ms2 ≤ ms) ∧ kx_X11_passageAt "java/lang/IndexOutOfBoundsException" (fun S3 =>
(0 + mc1 ≤ mc ∧ 0 + ms2 ≤ ms) ∧ (Q ((nI 1)) S3)) dp mc1 ms2 x0 x1 x2 x3 x4 x5 S)))
set_option maxHeartbeats 1000000 in
set_option maxRecDepth 20000 in
theorem tw_L_passageAt (l : Launch) (hlt : l.stackTraces = false) (mc ms : Nat) (x0 : Nat) (x1 : Int32) (x2 : Int32) (x3 : Int32) (x4 : Int32) (x5 : Int32) (x6 : Nat) (S : cS) (dp : Nat) {P : Int32 → cS → Prop} (h : kw_L_passageAt P dp mc ms x0 x1 x2 x3 x4 x5 x6 S) : cMetW (cQi P) l yL_passageAt cL_passageAt 8 (some .int) [(0, 16, 19, 28)] 8 mc ms 202 [.ref x0, .int x1, .int x2, .int x3, .int x4, .int x5, .ref x6] S dp := by
  intro D Y tp sz
  refine cg_bodyW (by decide +kernel) (Nat.le_of_ble_eq_true rfl) ?_
  intro p e s m args below meth c C htab
  generalize va_A (cWd Y S) sz = A at C ⊢
  have C : cC p s m args meth c cL_passageAt 8 (some .int) A D Y tp dp RL := C
  refine cg_lv (lv' := [(0, .ref x0), (1, .int x1), (2, .int x2), (3, .int x3), (4, .int x4), (5, .int x5), (6, .ref x6)]) rfl ?_
  unfold kw_L_passageAt at h
  refine cg_aload C 6 rfl dL_passageAt_0 ?_
  refine cg_iconst C (x := nI 0) rfl dL_passageAt_2 ?_
  refine cg_aload_n C (i := 0) rfl 0 rfl dL_passageAt_3 ?_
  refine cg_iload_n C (i := 1) rfl 1 rfl dL_passageAt_4 ?_
  refine cg_iload_n C (i := 2) rfl 2 rfl dL_passageAt_5 ?_
  refine cg_iload_n C (i := 3) rfl 3 rfl dL_passageAt_6 ?_
  refine cg_iload C 4 rfl dL_passageAt_7 ?_
  refine cg_iload C 5 rfl dL_passageAt_9 ?_
  obtain ⟨hc_11, h⟩ := h
  rcases h with h | ⟨mc1, ms2, hm_, h⟩
  · obtain ⟨hb_11, h⟩ := h
    refine cg_calli C (t_X11_passageAt l x0 x1 x2 x3 x4 x5 S dp h) cc_L_178 hc_11.1 hc_11.2 (by decide) rfl rfl ⟨by decide, by decide⟩ hb_11 rfl (Nat.le_of_ble_eq_true rfl) dL_passageAt_11 (fun r_5 S_5 h => ?_)
    simp only [Nat.add_zero]
    refine cg_i2l C dL_passageAt_14 ?_
    obtain ⟨hc_15, h⟩ := h
    refine cg_lastoreR C hc_15 dL_passageAt_15 ?_
    refine cg_nm (fun S6 e_S6 => ?_)
    have h := h S6 e_S6
    refine cg_goto C 23 (by decide) dL_passageAt_16 ?_
    refine cg_iconst C (x := nI 0) rfl dL_passageAt_23 ?_
    obtain ⟨hb_24, h⟩ := h
    exact cg_iret C h dL_passageAt_24 hb_24.1 hb_24.2
  · refine cg_callx_catch C htab (tx_X11_passageAt l hlt "java/lang/IndexOutOfBoundsException" mc1 ms2 x0 x1 x2 x3 x4 x5 S dp h) cc_L_178 hc_11.1 hc_11.2 (by decide) rfl rfl ⟨by decide, by decide⟩ hm_ rfl (Nat.le_of_ble_eq_true rfl) dL_passageAt_11 (tableOf []) ⟨0, 16, 19, 28⟩ (tableOf []) rfl (fun z hz => nomatch hz) (by decide) (by decide) (name := "java/lang/IndexOutOfBoundsException") ce_L_28 (by decide) 19 rfl (fun e4 S3 h => ?_)
    refine cg_astore (lv' := [(7, .ref e4), (0, .ref x0), (1, .int x1), (2, .int x2), (3, .int x3), (4, .int x4), (5, .int x5), (6, .ref x6)]) C (Nat.le_of_ble_eq_true rfl) rfl dL_passageAt_19 ?_
    refine cg_iconst C (x := nI 1) rfl dL_passageAt_21 ?_
    obtain ⟨hb_22, h⟩ := h
    exact cg_iret C h dL_passageAt_22 hb_22.1 hb_22.2
