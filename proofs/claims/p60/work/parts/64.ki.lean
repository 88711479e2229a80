/-! the methods of the class as predicates, and their contracts -/
def k_X11_queryOf (Q : Nat → cS → Prop) (dp : Nat) (x0 : Nat) (x1 : Int32) (S : cS) : Prop :=
((x1 < 0 →
  False) ∧
 (¬ x1 < 0 →
  cA S x0 11 ∧ ((∃ b1 : Nat, cr S 363 x0 = some b1 ∧ (cA S b1 12 ∧ (k_Jx4a65c_size_8abf5 (fun r_2 S_2 => 
  ((x1 < r_2 →
    cA S_2 x0 11 ∧ ((∃ b3 : Nat, cr S_2 363 x0 = some b3 ∧ (cA S_2 b3 12 ∧ (k_Jx4a65c_get_915e3 (fun r_4 S_4 => 
    cA S_4 r_4 6 ∧ (Q r_4 S_4)) dp b3 x1 S_2))))) ∧
   (¬ x1 < r_2 →
    False))) dp b1 S))))))
set_option maxHeartbeats 1000000 in
set_option maxRecDepth 20000 in
theorem t_X11_queryOf (l : Launch) (x0 : Nat) (x1 : Int32) (S : cS) (dp : Nat) {P : Nat → cS → Prop} (h : k_X11_queryOf P dp x0 x1 S) : cMet (cQr P) l yX11_queryOf cX11_queryOf 2 (some (.object "SearchMill$Query")) 3 0 0 64 [.ref x0, .int x1] S dp := by
  intro D Y tp sz
  refine cg_body (by decide +kernel) (Nat.le_of_ble_eq_true rfl) ?_
  intro p e s m args below meth c C
  generalize va_A (cWd Y S) sz = A at C ⊢
  have C : cC p s m args meth c cX11_queryOf 2 (some (.object "SearchMill$Query")) A D Y tp dp RX11 := C
  refine cg_lv (lv' := [(0, .ref x0), (1, .int x1)]) rfl ?_
  unfold k_X11_queryOf at h
  refine cg_iload_n C (i := 1) rfl 1 rfl dX11_queryOf_0 ?_
  refine cg_if_lt C 15 (by decide) dX11_queryOf_1 (fun c_ => ?_) (fun c_ => ?_)
  · have h := h.1 c_
    exact h.elim
  · have h := h.2 c_
    refine cg_iload_n C (i := 1) rfl 1 rfl dX11_queryOf_4 ?_
    refine cg_aload_n C (i := 0) rfl 0 rfl dX11_queryOf_5 ?_
    obtain ⟨hc_6, h⟩ := h
    obtain ⟨b1, hb_b1, h⟩ := h
    refine cg_get C (k := 11) (j := 11) (.ref b1) hc_6.1 hc_6.2 (by decide) rfl (by decide) rfl (show cV _ 11 11 x0 = _ from congrArg va_rf hb_b1) cWs_wsX110 cl_X11_65 rfl dX11_queryOf_6 ?_
    obtain ⟨hc_9, h⟩ := h
    refine cg_calli C (t_Jx4a65c_size_8abf5 l b1 S dp h) cc_X11_180 hc_9.1 hc_9.2 (by decide) rfl rfl ⟨by decide, by decide⟩ ⟨by decide, by decide⟩ rfl (Nat.le_of_ble_eq_true rfl) dX11_queryOf_9 (fun r_2 S_2 h => ?_)
    refine cg_icmp_lt C 26 (by decide) dX11_queryOf_12 (fun c_ => ?_) (fun c_ => ?_)
    · have h := h.1 c_
      refine cg_aload_n C (i := 0) rfl 0 rfl dX11_queryOf_26 ?_
      obtain ⟨hc_27, h⟩ := h
      obtain ⟨b3, hb_b3, h⟩ := h
      refine cg_get C (k := 11) (j := 11) (.ref b3) hc_27.1 hc_27.2 (by decide) rfl (by decide) rfl (show cV _ 11 11 x0 = _ from congrArg va_rf hb_b3) cWs_wsX110 cl_X11_65 rfl dX11_queryOf_27 ?_
      refine cg_iload_n C (i := 1) rfl 1 rfl dX11_queryOf_30 ?_
      obtain ⟨hc_31, h⟩ := h
      refine cg_callr C (t_Jx4a65c_get_915e3 l b3 x1 S_2 dp h) cc_X11_277 hc_31.1 hc_31.2 (by decide) rfl rfl ⟨by decide, by decide⟩ ⟨by decide, by decide⟩ rfl (Nat.le_of_ble_eq_true rfl) dX11_queryOf_31 (fun r_4 S_4 h => ?_)
      obtain ⟨hc_34, h⟩ := h
      refine cg_ccast C (k := 6) hc_34.1 hc_34.2 (by decide) rfl cnc_X11_58 dX11_queryOf_34 ?_
      exact cg_aret C rfl (by first | exact Or.inl ⟨_, rfl⟩ | exact Or.inr ⟨_, rfl⟩) h dX11_queryOf_37 (by decide) (by decide)
    · have h := h.2 c_
      exact h.elim
def k_X11_find (Q : Int32 → cS → Prop) (dp : Nat) (x0 : Nat) (x1 : Int32) (x2 : Int32) (x3 : Int32) (S : cS) : Prop :=
cA S x0 11 ∧ (k_X11_snapshotOf (fun r_1 S_1 => 
cA S_1 x0 11 ∧ (k_X11_queryOf (fun r_2 S_2 => 
((x3 < ((nI 1)) →
  False) ∧
 (¬ x3 < ((nI 1)) →
  ((x3 ≤ ((nI 20)) →
    cA S_2 x0 11 ∧ ((∃ b3 : Nat, cr S_2 365 x0 = some b3 ∧ (cA S_2 b3 1 ∧ (k_X1_search (fun r_4 S_4 => 
    Q r_4 S_4) dp b3 r_1 r_2 x2 x3 S_2))))) ∧
   (¬ x3 ≤ ((nI 20)) →
    False))))) dp x0 x2 S_1)) dp x0 x1 S)
set_option maxHeartbeats 1000000 in
set_option maxRecDepth 20000 in
theorem t_X11_find (l : Launch) (x0 : Nat) (x1 : Int32) (x2 : Int32) (x3 : Int32) (S : cS) (dp : Nat) {P : Int32 → cS → Prop} (h : k_X11_find P dp x0 x1 x2 x3 S) : cMet (cQi P) l yX11_find cX11_find 6 (some .int) 8 0 0 195 [.ref x0, .int x1, .int x2, .int x3] S dp := by
  intro D Y tp sz
  refine cg_body (by decide +kernel) (Nat.le_of_ble_eq_true rfl) ?_
  intro p e s m args below meth c C
  generalize va_A (cWd Y S) sz = A at C ⊢
  have C : cC p s m args meth c cX11_find 6 (some .int) A D Y tp dp RX11 := C
  refine cg_lv (lv' := [(0, .ref x0), (1, .int x1), (2, .int x2), (3, .int x3)]) rfl ?_
  unfold k_X11_find at h
  refine cg_aload_n C (i := 0) rfl 0 rfl dX11_find_0 ?_
  refine cg_iload_n C (i := 1) rfl 1 rfl dX11_find_1 ?_
  obtain ⟨hc_2, h⟩ := h
  refine cg_callr C (t_X11_snapshotOf l x0 x1 S dp h) cc_X11_317 hc_2.1 hc_2.2 (by decide) rfl rfl ⟨by decide, by decide⟩ ⟨by decide, by decide⟩ rfl (Nat.le_of_ble_eq_true rfl) dX11_find_2 (fun r_1 S_1 h => ?_)
  refine cg_astore (lv' := [(4, .ref r_1), (0, .ref x0), (1, .int x1), (2, .int x2), (3, .int x3)]) C (Nat.le_of_ble_eq_true rfl) rfl dX11_find_5 ?_
  refine cg_aload_n C (i := 0) rfl 1 rfl dX11_find_7 ?_
  refine cg_iload_n C (i := 2) rfl 3 rfl dX11_find_8 ?_
  obtain ⟨hc_9, h⟩ := h
  refine cg_callr C (t_X11_queryOf l x0 x2 S_1 dp h) cc_X11_396 hc_9.1 hc_9.2 (by decide) rfl rfl ⟨by decide, by decide⟩ ⟨by decide, by decide⟩ rfl (Nat.le_of_ble_eq_true rfl) dX11_find_9 (fun r_2 S_2 h => ?_)
  refine cg_astore (lv' := [(5, .ref r_2), (4, .ref r_1), (0, .ref x0), (1, .int x1), (2, .int x2), (3, .int x3)]) C (Nat.le_of_ble_eq_true rfl) rfl dX11_find_12 ?_
  refine cg_iload_n C (i := 3) rfl 5 rfl dX11_find_14 ?_
  refine cg_iconst C (x := nI 1) rfl dX11_find_15 ?_
  refine cg_icmp_lt C 25 (by decide) dX11_find_16 (fun c_ => ?_) (fun c_ => ?_)
  · have h := h.1 c_
    exact h.elim
  · have h := h.2 c_
    refine cg_iload_n C (i := 3) rfl 5 rfl dX11_find_19 ?_
    refine cg_bipush C (x := nI 20) rfl dX11_find_20 ?_
    refine cg_icmp_le C 36 (by decide) dX11_find_22 (fun c_ => ?_) (fun c_ => ?_)
    · have h := h.1 c_
      refine cg_aload_n C (i := 0) rfl 2 rfl dX11_find_36 ?_
      obtain ⟨hc_37, h⟩ := h
      obtain ⟨b3, hb_b3, h⟩ := h
      refine cg_get C (k := 11) (j := 13) (.ref b3) hc_37.1 hc_37.2 (by decide) rfl (by decide) rfl (show cV _ 11 13 x0 = _ from congrArg va_rf hb_b3) cWs_wsX110 cl_X11_80 rfl dX11_find_37 ?_
      refine cg_aload C 1 rfl dX11_find_40 ?_
      refine cg_aload C 0 rfl dX11_find_42 ?_
      refine cg_iload_n C (i := 2) rfl 4 rfl dX11_find_44 ?_
      refine cg_iload_n C (i := 3) rfl 5 rfl dX11_find_45 ?_
      obtain ⟨hc_46, h⟩ := h
      refine cg_calli C (t_X1_search l b3 r_1 r_2 x2 x3 S_2 dp h) cc_X11_402 hc_46.1 hc_46.2 (by decide) rfl rfl ⟨by decide, by decide⟩ ⟨by decide, by decide⟩ rfl (Nat.le_of_ble_eq_true rfl) dX11_find_46 (fun r_4 S_4 h => ?_)
      exact cg_iret C h dX11_find_49 (by decide) (by decide)
    · have h := h.2 c_
      exact h.elim
def k_X11_checkHit (Q : cS → Prop) (dp : Nat) (x0 : Nat) (x1 : Int32) (S : cS) : Prop :=
((x1 < 0 →
  False) ∧
 (¬ x1 < 0 →
  cA S x0 11 ∧ ((∃ b1 : Nat, cr S 365 x0 = some b1 ∧ (cA S b1 1 ∧ (((x1 < ((ci S 33 b1)) →
    Q S) ∧
   (¬ x1 < ((ci S 33 b1)) →
    False))))))))
set_option maxHeartbeats 1000000 in
set_option maxRecDepth 20000 in
theorem t_X11_checkHit (l : Launch) (x0 : Nat) (x1 : Int32) (S : cS) (dp : Nat) {P : cS → Prop} (h : k_X11_checkHit P dp x0 x1 S) : cMet (cQv P) l yX11_checkHit cX11_checkHit 2 none 0 0 0 0 [.ref x0, .int x1] S dp := by
  intro D Y tp sz
  refine cg_body (by decide +kernel) (Nat.le_of_ble_eq_true rfl) ?_
  intro p e s m args below meth c C
  generalize va_A (cWd Y S) sz = A at C ⊢
  have C : cC p s m args meth c cX11_checkHit 2 none A D Y tp dp RX11 := C
  refine cg_lv (lv' := [(0, .ref x0), (1, .int x1)]) rfl ?_
  unfold k_X11_checkHit at h
  refine cg_iload_n C (i := 1) rfl 1 rfl dX11_checkHit_0 ?_
  refine cg_if_lt C 15 (by decide) dX11_checkHit_1 (fun c_ => ?_) (fun c_ => ?_)
  · have h := h.1 c_
    exact h.elim
  · have h := h.2 c_
    refine cg_iload_n C (i := 1) rfl 1 rfl dX11_checkHit_4 ?_
    refine cg_aload_n C (i := 0) rfl 0 rfl dX11_checkHit_5 ?_
    obtain ⟨hc_6, h⟩ := h
    obtain ⟨b1, hb_b1, h⟩ := h
    refine cg_get C (k := 11) (j := 13) (.ref b1) hc_6.1 hc_6.2 (by decide) rfl (by decide) rfl (show cV _ 11 13 x0 = _ from congrArg va_rf hb_b1) cWs_wsX110 cl_X11_80 rfl dX11_checkHit_6 ?_
    obtain ⟨hc_9, h⟩ := h
    refine cg_get C (k := 1) (j := 1) (.int (ci S 33 b1)) hc_9.1 hc_9.2 (by decide) rfl (by decide) rfl rfl cWs_wsX10 cl_X11_473 rfl dX11_checkHit_9 ?_
    refine cg_icmp_lt C 26 (by decide) dX11_checkHit_12 (fun c_ => ?_) (fun c_ => ?_)
    · have h := h.1 c_
      exact cg_vret C h dX11_checkHit_26 (by decide) (by decide)
    · have h := h.2 c_
      exact h.elim
def k_X11_hitAt (Q : Int32 → cS → Prop) (dp : Nat) (x0 : Nat) (x1 : Int32) (S : cS) : Prop :=
cA S x0 11 ∧ (k_X11_checkHit (fun S_1 => 
cA S_1 x0 11 ∧ ((∃ b2 : Nat, cr S_1 365 x0 = some b2 ∧ (cA S_1 b2 1 ∧ ((∃ b3 : Nat, cr S_1 34 b2 = some b3 ∧ (cX S_1 b3 14 x1 ∧ (Q ((cI S_1 b3 (x1).toNatClampNeg)) S_1)))))))) dp x0 x1 S)
set_option maxHeartbeats 1000000 in
set_option maxRecDepth 20000 in
theorem t_X11_hitAt (l : Launch) (x0 : Nat) (x1 : Int32) (S : cS) (dp : Nat) {P : Int32 → cS → Prop} (h : k_X11_hitAt P dp x0 x1 S) : cMet (cQi P) l yX11_hitAt cX11_hitAt 2 (some .int) 1 0 0 21 [.ref x0, .int x1] S dp := by
  intro D Y tp sz
  refine cg_body (by decide +kernel) (Nat.le_of_ble_eq_true rfl) ?_
  intro p e s m args below meth c C
  generalize va_A (cWd Y S) sz = A at C ⊢
  have C : cC p s m args meth c cX11_hitAt 2 (some .int) A D Y tp dp RX11 := C
  refine cg_lv (lv' := [(0, .ref x0), (1, .int x1)]) rfl ?_
  unfold k_X11_hitAt at h
  refine cg_aload_n C (i := 0) rfl 0 rfl dX11_hitAt_0 ?_
  refine cg_iload_n C (i := 1) rfl 1 rfl dX11_hitAt_1 ?_
  obtain ⟨hc_2, h⟩ := h
  refine cg_callv C (t_X11_checkHit l x0 x1 S dp h) cc_X11_406 hc_2.1 hc_2.2 (by decide) rfl rfl ⟨by decide, by decide⟩ ⟨by decide, by decide⟩ rfl (Nat.le_of_ble_eq_true rfl) dX11_hitAt_2 (fun S_1 h => ?_)
  refine cg_aload_n C (i := 0) rfl 0 rfl dX11_hitAt_5 ?_
  obtain ⟨hc_6, h⟩ := h
  obtain ⟨b2, hb_b2, h⟩ := h
  refine cg_get C (k := 11) (j := 13) (.ref b2) hc_6.1 hc_6.2 (by decide) rfl (by decide) rfl (show cV _ 11 13 x0 = _ from congrArg va_rf hb_b2) cWs_wsX110 cl_X11_80 rfl dX11_hitAt_6 ?_
  obtain ⟨hc_9, h⟩ := h
  obtain ⟨b3, hb_b3, h⟩ := h
  refine cg_get C (k := 1) (j := 2) (.ref b3) hc_9.1 hc_9.2 (by decide) rfl (by decide) rfl (show cV _ 1 2 b2 = _ from congrArg va_rf hb_b3) cWs_wsX10 cl_X11_409 rfl dX11_hitAt_9 ?_
  refine cg_iload_n C (i := 1) rfl 1 rfl dX11_hitAt_12 ?_
  obtain ⟨hc_13, h⟩ := h
  refine cg_ialoadR C hc_13 dX11_hitAt_13 ?_
  exact cg_iret C h dX11_hitAt_14 (by decide) (by decide)
def k_X11_rankAt (Q : Int32 → cS → Prop) (dp : Nat) (x0 : Nat) (x1 : Int32) (S : cS) : Prop :=
cA S x0 11 ∧ (k_X11_checkHit (fun S_1 => 
cA S_1 x0 11 ∧ ((∃ b2 : Nat, cr S_1 365 x0 = some b2 ∧ (cA S_1 b2 1 ∧ ((∃ b3 : Nat, cr S_1 35 b2 = some b3 ∧ (cX S_1 b3 14 x1 ∧ (Q ((cI S_1 b3 (x1).toNatClampNeg)) S_1)))))))) dp x0 x1 S)
set_option maxHeartbeats 1000000 in
set_option maxRecDepth 20000 in
theorem t_X11_rankAt (l : Launch) (x0 : Nat) (x1 : Int32) (S : cS) (dp : Nat) {P : Int32 → cS → Prop} (h : k_X11_rankAt P dp x0 x1 S) : cMet (cQi P) l yX11_rankAt cX11_rankAt 2 (some .int) 1 0 0 21 [.ref x0, .int x1] S dp := by
  intro D Y tp sz
  refine cg_body (by decide +kernel) (Nat.le_of_ble_eq_true rfl) ?_
  intro p e s m args below meth c C
  generalize va_A (cWd Y S) sz = A at C ⊢
  have C : cC p s m args meth c cX11_rankAt 2 (some .int) A D Y tp dp RX11 := C
  refine cg_lv (lv' := [(0, .ref x0), (1, .int x1)]) rfl ?_
  unfold k_X11_rankAt at h
  refine cg_aload_n C (i := 0) rfl 0 rfl dX11_rankAt_0 ?_
  refine cg_iload_n C (i := 1) rfl 1 rfl dX11_rankAt_1 ?_
  obtain ⟨hc_2, h⟩ := h
  refine cg_callv C (t_X11_checkHit l x0 x1 S dp h) cc_X11_406 hc_2.1 hc_2.2 (by decide) rfl rfl ⟨by decide, by decide⟩ ⟨by decide, by decide⟩ rfl (Nat.le_of_ble_eq_true rfl) dX11_rankAt_2 (fun S_1 h => ?_)
  refine cg_aload_n C (i := 0) rfl 0 rfl dX11_rankAt_5 ?_
  obtain ⟨hc_6, h⟩ := h
  obtain ⟨b2, hb_b2, h⟩ := h
  refine cg_get C (k := 11) (j := 13) (.ref b2) hc_6.1 hc_6.2 (by decide) rfl (by decide) rfl (show cV _ 11 13 x0 = _ from congrArg va_rf hb_b2) cWs_wsX110 cl_X11_80 rfl dX11_rankAt_6 ?_
  obtain ⟨hc_9, h⟩ := h
  obtain ⟨b3, hb_b3, h⟩ := h
  refine cg_get C (k := 1) (j := 3) (.ref b3) hc_9.1 hc_9.2 (by decide) rfl (by decide) rfl (show cV _ 1 3 b2 = _ from congrArg va_rf hb_b3) cWs_wsX10 cl_X11_412 rfl dX11_rankAt_9 ?_
  refine cg_iload_n C (i := 1) rfl 1 rfl dX11_rankAt_12 ?_
  obtain ⟨hc_13, h⟩ := h
  refine cg_ialoadR C hc_13 dX11_rankAt_13 ?_
  exact cg_iret C h dX11_rankAt_14 (by decide) (by decide)
def k_X11_skipped (Q : Int32 → cS → Prop) (dp : Nat) (x0 : Nat) (S : cS) : Prop :=
cA S x0 11 ∧ ((∃ b1 : Nat, cr S 365 x0 = some b1 ∧ (cA S b1 1 ∧ (Q ((ci S 36 b1)) S))))
set_option maxHeartbeats 1000000 in
set_option maxRecDepth 20000 in
theorem t_X11_skipped (l : Launch) (x0 : Nat) (S : cS) (dp : Nat) {P : Int32 → cS → Prop} (h : k_X11_skipped P dp x0 S) : cMet (cQi P) l yX11_skipped cX11_skipped 1 (some .int) 0 0 0 0 [.ref x0] S dp := by
  intro D Y tp sz
  refine cg_body (by decide +kernel) (Nat.le_of_ble_eq_true rfl) ?_
  intro p e s m args below meth c C
  generalize va_A (cWd Y S) sz = A at C ⊢
  have C : cC p s m args meth c cX11_skipped 1 (some .int) A D Y tp dp RX11 := C
  refine cg_lv (lv' := [(0, .ref x0)]) rfl ?_
  unfold k_X11_skipped at h
  refine cg_aload_n C (i := 0) rfl 0 rfl dX11_skipped_0 ?_
  obtain ⟨hc_1, h⟩ := h
  obtain ⟨b1, hb_b1, h⟩ := h
  refine cg_get C (k := 11) (j := 13) (.ref b1) hc_1.1 hc_1.2 (by decide) rfl (by decide) rfl (show cV _ 11 13 x0 = _ from congrArg va_rf hb_b1) cWs_wsX110 cl_X11_80 rfl dX11_skipped_1 ?_
  obtain ⟨hc_4, h⟩ := h
  refine cg_get C (k := 1) (j := 4) (.int (ci S 36 b1)) hc_4.1 hc_4.2 (by decide) rfl (by decide) rfl rfl cWs_wsX10 cl_X11_415 rfl dX11_skipped_4 ?_
  exact cg_iret C h dX11_skipped_7 (by decide) (by decide)
def k_X11_cached (Q : Int32 → cS → Prop) (dp : Nat) (x0 : Nat) (S : cS) : Prop :=
cA S x0 11 ∧ ((∃ b1 : Nat, cr S 365 x0 = some b1 ∧ (cA S b1 1 ∧ (Q ((ci S 37 b1)) S))))
set_option maxHeartbeats 1000000 in
set_option maxRecDepth 20000 in
theorem t_X11_cached (l : Launch) (x0 : Nat) (S : cS) (dp : Nat) {P : Int32 → cS → Prop} (h : k_X11_cached P dp x0 S) : cMet (cQi P) l yX11_cached cX11_cached 1 (some .int) 0 0 0 0 [.ref x0] S dp := by
  intro D Y tp sz
  refine cg_body (by decide +kernel) (Nat.le_of_ble_eq_true rfl) ?_
  intro p e s m args below meth c C
  generalize va_A (cWd Y S) sz = A at C ⊢
  have C : cC p s m args meth c cX11_cached 1 (some .int) A D Y tp dp RX11 := C
  refine cg_lv (lv' := [(0, .ref x0)]) rfl ?_
  unfold k_X11_cached at h
  refine cg_aload_n C (i := 0) rfl 0 rfl dX11_cached_0 ?_
  obtain ⟨hc_1, h⟩ := h
  obtain ⟨b1, hb_b1, h⟩ := h
  refine cg_get C (k := 11) (j := 13) (.ref b1) hc_1.1 hc_1.2 (by decide) rfl (by decide) rfl (show cV _ 11 13 x0 = _ from congrArg va_rf hb_b1) cWs_wsX110 cl_X11_80 rfl dX11_cached_1 ?_
  obtain ⟨hc_4, h⟩ := h
  refine cg_get C (k := 1) (j := 5) (.int (ci S 37 b1)) hc_4.1 hc_4.2 (by decide) rfl (by decide) rfl rfl cWs_wsX10 cl_X11_418 rfl dX11_cached_4 ?_
  exact cg_iret C h dX11_cached_7 (by decide) (by decide)
def k_X11_rankByScan (Q : Int32 → cS → Prop) (dp : Nat) (x0 : Nat) (x1 : Int32) (x2 : Int32) (x3 : Int32) (S : cS) : Prop :=
cA S x0 11 ∧ (k_X11_snapshotOf (fun r_1 S_1 => 
cA S_1 x0 11 ∧ (k_X11_queryOf (fun r_2 S_2 => 
k_X11_checkKey (fun S_3 => 
cA S_3 r_1 10 ∧ (k_X10_liveDocument (fun r_4 S_4 => 
((r_4 = none →
  Q (((-1))) S_4) ∧
 (∀ b5 : Nat, r_4 = some b5 →
  cA S_4 x0 11 ∧ ((∃ b6 : Nat, cr S_4 364 x0 = some b6 ∧ (cA S_4 b6 7 ∧ (k_X7_scanRarities (fun S_7 => 
  cA S_7 x0 11 ∧ ((∃ b8 : Nat, cr S_7 364 x0 = some b8 ∧ (cA S_7 b8 7 ∧ (k_X7_scanDocument (fun S_9 => 
  cA S_9 x0 11 ∧ ((∃ b10 : Nat, cr S_9 364 x0 = some b10 ∧ (cA S_9 b10 7 ∧ (k_X7_valueAt (fun r_11 S_11 => 
  Q r_11 S_11) dp b10 r_2 ((nI 0)) S_9))))) dp b8 r_2 b5 S_7))))) dp b6 r_2 r_1 S_4))))))) dp r_1 x3 S_3)) dp x3 S_2) dp x0 x2 S_1)) dp x0 x1 S)
set_option maxHeartbeats 1000000 in
set_option maxRecDepth 20000 in
theorem t_X11_rankByScan (l : Launch) (x0 : Nat) (x1 : Int32) (x2 : Int32) (x3 : Int32) (S : cS) (dp : Nat) {P : Int32 → cS → Prop} (h : k_X11_rankByScan P dp x0 x1 x2 x3 S) : cMet (cQi P) l yX11_rankByScan cX11_rankByScan 7 (some .int) 6 0 0 138 [.ref x0, .int x1, .int x2, .int x3] S dp := by
  intro D Y tp sz
  refine cg_body (by decide +kernel) (Nat.le_of_ble_eq_true rfl) ?_
  intro p e s m args below meth c C
  generalize va_A (cWd Y S) sz = A at C ⊢
  have C : cC p s m args meth c cX11_rankByScan 7 (some .int) A D Y tp dp RX11 := C
  refine cg_lv (lv' := [(0, .ref x0), (1, .int x1), (2, .int x2), (3, .int x3)]) rfl ?_
  unfold k_X11_rankByScan at h
  refine cg_aload_n C (i := 0) rfl 0 rfl dX11_rankByScan_0 ?_
  refine cg_iload_n C (i := 1) rfl 1 rfl dX11_rankByScan_1 ?_
  obtain ⟨hc_2, h⟩ := h
  refine cg_callr C (t_X11_snapshotOf l x0 x1 S dp h) cc_X11_317 hc_2.1 hc_2.2 (by decide) rfl rfl ⟨by decide, by decide⟩ ⟨by decide, by decide⟩ rfl (Nat.le_of_ble_eq_true rfl) dX11_rankByScan_2 (fun r_1 S_1 h => ?_)
  refine cg_astore (lv' := [(4, .ref r_1), (0, .ref x0), (1, .int x1), (2, .int x2), (3, .int x3)]) C (Nat.le_of_ble_eq_true rfl) rfl dX11_rankByScan_5 ?_
  refine cg_aload_n C (i := 0) rfl 1 rfl dX11_rankByScan_7 ?_
  refine cg_iload_n C (i := 2) rfl 3 rfl dX11_rankByScan_8 ?_
  obtain ⟨hc_9, h⟩ := h
  refine cg_callr C (t_X11_queryOf l x0 x2 S_1 dp h) cc_X11_396 hc_9.1 hc_9.2 (by decide) rfl rfl ⟨by decide, by decide⟩ ⟨by decide, by decide⟩ rfl (Nat.le_of_ble_eq_true rfl) dX11_rankByScan_9 (fun r_2 S_2 h => ?_)
  refine cg_astore (lv' := [(5, .ref r_2), (4, .ref r_1), (0, .ref x0), (1, .int x1), (2, .int x2), (3, .int x3)]) C (Nat.le_of_ble_eq_true rfl) rfl dX11_rankByScan_12 ?_
  refine cg_iload_n C (i := 3) rfl 5 rfl dX11_rankByScan_14 ?_
  refine cg_callsv C (t_X11_checkKey l x3 S_2 dp h) cc_X11_174 rfl ⟨by decide, by decide⟩ ⟨by decide, by decide⟩ rfl (Nat.le_of_ble_eq_true rfl) dX11_rankByScan_15 (fun S_3 h => ?_)
  refine cg_aload C 1 rfl dX11_rankByScan_18 ?_
  refine cg_iload_n C (i := 3) rfl 5 rfl dX11_rankByScan_20 ?_
  obtain ⟨hc_21, h⟩ := h
  refine cg_callq C (t_X10_liveDocument l r_1 x3 S_3 dp h) cc_X11_421 hc_21.1 hc_21.2 (by decide) rfl rfl ⟨by decide, by decide⟩ ⟨by decide, by decide⟩ rfl (Nat.le_of_ble_eq_true rfl) dX11_rankByScan_21 (fun r_4 S_4 h => ?_)
  obtain ho | ⟨b5, ho⟩ := c_opt r_4
  · replace h := h.1 ho
    subst ho
    refine cg_cast (.null) rfl ?_
    refine cg_astoreN (lv' := [(6, .null), (5, .ref r_2), (4, .ref r_1), (0, .ref x0), (1, .int x1), (2, .int x2), (3, .int x3)]) C (Nat.le_of_ble_eq_true rfl) rfl dX11_rankByScan_24 ?_
    refine cg_aloadN C 0 rfl dX11_rankByScan_26 ?_
    refine cg_ifnonnullN C dX11_rankByScan_28 ?_
    refine cg_iconst C (x := (-1)) rfl dX11_rankByScan_31 ?_
    exact cg_iret C h dX11_rankByScan_32 (by decide) (by decide)
  · replace h := h.2 b5 ho
    subst ho
    refine cg_cast (.ref b5) rfl ?_
    refine cg_astore (lv' := [(6, .ref b5), (5, .ref r_2), (4, .ref r_1), (0, .ref x0), (1, .int x1), (2, .int x2), (3, .int x3)]) C (Nat.le_of_ble_eq_true rfl) rfl dX11_rankByScan_24 ?_
    refine cg_aload C 0 rfl dX11_rankByScan_26 ?_
    refine cg_ifnonnull C 33 (by decide) dX11_rankByScan_28 ?_
    refine cg_aload_n C (i := 0) rfl 3 rfl dX11_rankByScan_33 ?_
    obtain ⟨hc_34, h⟩ := h
    obtain ⟨b6, hb_b6, h⟩ := h
    refine cg_get C (k := 11) (j := 12) (.ref b6) hc_34.1 hc_34.2 (by decide) rfl (by decide) rfl (show cV _ 11 12 x0 = _ from congrArg va_rf hb_b6) cWs_wsX110 cl_X11_71 rfl dX11_rankByScan_34 ?_
    refine cg_aload C 1 rfl dX11_rankByScan_37 ?_
    refine cg_aload C 2 rfl dX11_rankByScan_39 ?_
    obtain ⟨hc_41, h⟩ := h
    refine cg_callv C (t_X7_scanRarities l b6 r_2 r_1 S_4 dp h) cc_X11_425 hc_41.1 hc_41.2 (by decide) rfl rfl ⟨by decide, by decide⟩ ⟨by decide, by decide⟩ rfl (Nat.le_of_ble_eq_true rfl) dX11_rankByScan_41 (fun S_7 h => ?_)
    refine cg_aload_n C (i := 0) rfl 3 rfl dX11_rankByScan_44 ?_
    obtain ⟨hc_45, h⟩ := h
    obtain ⟨b8, hb_b8, h⟩ := h
    refine cg_get C (k := 11) (j := 12) (.ref b8) hc_45.1 hc_45.2 (by decide) rfl (by decide) rfl (show cV _ 11 12 x0 = _ from congrArg va_rf hb_b8) cWs_wsX110 cl_X11_71 rfl dX11_rankByScan_45 ?_
    refine cg_aload C 1 rfl dX11_rankByScan_48 ?_
    refine cg_aload C 0 rfl dX11_rankByScan_50 ?_
    obtain ⟨hc_52, h⟩ := h
    refine cg_callv C (t_X7_scanDocument l b8 r_2 b5 S_7 dp h) cc_X11_429 hc_52.1 hc_52.2 (by decide) rfl rfl ⟨by decide, by decide⟩ ⟨by decide, by decide⟩ rfl (Nat.le_of_ble_eq_true rfl) dX11_rankByScan_52 (fun S_9 h => ?_)
    refine cg_aload_n C (i := 0) rfl 3 rfl dX11_rankByScan_55 ?_
    obtain ⟨hc_56, h⟩ := h
    obtain ⟨b10, hb_b10, h⟩ := h
    refine cg_get C (k := 11) (j := 12) (.ref b10) hc_56.1 hc_56.2 (by decide) rfl (by decide) rfl (show cV _ 11 12 x0 = _ from congrArg va_rf hb_b10) cWs_wsX110 cl_X11_71 rfl dX11_rankByScan_56 ?_
    refine cg_aload C 1 rfl dX11_rankByScan_59 ?_
    refine cg_iconst C (x := nI 0) rfl dX11_rankByScan_61 ?_
    obtain ⟨hc_62, h⟩ := h
    refine cg_calli C (t_X7_valueAt l b10 r_2 ((nI 0)) S_9 dp h) cc_X11_433 hc_62.1 hc_62.2 (by decide) rfl rfl ⟨by decide, by decide⟩ ⟨by decide, by decide⟩ rfl (Nat.le_of_ble_eq_true rfl) dX11_rankByScan_62 (fun r_11 S_11 h => ?_)
    exact cg_iret C h dX11_rankByScan_65 (by decide) (by decide)
def k_X11_matches (Q : Int32 → cS → Prop) (dp : Nat) (mc ms : Nat) (x0 : Nat) (x1 : Int32) (x2 : Int32) (S : cS) : Prop :=
cA S x0 11 ∧ ((0 ≤ mc ∧ 0 ≤ ms) ∧ (k_X11_snapshotOf (fun r_1 S_1 => 
cA S_1 x0 11 ∧ ((0 ≤ mc ∧ 0 ≤ ms) ∧ (k_X11_queryOf (fun r_2 S_2 => 
cA S_2 x0 11 ∧ ((∃ b3 : Nat, cr S_2 364 x0 = some b3 ∧ (cA S_2 b3 7 ∧ ((∃ mc4 ms5 : Nat, 0 + mc4 ≤ mc ∧ 0 + ms5 ≤ ms ∧ (k_X7_matched (fun r_6 S_6 => 
cA S_6 r_6 12 ∧ ((0 + mc4 ≤ mc ∧ 0 + ms5 ≤ ms) ∧ (k_Jx4a65c_size_8abf5 (fun r_7 S_7 => 
(0 + mc4 ≤ mc ∧ 0 + ms5 ≤ ms) ∧ (Q r_7 S_7)) dp r_6 S_6))) dp mc4 ms5 b3 r_1 r_2 S_2))))))) dp x0 x2 S_1))) dp x0 x1 S))
set_option maxHeartbeats 1000000 in
set_option maxRecDepth 20000 in
theorem t_X11_matches (l : Launch) (mc ms : Nat) (x0 : Nat) (x1 : Int32) (x2 : Int32) (S : cS) (dp : Nat) {P : Int32 → cS → Prop} (h : k_X11_matches P dp mc ms x0 x1 x2 S) : cMet (cQi P) l yX11_matches cX11_matches 5 (some .int) 9 mc ms 214 [.ref x0, .int x1, .int x2] S dp := by
  intro D Y tp sz
  refine cg_body (by decide +kernel) (Nat.le_of_ble_eq_true rfl) ?_
  intro p e s m args below meth c C
  generalize va_A (cWd Y S) sz = A at C ⊢
  have C : cC p s m args meth c cX11_matches 5 (some .int) A D Y tp dp RX11 := C
  refine cg_lv (lv' := [(0, .ref x0), (1, .int x1), (2, .int x2)]) rfl ?_
  unfold k_X11_matches at h
  refine cg_aload_n C (i := 0) rfl 0 rfl dX11_matches_0 ?_
  refine cg_iload_n C (i := 1) rfl 1 rfl dX11_matches_1 ?_
  obtain ⟨hc_2, h⟩ := h
  obtain ⟨hb_2, h⟩ := h
  refine cg_callr C (t_X11_snapshotOf l x0 x1 S dp h) cc_X11_317 hc_2.1 hc_2.2 (by decide) rfl rfl ⟨by decide, by decide⟩ hb_2 rfl (Nat.le_of_ble_eq_true rfl) dX11_matches_2 (fun r_1 S_1 h => ?_)
  simp only [Nat.add_zero]
  refine cg_astore_n (lv' := [(3, .ref r_1), (0, .ref x0), (1, .int x1), (2, .int x2)]) C (i := 3) rfl (Nat.le_of_ble_eq_true rfl) rfl dX11_matches_5 ?_
  refine cg_aload_n C (i := 0) rfl 1 rfl dX11_matches_6 ?_
  refine cg_iload_n C (i := 2) rfl 3 rfl dX11_matches_7 ?_
  obtain ⟨hc_8, h⟩ := h
  obtain ⟨hb_8, h⟩ := h
  refine cg_callr C (t_X11_queryOf l x0 x2 S_1 dp h) cc_X11_396 hc_8.1 hc_8.2 (by decide) rfl rfl ⟨by decide, by decide⟩ hb_8 rfl (Nat.le_of_ble_eq_true rfl) dX11_matches_8 (fun r_2 S_2 h => ?_)
  simp only [Nat.add_zero]
  refine cg_astore (lv' := [(4, .ref r_2), (3, .ref r_1), (0, .ref x0), (1, .int x1), (2, .int x2)]) C (Nat.le_of_ble_eq_true rfl) rfl dX11_matches_11 ?_
  refine cg_aload_n C (i := 0) rfl 2 rfl dX11_matches_13 ?_
  obtain ⟨hc_14, h⟩ := h
  obtain ⟨b3, hb_b3, h⟩ := h
  refine cg_get C (k := 11) (j := 12) (.ref b3) hc_14.1 hc_14.2 (by decide) rfl (by decide) rfl (show cV _ 11 12 x0 = _ from congrArg va_rf hb_b3) cWs_wsX110 cl_X11_71 rfl dX11_matches_14 ?_
  refine cg_aload_n C (i := 3) rfl 1 rfl dX11_matches_17 ?_
  refine cg_aload C 0 rfl dX11_matches_18 ?_
  obtain ⟨hc_20, h⟩ := h
  obtain ⟨mc4, ms5, hm_1, hm_2, h⟩ := h
  refine cg_callr C (t_X7_matched l mc4 ms5 b3 r_1 r_2 S_2 dp h) cc_X11_437 hc_20.1 hc_20.2 (by decide) rfl rfl ⟨by decide, by decide⟩ ⟨hm_1, hm_2⟩ rfl (Nat.le_of_ble_eq_true rfl) dX11_matches_20 (fun r_6 S_6 h => ?_)
  obtain ⟨hc_23, h⟩ := h
  obtain ⟨hb_23, h⟩ := h
  refine cg_calli C (t_Jx4a65c_size_8abf5 l r_6 S_6 dp h) cc_X11_180 hc_23.1 hc_23.2 (by decide) rfl rfl ⟨by decide, by decide⟩ hb_23 rfl (Nat.le_of_ble_eq_true rfl) dX11_matches_23 (fun r_7 S_7 h => ?_)
  simp only [Nat.add_zero]
  obtain ⟨hb_26, h⟩ := h
  exact cg_iret C h dX11_matches_26 hb_26.1 hb_26.2
def k_X11_matchesByScan (Q : Int32 → cS → Prop) (dp : Nat) (x0 : Nat) (x1 : Int32) (x2 : Int32) (S : cS) : Prop :=
cA S x0 11 ∧ (k_X11_snapshotOf (fun r_1 S_1 => 
cA S_1 x0 11 ∧ (k_X11_queryOf (fun r_2 S_2 => 
cA S_2 x0 11 ∧ ((∃ b3 : Nat, cr S_2 364 x0 = some b3 ∧ (cA S_2 b3 7 ∧ (k_X7_scannedCount (fun r_4 S_4 => 
Q r_4 S_4) dp b3 r_1 r_2 S_2))))) dp x0 x2 S_1)) dp x0 x1 S)
set_option maxHeartbeats 1000000 in
set_option maxRecDepth 20000 in
theorem t_X11_matchesByScan (l : Launch) (x0 : Nat) (x1 : Int32) (x2 : Int32) (S : cS) (dp : Nat) {P : Int32 → cS → Prop} (h : k_X11_matchesByScan P dp x0 x1 x2 S) : cMet (cQi P) l yX11_matchesByScan cX11_matchesByScan 5 (some .int) 7 0 0 157 [.ref x0, .int x1, .int x2] S dp := by
  intro D Y tp sz
  refine cg_body (by decide +kernel) (Nat.le_of_ble_eq_true rfl) ?_
  intro p e s m args below meth c C
  generalize va_A (cWd Y S) sz = A at C ⊢
  have C : cC p s m args meth c cX11_matchesByScan 5 (some .int) A D Y tp dp RX11 := C
  refine cg_lv (lv' := [(0, .ref x0), (1, .int x1), (2, .int x2)]) rfl ?_
  unfold k_X11_matchesByScan at h
  refine cg_aload_n C (i := 0) rfl 0 rfl dX11_matchesByScan_0 ?_
  refine cg_iload_n C (i := 1) rfl 1 rfl dX11_matchesByScan_1 ?_
  obtain ⟨hc_2, h⟩ := h
  refine cg_callr C (t_X11_snapshotOf l x0 x1 S dp h) cc_X11_317 hc_2.1 hc_2.2 (by decide) rfl rfl ⟨by decide, by decide⟩ ⟨by decide, by decide⟩ rfl (Nat.le_of_ble_eq_true rfl) dX11_matchesByScan_2 (fun r_1 S_1 h => ?_)
  refine cg_astore_n (lv' := [(3, .ref r_1), (0, .ref x0), (1, .int x1), (2, .int x2)]) C (i := 3) rfl (Nat.le_of_ble_eq_true rfl) rfl dX11_matchesByScan_5 ?_
  refine cg_aload_n C (i := 0) rfl 1 rfl dX11_matchesByScan_6 ?_
  refine cg_iload_n C (i := 2) rfl 3 rfl dX11_matchesByScan_7 ?_
  obtain ⟨hc_8, h⟩ := h
  refine cg_callr C (t_X11_queryOf l x0 x2 S_1 dp h) cc_X11_396 hc_8.1 hc_8.2 (by decide) rfl rfl ⟨by decide, by decide⟩ ⟨by decide, by decide⟩ rfl (Nat.le_of_ble_eq_true rfl) dX11_matchesByScan_8 (fun r_2 S_2 h => ?_)
  refine cg_astore (lv' := [(4, .ref r_2), (3, .ref r_1), (0, .ref x0), (1, .int x1), (2, .int x2)]) C (Nat.le_of_ble_eq_true rfl) rfl dX11_matchesByScan_11 ?_
  refine cg_aload_n C (i := 0) rfl 2 rfl dX11_matchesByScan_13 ?_
  obtain ⟨hc_14, h⟩ := h
  obtain ⟨b3, hb_b3, h⟩ := h
  refine cg_get C (k := 11) (j := 12) (.ref b3) hc_14.1 hc_14.2 (by decide) rfl (by decide) rfl (show cV _ 11 12 x0 = _ from congrArg va_rf hb_b3) cWs_wsX110 cl_X11_71 rfl dX11_matchesByScan_14 ?_
  refine cg_aload_n C (i := 3) rfl 1 rfl dX11_matchesByScan_17 ?_
  refine cg_aload C 0 rfl dX11_matchesByScan_18 ?_
  obtain ⟨hc_20, h⟩ := h
  refine cg_calli C (t_X7_scannedCount l b3 r_1 r_2 S_2 dp h) cc_X11_441 hc_20.1 hc_20.2 (by decide) rfl rfl ⟨by decide, by decide⟩ ⟨by decide, by decide⟩ rfl (Nat.le_of_ble_eq_true rfl) dX11_matchesByScan_20 (fun r_4 S_4 h => ?_)
  exact cg_iret C h dX11_matchesByScan_23 (by decide) (by decide)
def k_X11_facet_84 (Q : Int32 → cS → Prop) (dp : Nat) (mc ms : Nat) (R54 : Int32 → Nat → Int32 → Int32 → Nat → Nat → cS → Prop) (x3 : Int32) (x6 : Nat) (x7 : Int32) (x8 : Int32) (cd dd : Nat) (S : cS) : Prop :=
∀ x8_9 : Int32, x8_9 = x8 + nI 1 → R54 x3 x6 x7 x8_9 cd dd S
def k_X11_facet_54 (Q : Int32 → cS → Prop) (dp : Nat) (mc ms : Nat) (R54 : Int32 → Nat → Int32 → Int32 → Nat → Nat → cS → Prop) (x3 : Int32) (x6 : Nat) (x7 : Int32) (x8 : Int32) (cd dd : Nat) (S : cS) : Prop :=
cA S x6 12 ∧ ((cd ≤ mc ∧ dd ≤ ms) ∧ (k_Jx4a65c_size_8abf5 (fun r_7 S_7 => 
((r_7 ≤ x8 →
  (cd ≤ mc ∧ dd ≤ ms) ∧ (Q x7 S_7)) ∧
 (¬ r_7 ≤ x8 →
  cA S_7 x6 12 ∧ ((cd ≤ mc ∧ dd ≤ ms) ∧ (k_Jx4a65c_get_915e3 (fun r_8 S_8 => 
  cA S_8 r_8 0 ∧ (cA S_8 r_8 0 ∧ (((¬ ((ci S_8 1 r_8)) = x3 →
    k_X11_facet_84 Q dp mc ms R54 x3 x6 x7 x8 cd dd S_8) ∧
   (((ci S_8 1 r_8)) = x3 →
    ∀ x7_10 : Int32, x7_10 = x7 + nI 1 → k_X11_facet_84 Q dp mc ms R54 x3 x6 x7_10 x8 cd dd S_8))))) dp x6 x8 S_7))))) dp x6 S))
def k_X11_facet_54L (Q : Int32 → cS → Prop) (dp : Nat) (mc ms : Nat)  (x3 : Int32) (x6 : Nat) (x7 : Int32) (x8 : Int32) (cd dd : Nat) (S : cS) : Prop :=
  lfp (X := Int32 × Nat × Int32 × Int32 × Nat × Nat × cS) (fun P y => k_X11_facet_54 Q dp mc ms  (fun b0 b1 b2 b3 b4 b5 S => P (b0, b1, b2, b3, b4, b5, S)) y.1 y.2.1 y.2.2.1 y.2.2.2.1 y.2.2.2.2.1 y.2.2.2.2.2.1 y.2.2.2.2.2.2) (x3, x6, x7, x8, cd, dd, S)
def k_X11_facet (Q : Int32 → cS → Prop) (dp : Nat) (mc ms : Nat) (x0 : Nat) (x1 : Int32) (x2 : Int32) (x3 : Int32) (S : cS) : Prop :=
cA S x0 11 ∧ ((0 ≤ mc ∧ 0 ≤ ms) ∧ (k_X11_snapshotOf (fun r_1 S_1 => 
cA S_1 x0 11 ∧ ((0 ≤ mc ∧ 0 ≤ ms) ∧ (k_X11_queryOf (fun r_2 S_2 => 
((x3 < 0 →
  False) ∧
 (¬ x3 < 0 →
  ((x3 ≤ ((nI 9)) →
    cA S_2 x0 11 ∧ ((∃ b3 : Nat, cr S_2 364 x0 = some b3 ∧ (cA S_2 b3 7 ∧ ((∃ mc4 ms5 : Nat, 0 + mc4 ≤ mc ∧ 0 + ms5 ≤ ms ∧ (k_X7_matched (fun r_6 S_6 => 
    k_X11_facet_54L Q dp mc ms  x3 r_6 (((nI 0))) (((nI 0))) (0 + mc4) (0 + ms5) S_6) dp mc4 ms5 b3 r_1 r_2 S_2))))))) ∧
   (¬ x3 ≤ ((nI 9)) →
    False))))) dp x0 x2 S_1))) dp x0 x1 S))
section S_X11_facet
variable {p : Program} {l : Launch} {e : Env} {s : State} {m : MethodId} {args : Array Value} {below : List Frame} {meth : Method} {c : Code} {A : Nat → Prop} {D : va_G} {Y : cY} {tp dp : Nat}
set_option maxRecDepth 20000 in
theorem tb_X11_facet_84 {mc ms : Nat} (C : cC p s m args meth c cX11_facet 9 (some .int) A D Y tp dp RX11) {post : Int32 → cS → Prop} {R54 : Int32 → Nat → Int32 → Int32 → Nat → Nat → cS → Prop} (hR54 : ∀ (x3 : Int32) (x6 : Nat) (x7 : Int32) (x8 : Int32) (cd dd : Nat) (S : cS), R54 x3 x6 x7 x8 cd dd S → cG p l e (cRm 9 mc ms 214) s m args below meth c A D Y 9 (MQ below (cQi post D Y A) args s mc ms A) cd dd 54 [(3, .int x3), (6, .ref x6), (7, .int x7), (8, .int x8)] [] S) (x3 : Int32) (x6 : Nat) (x7 : Int32) (x8 : Int32) (cd dd : Nat) (S : cS) (h : k_X11_facet_84 post dp mc ms R54 x3 x6 x7 x8 cd dd S) : cG p l e (cRm 9 mc ms 214) s m args below meth c A D Y 9 (MQ below (cQi post D Y A) args s mc ms A) cd dd 84 [(3, .int x3), (6, .ref x6), (7, .int x7), (8, .int x8)] [] S := by
  unfold k_X11_facet_84 at h
  obtain ⟨x8_9, e_x8_9⟩ : ∃ z : Int32, z = x8 + nI 1 := ⟨_, rfl⟩
  have h := h x8_9 e_x8_9
  refine cg_iinc C (lv' := [(8, .int x8_9), (3, .int x3), (6, .ref x6), (7, .int x7)]) 3 rfl (by rw [e_x8_9]; rfl) (Nat.le_of_ble_eq_true rfl) rfl dX11_facet_84 ?_
  refine cg_goto C 54 (by decide) dX11_facet_87 ?_
  exact cg_sub [1, 2, 3, 0] rfl (hR54 x3 x6 x7 x8_9 cd dd S h)
set_option maxRecDepth 20000 in
theorem tb_X11_facet_54 {mc ms : Nat} (C : cC p s m args meth c cX11_facet 9 (some .int) A D Y tp dp RX11) {post : Int32 → cS → Prop} {R54 : Int32 → Nat → Int32 → Int32 → Nat → Nat → cS → Prop} (hR54 : ∀ (x3 : Int32) (x6 : Nat) (x7 : Int32) (x8 : Int32) (cd dd : Nat) (S : cS), R54 x3 x6 x7 x8 cd dd S → cG p l e (cRm 9 mc ms 214) s m args below meth c A D Y 9 (MQ below (cQi post D Y A) args s mc ms A) cd dd 54 [(3, .int x3), (6, .ref x6), (7, .int x7), (8, .int x8)] [] S) (x3 : Int32) (x6 : Nat) (x7 : Int32) (x8 : Int32) (cd dd : Nat) (S : cS) (h : k_X11_facet_54 post dp mc ms R54 x3 x6 x7 x8 cd dd S) : cG p l e (cRm 9 mc ms 214) s m args below meth c A D Y 9 (MQ below (cQi post D Y A) args s mc ms A) cd dd 54 [(3, .int x3), (6, .ref x6), (7, .int x7), (8, .int x8)] [] S := by
  unfold k_X11_facet_54 at h
  refine cg_iload C 3 rfl dX11_facet_54 ?_
  refine cg_aload C 1 rfl dX11_facet_56 ?_
  obtain ⟨hc_58, h⟩ := h
  obtain ⟨hb_58, h⟩ := h
  refine cg_calli C (t_Jx4a65c_size_8abf5 l x6 S dp h) cc_X11_180 hc_58.1 hc_58.2 (by decide) rfl rfl ⟨by decide, by decide⟩ hb_58 rfl (Nat.le_of_ble_eq_true rfl) dX11_facet_58 (fun r_7 S_7 h => ?_)
  simp only [Nat.add_zero]
  refine cg_icmp_ge C 90 (by decide) dX11_facet_61 (fun c_ => ?_) (fun c_ => ?_)
  · have h := h.1 c_
    refine cg_iload C 2 rfl dX11_facet_90 ?_
    obtain ⟨hb_92, h⟩ := h
    exact cg_iret C h dX11_facet_92 hb_92.1 hb_92.2
  · have h := h.2 c_
    refine cg_aload C 1 rfl dX11_facet_64 ?_
    refine cg_iload C 3 rfl dX11_facet_66 ?_
    obtain ⟨hc_68, h⟩ := h
    obtain ⟨hb_68, h⟩ := h
    refine cg_callr C (t_Jx4a65c_get_915e3 l x6 x8 S_7 dp h) cc_X11_277 hc_68.1 hc_68.2 (by decide) rfl rfl ⟨by decide, by decide⟩ hb_68 rfl (Nat.le_of_ble_eq_true rfl) dX11_facet_68 (fun r_8 S_8 h => ?_)
    simp only [Nat.add_zero]
    obtain ⟨hc_71, h⟩ := h
    refine cg_ccast C (k := 0) hc_71.1 hc_71.2 (by decide) rfl cnc_X11_16 dX11_facet_71 ?_
    obtain ⟨hc_74, h⟩ := h
    refine cg_get C (k := 0) (j := 1) (.int (ci S_8 1 r_8)) hc_74.1 hc_74.2 (by decide) rfl (by decide) rfl rfl cWs_wsX00 cl_X11_168 rfl dX11_facet_74 ?_
    refine cg_iload_n C (i := 3) rfl 0 rfl dX11_facet_77 ?_
    refine cg_icmp_ne C 84 (by decide) dX11_facet_78 (fun c_ => ?_) (fun c_ => ?_)
    · have h := h.1 c_
      exact cg_sub [0, 1, 2, 3] rfl (tb_X11_facet_84 C  hR54 x3 x6 x7 x8 cd dd S_8 h)
    · have h := h.2 c_
      obtain ⟨x7_10, e_x7_10⟩ : ∃ z : Int32, z = x7 + nI 1 := ⟨_, rfl⟩
      have h := h x7_10 e_x7_10
      refine cg_iinc C (lv' := [(7, .int x7_10), (3, .int x3), (6, .ref x6), (8, .int x8)]) 2 rfl (by rw [e_x7_10]; rfl) (Nat.le_of_ble_eq_true rfl) rfl dX11_facet_81 ?_
      exact cg_sub [1, 2, 0, 3] rfl (tb_X11_facet_84 C  hR54 x3 x6 x7_10 x8 cd dd S_8 h)
set_option maxRecDepth 20000 in
theorem tl_X11_facet_54 {mc ms : Nat} (C : cC p s m args meth c cX11_facet 9 (some .int) A D Y tp dp RX11) {post : Int32 → cS → Prop}   (x3 : Int32) (x6 : Nat) (x7 : Int32) (x8 : Int32) (cd dd : Nat) (S : cS) (h : k_X11_facet_54L post dp mc ms  x3 x6 x7 x8 cd dd S) : cG p l e (cRm 9 mc ms 214) s m args below meth c A D Y 9 (MQ below (cQi post D Y A) args s mc ms A) cd dd 54 [(3, .int x3), (6, .ref x6), (7, .int x7), (8, .int x8)] [] S :=
  h (fun y => cG p l e (cRm 9 mc ms 214) s m args below meth c A D Y 9 (MQ below (cQi post D Y A) args s mc ms A) (y.2.2.2.2.1) (y.2.2.2.2.2.1) 54 [(3, .int (y.1)), (6, .ref (y.2.1)), (7, .int (y.2.2.1)), (8, .int (y.2.2.2.1))] [] (y.2.2.2.2.2.2)) (fun y hy => tb_X11_facet_54 C   (fun b0 b1 b2 b3 b4 b5 S z => z) (y.1) (y.2.1) (y.2.2.1) (y.2.2.2.1) (y.2.2.2.2.1) (y.2.2.2.2.2.1) (y.2.2.2.2.2.2) hy)
end S_X11_facet
set_option maxHeartbeats 1000000 in
set_option maxRecDepth 20000 in
theorem t_X11_facet (l : Launch) (mc ms : Nat) (x0 : Nat) (x1 : Int32) (x2 : Int32) (x3 : Int32) (S : cS) (dp : Nat) {P : Int32 → cS → Prop} (h : k_X11_facet P dp mc ms x0 x1 x2 x3 S) : cMet (cQi P) l yX11_facet cX11_facet 9 (some .int) 9 mc ms 214 [.ref x0, .int x1, .int x2, .int x3] S dp := by
  intro D Y tp sz
  refine cg_body (by decide +kernel) (Nat.le_of_ble_eq_true rfl) ?_
  intro p e s m args below meth c C
  generalize va_A (cWd Y S) sz = A at C ⊢
  have C : cC p s m args meth c cX11_facet 9 (some .int) A D Y tp dp RX11 := C
  refine cg_lv (lv' := [(0, .ref x0), (1, .int x1), (2, .int x2), (3, .int x3)]) rfl ?_
  unfold k_X11_facet at h
  refine cg_aload_n C (i := 0) rfl 0 rfl dX11_facet_0 ?_
  refine cg_iload_n C (i := 1) rfl 1 rfl dX11_facet_1 ?_
  obtain ⟨hc_2, h⟩ := h
  obtain ⟨hb_2, h⟩ := h
  refine cg_callr C (t_X11_snapshotOf l x0 x1 S dp h) cc_X11_317 hc_2.1 hc_2.2 (by decide) rfl rfl ⟨by decide, by decide⟩ hb_2 rfl (Nat.le_of_ble_eq_true rfl) dX11_facet_2 (fun r_1 S_1 h => ?_)
  simp only [Nat.add_zero]
  refine cg_astore (lv' := [(4, .ref r_1), (0, .ref x0), (1, .int x1), (2, .int x2), (3, .int x3)]) C (Nat.le_of_ble_eq_true rfl) rfl dX11_facet_5 ?_
  refine cg_aload_n C (i := 0) rfl 1 rfl dX11_facet_7 ?_
  refine cg_iload_n C (i := 2) rfl 3 rfl dX11_facet_8 ?_
  obtain ⟨hc_9, h⟩ := h
  obtain ⟨hb_9, h⟩ := h
  refine cg_callr C (t_X11_queryOf l x0 x2 S_1 dp h) cc_X11_396 hc_9.1 hc_9.2 (by decide) rfl rfl ⟨by decide, by decide⟩ hb_9 rfl (Nat.le_of_ble_eq_true rfl) dX11_facet_9 (fun r_2 S_2 h => ?_)
  simp only [Nat.add_zero]
  refine cg_astore (lv' := [(5, .ref r_2), (4, .ref r_1), (0, .ref x0), (1, .int x1), (2, .int x2), (3, .int x3)]) C (Nat.le_of_ble_eq_true rfl) rfl dX11_facet_12 ?_
  refine cg_iload_n C (i := 3) rfl 5 rfl dX11_facet_14 ?_
  refine cg_if_lt C 24 (by decide) dX11_facet_15 (fun c_ => ?_) (fun c_ => ?_)
  · have h := h.1 c_
    exact h.elim
  · have h := h.2 c_
    refine cg_iload_n C (i := 3) rfl 5 rfl dX11_facet_18 ?_
    refine cg_bipush C (x := nI 9) rfl dX11_facet_19 ?_
    refine cg_icmp_le C 35 (by decide) dX11_facet_21 (fun c_ => ?_) (fun c_ => ?_)
    · have h := h.1 c_
      refine cg_aload_n C (i := 0) rfl 2 rfl dX11_facet_35 ?_
      obtain ⟨hc_36, h⟩ := h
      obtain ⟨b3, hb_b3, h⟩ := h
      refine cg_get C (k := 11) (j := 12) (.ref b3) hc_36.1 hc_36.2 (by decide) rfl (by decide) rfl (show cV _ 11 12 x0 = _ from congrArg va_rf hb_b3) cWs_wsX110 cl_X11_71 rfl dX11_facet_36 ?_
      refine cg_aload C 1 rfl dX11_facet_39 ?_
      refine cg_aload C 0 rfl dX11_facet_41 ?_
      obtain ⟨hc_43, h⟩ := h
      obtain ⟨mc4, ms5, hm_1, hm_2, h⟩ := h
      refine cg_callr C (t_X7_matched l mc4 ms5 b3 r_1 r_2 S_2 dp h) cc_X11_437 hc_43.1 hc_43.2 (by decide) rfl rfl ⟨by decide, by decide⟩ ⟨hm_1, hm_2⟩ rfl (Nat.le_of_ble_eq_true rfl) dX11_facet_43 (fun r_6 S_6 h => ?_)
      refine cg_astore (lv' := [(6, .ref r_6), (5, .ref r_2), (4, .ref r_1), (0, .ref x0), (1, .int x1), (2, .int x2), (3, .int x3)]) C (Nat.le_of_ble_eq_true rfl) rfl dX11_facet_46 ?_
      refine cg_iconst C (x := nI 0) rfl dX11_facet_48 ?_
      refine cg_istore C (lv' := [(7, .int ((nI 0))), (6, .ref r_6), (5, .ref r_2), (4, .ref r_1), (0, .ref x0), (1, .int x1), (2, .int x2), (3, .int x3)]) (Nat.le_of_ble_eq_true rfl) rfl dX11_facet_49 ?_
      refine cg_iconst C (x := nI 0) rfl dX11_facet_51 ?_
      refine cg_istore C (lv' := [(8, .int ((nI 0))), (7, .int ((nI 0))), (6, .ref r_6), (5, .ref r_2), (4, .ref r_1), (0, .ref x0), (1, .int x1), (2, .int x2), (3, .int x3)]) (Nat.le_of_ble_eq_true rfl) rfl dX11_facet_52 ?_
      exact cg_sub [8, 2, 1, 0] rfl (tl_X11_facet_54 C   x3 r_6 (((nI 0))) (((nI 0))) (0 + mc4) (0 + ms5) S_6 h)
    · have h := h.2 c_
      exact h.elim
def k_X11_sortedPlace_106 (Q : Int32 → cS → Prop) (dp : Nat) (R32 : Nat → Int32 → Int32 → Int32 → Int32 → Int32 → cS → Prop) (x0 : Nat) (x1 : Int32) (x2 : Int32) (x3 : Int32) (x4 : Int32) (x5 : Int32) (S : cS) : Prop :=
∀ x5_8 : Int32, x5_8 = x5 + nI 1 → R32 x0 x1 x2 x3 x4 x5_8 S
def k_X11_sortedPlace_103 (Q : Int32 → cS → Prop) (dp : Nat) (R32 : Nat → Int32 → Int32 → Int32 → Int32 → Int32 → cS → Prop) (x0 : Nat) (x1 : Int32) (x2 : Int32) (x3 : Int32) (x4 : Int32) (x5 : Int32) (S : cS) : Prop :=
∀ x4_7 : Int32, x4_7 = x4 + nI 1 → k_X11_sortedPlace_106 Q dp R32 x0 x1 x2 x3 x4_7 x5 S
def k_X11_sortedPlace_84 (Q : Int32 → cS → Prop) (dp : Nat) (R32 : Nat → Int32 → Int32 → Int32 → Int32 → Int32 → cS → Prop) (x0 : Nat) (x1 : Int32) (x2 : Int32) (x3 : Int32) (x4 : Int32) (x5 : Int32) (x6 : Int32) (t0 : Int32) (S : cS) : Prop :=
((¬ t0 = 0 →
  k_X11_sortedPlace_103 Q dp R32 x0 x1 x2 x3 x4 x5 S) ∧
 (t0 = 0 →
  ((¬ x6 = x3 →
    k_X11_sortedPlace_106 Q dp R32 x0 x1 x2 x3 x4 x5 S) ∧
   (x6 = x3 →
    ((x1 ≤ x5 →
      k_X11_sortedPlace_106 Q dp R32 x0 x1 x2 x3 x4 x5 S) ∧
     (¬ x1 ≤ x5 →
      k_X11_sortedPlace_103 Q dp R32 x0 x1 x2 x3 x4 x5 S))))))
def k_X11_sortedPlace_32 (Q : Int32 → cS → Prop) (dp : Nat) (R32 : Nat → Int32 → Int32 → Int32 → Int32 → Int32 → cS → Prop) (x0 : Nat) (x1 : Int32) (x2 : Int32) (x3 : Int32) (x4 : Int32) (x5 : Int32) (S : cS) : Prop :=
cA S x0 12 ∧ (k_Jx4a65c_size_8abf5 (fun r_4 S_4 => 
((r_4 ≤ x5 →
  Q x4 S_4) ∧
 (¬ r_4 ≤ x5 →
  cA S_4 x0 12 ∧ (k_Jx4a65c_get_915e3 (fun r_5 S_5 => 
  cA S_5 r_5 0 ∧ (cA S_5 r_5 0 ∧ (∀ x6_6 : Int32, x6_6 = (ci S_5 2 r_5) → ((x2 = 0 →
    ((x3 ≤ x6_6 →
      k_X11_sortedPlace_84 Q dp R32 x0 x1 x2 x3 x4 x5 x6_6 ((nI 0)) S_5) ∧
     (¬ x3 ≤ x6_6 →
      k_X11_sortedPlace_84 Q dp R32 x0 x1 x2 x3 x4 x5 x6_6 ((nI 1)) S_5))) ∧
   (¬ x2 = 0 →
    ((x6_6 ≤ x3 →
      k_X11_sortedPlace_84 Q dp R32 x0 x1 x2 x3 x4 x5 x6_6 ((nI 0)) S_5) ∧
     (¬ x6_6 ≤ x3 →
      k_X11_sortedPlace_84 Q dp R32 x0 x1 x2 x3 x4 x5 x6_6 ((nI 1)) S_5))))))) dp x0 x5 S_4)))) dp x0 S)
def k_X11_sortedPlace_32L (Q : Int32 → cS → Prop) (dp : Nat)  (x0 : Nat) (x1 : Int32) (x2 : Int32) (x3 : Int32) (x4 : Int32) (x5 : Int32) (S : cS) : Prop :=
  lfp (X := Nat × Int32 × Int32 × Int32 × Int32 × Int32 × cS) (fun P y => k_X11_sortedPlace_32 Q dp  (fun b0 b1 b2 b3 b4 b5 S => P (b0, b1, b2, b3, b4, b5, S)) y.1 y.2.1 y.2.2.1 y.2.2.2.1 y.2.2.2.2.1 y.2.2.2.2.2.1 y.2.2.2.2.2.2) (x0, x1, x2, x3, x4, x5, S)
def k_X11_sortedPlace (Q : Int32 → cS → Prop) (dp : Nat) (x0 : Nat) (x1 : Int32) (x2 : Int32) (S : cS) : Prop :=
((x1 < 0 →
  Q (((-1))) S) ∧
 (¬ x1 < 0 →
  cA S x0 12 ∧ (k_Jx4a65c_size_8abf5 (fun r_1 S_1 => 
  ((x1 < r_1 →
    cA S_1 x0 12 ∧ (k_Jx4a65c_get_915e3 (fun r_2 S_2 => 
    cA S_2 r_2 0 ∧ (cA S_2 r_2 0 ∧ (∀ x3_3 : Int32, x3_3 = (ci S_2 2 r_2) → k_X11_sortedPlace_32L Q dp  x0 x1 x2 x3_3 (((nI 0))) (((nI 0))) S_2))) dp x0 x1 S_1)) ∧
   (¬ x1 < r_1 →
    Q (((-1))) S_1))) dp x0 S)))
section S_X11_sortedPlace
variable {p : Program} {l : Launch} {e : Env} {s : State} {m : MethodId} {args : Array Value} {below : List Frame} {meth : Method} {c : Code} {A : Nat → Prop} {D : va_G} {Y : cY} {tp dp : Nat}
set_option maxRecDepth 20000 in
theorem tb_X11_sortedPlace_106 (C : cC p s m args meth c cX11_sortedPlace 8 (some .int) A D Y tp dp RX11) {post : Int32 → cS → Prop} {R32 : Nat → Int32 → Int32 → Int32 → Int32 → Int32 → cS → Prop} (hR32 : ∀ (x0 : Nat) (x1 : Int32) (x2 : Int32) (x3 : Int32) (x4 : Int32) (x5 : Int32) (S : cS), R32 x0 x1 x2 x3 x4 x5 S → cG p l e (cRm 3 0 0 64) s m args below meth c A D Y 8 (MQ below (cQi post D Y A) args s 0 0 A) 0 0 32 [(0, .ref x0), (1, .int x1), (2, .int x2), (3, .int x3), (4, .int x4), (5, .int x5)] [] S) (x0 : Nat) (x1 : Int32) (x2 : Int32) (x3 : Int32) (x4 : Int32) (x5 : Int32) (S : cS) (h : k_X11_sortedPlace_106 post dp R32 x0 x1 x2 x3 x4 x5 S) : cG p l e (cRm 3 0 0 64) s m args below meth c A D Y 8 (MQ below (cQi post D Y A) args s 0 0 A) 0 0 106 [(0, .ref x0), (1, .int x1), (2, .int x2), (3, .int x3), (4, .int x4), (5, .int x5)] [] S := by
  unfold k_X11_sortedPlace_106 at h
  obtain ⟨x5_8, e_x5_8⟩ : ∃ z : Int32, z = x5 + nI 1 := ⟨_, rfl⟩
  have h := h x5_8 e_x5_8
  refine cg_iinc C (lv' := [(5, .int x5_8), (0, .ref x0), (1, .int x1), (2, .int x2), (3, .int x3), (4, .int x4)]) 5 rfl (by rw [e_x5_8]; rfl) (Nat.le_of_ble_eq_true rfl) rfl dX11_sortedPlace_106 ?_
  refine cg_goto C 32 (by decide) dX11_sortedPlace_109 ?_
  exact cg_sub [1, 2, 3, 4, 5, 0] rfl (hR32 x0 x1 x2 x3 x4 x5_8 S h)
set_option maxRecDepth 20000 in
theorem tb_X11_sortedPlace_103 (C : cC p s m args meth c cX11_sortedPlace 8 (some .int) A D Y tp dp RX11) {post : Int32 → cS → Prop} {R32 : Nat → Int32 → Int32 → Int32 → Int32 → Int32 → cS → Prop} (hR32 : ∀ (x0 : Nat) (x1 : Int32) (x2 : Int32) (x3 : Int32) (x4 : Int32) (x5 : Int32) (S : cS), R32 x0 x1 x2 x3 x4 x5 S → cG p l e (cRm 3 0 0 64) s m args below meth c A D Y 8 (MQ below (cQi post D Y A) args s 0 0 A) 0 0 32 [(0, .ref x0), (1, .int x1), (2, .int x2), (3, .int x3), (4, .int x4), (5, .int x5)] [] S) (x0 : Nat) (x1 : Int32) (x2 : Int32) (x3 : Int32) (x4 : Int32) (x5 : Int32) (S : cS) (h : k_X11_sortedPlace_103 post dp R32 x0 x1 x2 x3 x4 x5 S) : cG p l e (cRm 3 0 0 64) s m args below meth c A D Y 8 (MQ below (cQi post D Y A) args s 0 0 A) 0 0 103 [(0, .ref x0), (1, .int x1), (2, .int x2), (3, .int x3), (4, .int x4), (5, .int x5)] [] S := by
  unfold k_X11_sortedPlace_103 at h
  obtain ⟨x4_7, e_x4_7⟩ : ∃ z : Int32, z = x4 + nI 1 := ⟨_, rfl⟩
  have h := h x4_7 e_x4_7
  refine cg_iinc C (lv' := [(4, .int x4_7), (0, .ref x0), (1, .int x1), (2, .int x2), (3, .int x3), (5, .int x5)]) 4 rfl (by rw [e_x4_7]; rfl) (Nat.le_of_ble_eq_true rfl) rfl dX11_sortedPlace_103 ?_
  exact cg_sub [1, 2, 3, 4, 0, 5] rfl (tb_X11_sortedPlace_106 C  hR32 x0 x1 x2 x3 x4_7 x5 S h)
set_option maxRecDepth 20000 in
theorem tb_X11_sortedPlace_84 (C : cC p s m args meth c cX11_sortedPlace 8 (some .int) A D Y tp dp RX11) {post : Int32 → cS → Prop} {R32 : Nat → Int32 → Int32 → Int32 → Int32 → Int32 → cS → Prop} (hR32 : ∀ (x0 : Nat) (x1 : Int32) (x2 : Int32) (x3 : Int32) (x4 : Int32) (x5 : Int32) (S : cS), R32 x0 x1 x2 x3 x4 x5 S → cG p l e (cRm 3 0 0 64) s m args below meth c A D Y 8 (MQ below (cQi post D Y A) args s 0 0 A) 0 0 32 [(0, .ref x0), (1, .int x1), (2, .int x2), (3, .int x3), (4, .int x4), (5, .int x5)] [] S) (x0 : Nat) (x1 : Int32) (x2 : Int32) (x3 : Int32) (x4 : Int32) (x5 : Int32) (x6 : Int32) (t0 : Int32) (S : cS) (h : k_X11_sortedPlace_84 post dp R32 x0 x1 x2 x3 x4 x5 x6 t0 S) : cG p l e (cRm 3 0 0 64) s m args below meth c A D Y 8 (MQ below (cQi post D Y A) args s 0 0 A) 0 0 84 [(0, .ref x0), (1, .int x1), (2, .int x2), (3, .int x3), (4, .int x4), (5, .int x5), (6, .int x6)] [.int t0] S := by
  unfold k_X11_sortedPlace_84 at h
  refine cg_istore C (lv' := [(7, .int t0), (0, .ref x0), (1, .int x1), (2, .int x2), (3, .int x3), (4, .int x4), (5, .int x5), (6, .int x6)]) (Nat.le_of_ble_eq_true rfl) rfl dX11_sortedPlace_84 ?_
  refine cg_iload C 0 rfl dX11_sortedPlace_86 ?_
  refine cg_if_ne C 103 (by decide) dX11_sortedPlace_88 (fun c_ => ?_) (fun c_ => ?_)
  · have h := h.1 c_
    exact cg_sub [1, 2, 3, 4, 5, 6] rfl (tb_X11_sortedPlace_103 C  hR32 x0 x1 x2 x3 x4 x5 S h)
  · have h := h.2 c_
    refine cg_iload C 7 rfl dX11_sortedPlace_91 ?_
    refine cg_iload_n C (i := 3) rfl 4 rfl dX11_sortedPlace_93 ?_
    refine cg_icmp_ne C 106 (by decide) dX11_sortedPlace_94 (fun c_ => ?_) (fun c_ => ?_)
    · have h := h.1 c_
      exact cg_sub [1, 2, 3, 4, 5, 6] rfl (tb_X11_sortedPlace_106 C  hR32 x0 x1 x2 x3 x4 x5 S h)
    · have h := h.2 c_
      refine cg_iload C 6 rfl dX11_sortedPlace_97 ?_
      refine cg_iload_n C (i := 1) rfl 2 rfl dX11_sortedPlace_99 ?_
      refine cg_icmp_ge C 106 (by decide) dX11_sortedPlace_100 (fun c_ => ?_) (fun c_ => ?_)
      · have h := h.1 c_
        exact cg_sub [1, 2, 3, 4, 5, 6] rfl (tb_X11_sortedPlace_106 C  hR32 x0 x1 x2 x3 x4 x5 S h)
      · have h := h.2 c_
        exact cg_sub [1, 2, 3, 4, 5, 6] rfl (tb_X11_sortedPlace_103 C  hR32 x0 x1 x2 x3 x4 x5 S h)
set_option maxRecDepth 20000 in
theorem tb_X11_sortedPlace_32 (C : cC p s m args meth c cX11_sortedPlace 8 (some .int) A D Y tp dp RX11) {post : Int32 → cS → Prop} {R32 : Nat → Int32 → Int32 → Int32 → Int32 → Int32 → cS → Prop} (hR32 : ∀ (x0 : Nat) (x1 : Int32) (x2 : Int32) (x3 : Int32) (x4 : Int32) (x5 : Int32) (S : cS), R32 x0 x1 x2 x3 x4 x5 S → cG p l e (cRm 3 0 0 64) s m args below meth c A D Y 8 (MQ below (cQi post D Y A) args s 0 0 A) 0 0 32 [(0, .ref x0), (1, .int x1), (2, .int x2), (3, .int x3), (4, .int x4), (5, .int x5)] [] S) (x0 : Nat) (x1 : Int32) (x2 : Int32) (x3 : Int32) (x4 : Int32) (x5 : Int32) (S : cS) (h : k_X11_sortedPlace_32 post dp R32 x0 x1 x2 x3 x4 x5 S) : cG p l e (cRm 3 0 0 64) s m args below meth c A D Y 8 (MQ below (cQi post D Y A) args s 0 0 A) 0 0 32 [(0, .ref x0), (1, .int x1), (2, .int x2), (3, .int x3), (4, .int x4), (5, .int x5)] [] S := by
  unfold k_X11_sortedPlace_32 at h
  refine cg_iload C 5 rfl dX11_sortedPlace_32 ?_
  refine cg_aload_n C (i := 0) rfl 0 rfl dX11_sortedPlace_34 ?_
  obtain ⟨hc_35, h⟩ := h
  refine cg_calli C (t_Jx4a65c_size_8abf5 l x0 S dp h) cc_X11_180 hc_35.1 hc_35.2 (by decide) rfl rfl ⟨by decide, by decide⟩ ⟨by decide, by decide⟩ rfl (Nat.le_of_ble_eq_true rfl) dX11_sortedPlace_35 (fun r_4 S_4 h => ?_)
  refine cg_icmp_ge C 112 (by decide) dX11_sortedPlace_38 (fun c_ => ?_) (fun c_ => ?_)
  · have h := h.1 c_
    refine cg_iload C 4 rfl dX11_sortedPlace_112 ?_
    exact cg_iret C h dX11_sortedPlace_114 (by decide) (by decide)
  · have h := h.2 c_
    refine cg_aload_n C (i := 0) rfl 0 rfl dX11_sortedPlace_41 ?_
    refine cg_iload C 5 rfl dX11_sortedPlace_42 ?_
    obtain ⟨hc_44, h⟩ := h
    refine cg_callr C (t_Jx4a65c_get_915e3 l x0 x5 S_4 dp h) cc_X11_277 hc_44.1 hc_44.2 (by decide) rfl rfl ⟨by decide, by decide⟩ ⟨by decide, by decide⟩ rfl (Nat.le_of_ble_eq_true rfl) dX11_sortedPlace_44 (fun r_5 S_5 h => ?_)
    obtain ⟨hc_47, h⟩ := h
    refine cg_ccast C (k := 0) hc_47.1 hc_47.2 (by decide) rfl cnc_X11_16 dX11_sortedPlace_47 ?_
    obtain ⟨hc_50, h⟩ := h
    refine cg_get C (k := 0) (j := 2) (.int (ci S_5 2 r_5)) hc_50.1 hc_50.2 (by decide) rfl (by decide) rfl rfl cWs_wsX00 cl_X11_171 rfl dX11_sortedPlace_50 ?_
    refine cg_nmI (fun x6_6 e_x6_6 => ?_)
    have h := h x6_6 e_x6_6
    refine cg_istore C (lv' := [(6, .int x6_6), (0, .ref x0), (1, .int x1), (2, .int x2), (3, .int x3), (4, .int x4), (5, .int x5)]) (Nat.le_of_ble_eq_true rfl) rfl dX11_sortedPlace_53 ?_
    refine cg_iload_n C (i := 2) rfl 3 rfl dX11_sortedPlace_55 ?_
    refine cg_if_eq C 73 (by decide) dX11_sortedPlace_56 (fun c_ => ?_) (fun c_ => ?_)
    · have h := h.1 c_
      refine cg_iload C 0 rfl dX11_sortedPlace_73 ?_
      refine cg_iload_n C (i := 3) rfl 4 rfl dX11_sortedPlace_75 ?_
      refine cg_icmp_ge C 83 (by decide) dX11_sortedPlace_76 (fun c_ => ?_) (fun c_ => ?_)
      · have h := h.1 c_
        refine cg_iconst C (x := nI 0) rfl dX11_sortedPlace_83 ?_
        exact cg_sub [1, 2, 3, 4, 5, 6, 0] rfl (tb_X11_sortedPlace_84 C  hR32 x0 x1 x2 x3 x4 x5 x6_6 ((nI 0)) S_5 h)
      · have h := h.2 c_
        refine cg_iconst C (x := nI 1) rfl dX11_sortedPlace_79 ?_
        refine cg_goto C 84 (by decide) dX11_sortedPlace_80 ?_
        exact cg_sub [1, 2, 3, 4, 5, 6, 0] rfl (tb_X11_sortedPlace_84 C  hR32 x0 x1 x2 x3 x4 x5 x6_6 ((nI 1)) S_5 h)
    · have h := h.2 c_
      refine cg_iload C 0 rfl dX11_sortedPlace_59 ?_
      refine cg_iload_n C (i := 3) rfl 4 rfl dX11_sortedPlace_61 ?_
      refine cg_icmp_le C 69 (by decide) dX11_sortedPlace_62 (fun c_ => ?_) (fun c_ => ?_)
      · have h := h.1 c_
        refine cg_iconst C (x := nI 0) rfl dX11_sortedPlace_69 ?_
        refine cg_goto C 84 (by decide) dX11_sortedPlace_70 ?_
        exact cg_sub [1, 2, 3, 4, 5, 6, 0] rfl (tb_X11_sortedPlace_84 C  hR32 x0 x1 x2 x3 x4 x5 x6_6 ((nI 0)) S_5 h)
      · have h := h.2 c_
        refine cg_iconst C (x := nI 1) rfl dX11_sortedPlace_65 ?_
        refine cg_goto C 84 (by decide) dX11_sortedPlace_66 ?_
        exact cg_sub [1, 2, 3, 4, 5, 6, 0] rfl (tb_X11_sortedPlace_84 C  hR32 x0 x1 x2 x3 x4 x5 x6_6 ((nI 1)) S_5 h)
set_option maxRecDepth 20000 in
theorem tl_X11_sortedPlace_32 (C : cC p s m args meth c cX11_sortedPlace 8 (some .int) A D Y tp dp RX11) {post : Int32 → cS → Prop}   (x0 : Nat) (x1 : Int32) (x2 : Int32) (x3 : Int32) (x4 : Int32) (x5 : Int32) (S : cS) (h : k_X11_sortedPlace_32L post dp  x0 x1 x2 x3 x4 x5 S) : cG p l e (cRm 3 0 0 64) s m args below meth c A D Y 8 (MQ below (cQi post D Y A) args s 0 0 A) 0 0 32 [(0, .ref x0), (1, .int x1), (2, .int x2), (3, .int x3), (4, .int x4), (5, .int x5)] [] S :=
  h (fun y => cG p l e (cRm 3 0 0 64) s m args below meth c A D Y 8 (MQ below (cQi post D Y A) args s 0 0 A) 0 0 32 [(0, .ref (y.1)), (1, .int (y.2.1)), (2, .int (y.2.2.1)), (3, .int (y.2.2.2.1)), (4, .int (y.2.2.2.2.1)), (5, .int (y.2.2.2.2.2.1))] [] (y.2.2.2.2.2.2)) (fun y hy => tb_X11_sortedPlace_32 C   (fun b0 b1 b2 b3 b4 b5 S z => z) (y.1) (y.2.1) (y.2.2.1) (y.2.2.2.1) (y.2.2.2.2.1) (y.2.2.2.2.2.1) (y.2.2.2.2.2.2) hy)
end S_X11_sortedPlace
set_option maxHeartbeats 1000000 in
set_option maxRecDepth 20000 in
theorem t_X11_sortedPlace (l : Launch) (x0 : Nat) (x1 : Int32) (x2 : Int32) (S : cS) (dp : Nat) {P : Int32 → cS → Prop} (h : k_X11_sortedPlace P dp x0 x1 x2 S) : cMet (cQi P) l yX11_sortedPlace cX11_sortedPlace 8 (some .int) 3 0 0 64 [.ref x0, .int x1, .int x2] S dp := by
  intro D Y tp sz
  refine cg_body (by decide +kernel) (Nat.le_of_ble_eq_true rfl) ?_
  intro p e s m args below meth c C
  generalize va_A (cWd Y S) sz = A at C ⊢
  have C : cC p s m args meth c cX11_sortedPlace 8 (some .int) A D Y tp dp RX11 := C
  refine cg_lv (lv' := [(0, .ref x0), (1, .int x1), (2, .int x2)]) rfl ?_
  unfold k_X11_sortedPlace at h
  refine cg_iload_n C (i := 1) rfl 1 rfl dX11_sortedPlace_0 ?_
  refine cg_if_lt C 12 (by decide) dX11_sortedPlace_1 (fun c_ => ?_) (fun c_ => ?_)
  · have h := h.1 c_
    refine cg_iconst C (x := (-1)) rfl dX11_sortedPlace_12 ?_
    exact cg_iret C h dX11_sortedPlace_13 (by decide) (by decide)
  · have h := h.2 c_
    refine cg_iload_n C (i := 1) rfl 1 rfl dX11_sortedPlace_4 ?_
    refine cg_aload_n C (i := 0) rfl 0 rfl dX11_sortedPlace_5 ?_
    obtain ⟨hc_6, h⟩ := h
    refine cg_calli C (t_Jx4a65c_size_8abf5 l x0 S dp h) cc_X11_180 hc_6.1 hc_6.2 (by decide) rfl rfl ⟨by decide, by decide⟩ ⟨by decide, by decide⟩ rfl (Nat.le_of_ble_eq_true rfl) dX11_sortedPlace_6 (fun r_1 S_1 h => ?_)
    refine cg_icmp_lt C 14 (by decide) dX11_sortedPlace_9 (fun c_ => ?_) (fun c_ => ?_)
    · have h := h.1 c_
      refine cg_aload_n C (i := 0) rfl 0 rfl dX11_sortedPlace_14 ?_
      refine cg_iload_n C (i := 1) rfl 1 rfl dX11_sortedPlace_15 ?_
      obtain ⟨hc_16, h⟩ := h
      refine cg_callr C (t_Jx4a65c_get_915e3 l x0 x1 S_1 dp h) cc_X11_277 hc_16.1 hc_16.2 (by decide) rfl rfl ⟨by decide, by decide⟩ ⟨by decide, by decide⟩ rfl (Nat.le_of_ble_eq_true rfl) dX11_sortedPlace_16 (fun r_2 S_2 h => ?_)
      obtain ⟨hc_19, h⟩ := h
      refine cg_ccast C (k := 0) hc_19.1 hc_19.2 (by decide) rfl cnc_X11_16 dX11_sortedPlace_19 ?_
      obtain ⟨hc_22, h⟩ := h
      refine cg_get C (k := 0) (j := 2) (.int (ci S_2 2 r_2)) hc_22.1 hc_22.2 (by decide) rfl (by decide) rfl rfl cWs_wsX00 cl_X11_171 rfl dX11_sortedPlace_22 ?_
      refine cg_nmI (fun x3_3 e_x3_3 => ?_)
      have h := h x3_3 e_x3_3
      refine cg_istore_n C (i := 3) (lv' := [(3, .int x3_3), (0, .ref x0), (1, .int x1), (2, .int x2)]) rfl (Nat.le_of_ble_eq_true rfl) rfl dX11_sortedPlace_25 ?_
      refine cg_iconst C (x := nI 0) rfl dX11_sortedPlace_26 ?_
      refine cg_istore C (lv' := [(4, .int ((nI 0))), (3, .int x3_3), (0, .ref x0), (1, .int x1), (2, .int x2)]) (Nat.le_of_ble_eq_true rfl) rfl dX11_sortedPlace_27 ?_
      refine cg_iconst C (x := nI 0) rfl dX11_sortedPlace_29 ?_
      refine cg_istore C (lv' := [(5, .int ((nI 0))), (4, .int ((nI 0))), (3, .int x3_3), (0, .ref x0), (1, .int x1), (2, .int x2)]) (Nat.le_of_ble_eq_true rfl) rfl dX11_sortedPlace_30 ?_
      exact cg_sub [3, 4, 5, 2, 1, 0] rfl (tl_X11_sortedPlace_32 C   x0 x1 x2 x3_3 (((nI 0))) (((nI 0))) S_2 h)
    · have h := h.2 c_
      refine cg_iconst C (x := (-1)) rfl dX11_sortedPlace_12 ?_
      exact cg_iret C h dX11_sortedPlace_13 (by decide) (by decide)
def k_X11_sortedAt_30 (Q : Int32 → cS → Prop) (dp : Nat) (mc ms : Nat) (R30 : Int32 → Int32 → Nat → Int32 → Nat → Nat → cS → Prop) (x3 : Int32) (x4 : Int32) (x7 : Nat) (x8 : Int32) (cd dd : Nat) (S : cS) : Prop :=
cA S x7 12 ∧ ((cd ≤ mc ∧ dd ≤ ms) ∧ (k_Jx4a65c_size_8abf5 (fun r_7 S_7 => 
((r_7 ≤ x8 →
  False) ∧
 (¬ r_7 ≤ x8 →
  (cd ≤ mc ∧ dd ≤ ms) ∧ (k_X11_sortedPlace (fun r_8 S_8 => 
  ((¬ r_8 = x4 →
    ∀ x8_9 : Int32, x8_9 = x8 + nI 1 → R30 x3 x4 x7 x8_9 cd dd S_8) ∧
   (r_8 = x4 →
    cA S_8 x7 12 ∧ ((cd ≤ mc ∧ dd ≤ ms) ∧ (k_Jx4a65c_get_915e3 (fun r_10 S_10 => 
    cA S_10 r_10 0 ∧ (cA S_10 r_10 0 ∧ ((cd ≤ mc ∧ dd ≤ ms) ∧ (Q ((ci S_10 0 r_10)) S_10)))) dp x7 x8 S_8))))) dp x7 x8 x3 S_7)))) dp x7 S))
def k_X11_sortedAt_30L (Q : Int32 → cS → Prop) (dp : Nat) (mc ms : Nat)  (x3 : Int32) (x4 : Int32) (x7 : Nat) (x8 : Int32) (cd dd : Nat) (S : cS) : Prop :=
  lfp (X := Int32 × Int32 × Nat × Int32 × Nat × Nat × cS) (fun P y => k_X11_sortedAt_30 Q dp mc ms  (fun b0 b1 b2 b3 b4 b5 S => P (b0, b1, b2, b3, b4, b5, S)) y.1 y.2.1 y.2.2.1 y.2.2.2.1 y.2.2.2.2.1 y.2.2.2.2.2.1 y.2.2.2.2.2.2) (x3, x4, x7, x8, cd, dd, S)
def k_X11_sortedAt (Q : Int32 → cS → Prop) (dp : Nat) (mc ms : Nat) (x0 : Nat) (x1 : Int32) (x2 : Int32) (x3 : Int32) (x4 : Int32) (S : cS) : Prop :=
cA S x0 11 ∧ ((0 ≤ mc ∧ 0 ≤ ms) ∧ (k_X11_snapshotOf (fun r_1 S_1 => 
cA S_1 x0 11 ∧ ((0 ≤ mc ∧ 0 ≤ ms) ∧ (k_X11_queryOf (fun r_2 S_2 => 
cA S_2 x0 11 ∧ ((∃ b3 : Nat, cr S_2 364 x0 = some b3 ∧ (cA S_2 b3 7 ∧ ((∃ mc4 ms5 : Nat, 0 + mc4 ≤ mc ∧ 0 + ms5 ≤ ms ∧ (k_X7_matched (fun r_6 S_6 => 
k_X11_sortedAt_30L Q dp mc ms  x3 x4 r_6 (((nI 0))) (0 + mc4) (0 + ms5) S_6) dp mc4 ms5 b3 r_1 r_2 S_2))))))) dp x0 x2 S_1))) dp x0 x1 S))
section S_X11_sortedAt
variable {p : Program} {l : Launch} {e : Env} {s : State} {m : MethodId} {args : Array Value} {below : List Frame} {meth : Method} {c : Code} {A : Nat → Prop} {D : va_G} {Y : cY} {tp dp : Nat}
set_option maxRecDepth 20000 in
theorem tb_X11_sortedAt_30 {mc ms : Nat} (C : cC p s m args meth c cX11_sortedAt 9 (some .int) A D Y tp dp RX11) {post : Int32 → cS → Prop} {R30 : Int32 → Int32 → Nat → Int32 → Nat → Nat → cS → Prop} (hR30 : ∀ (x3 : Int32) (x4 : Int32) (x7 : Nat) (x8 : Int32) (cd dd : Nat) (S : cS), R30 x3 x4 x7 x8 cd dd S → cG p l e (cRm 9 mc ms 214) s m args below meth c A D Y 9 (MQ below (cQi post D Y A) args s mc ms A) cd dd 30 [(3, .int x3), (4, .int x4), (7, .ref x7), (8, .int x8)] [] S) (x3 : Int32) (x4 : Int32) (x7 : Nat) (x8 : Int32) (cd dd : Nat) (S : cS) (h : k_X11_sortedAt_30 post dp mc ms R30 x3 x4 x7 x8 cd dd S) : cG p l e (cRm 9 mc ms 214) s m args below meth c A D Y 9 (MQ below (cQi post D Y A) args s mc ms A) cd dd 30 [(3, .int x3), (4, .int x4), (7, .ref x7), (8, .int x8)] [] S := by
  unfold k_X11_sortedAt_30 at h
  refine cg_iload C 3 rfl dX11_sortedAt_30 ?_
  refine cg_aload C 2 rfl dX11_sortedAt_32 ?_
  obtain ⟨hc_34, h⟩ := h
  obtain ⟨hb_34, h⟩ := h
  refine cg_calli C (t_Jx4a65c_size_8abf5 l x7 S dp h) cc_X11_180 hc_34.1 hc_34.2 (by decide) rfl rfl ⟨by decide, by decide⟩ hb_34 rfl (Nat.le_of_ble_eq_true rfl) dX11_sortedAt_34 (fun r_7 S_7 h => ?_)
  simp only [Nat.add_zero]
  refine cg_icmp_ge C 73 (by decide) dX11_sortedAt_37 (fun c_ => ?_) (fun c_ => ?_)
  · have h := h.1 c_
    exact h.elim
  · have h := h.2 c_
    refine cg_aload C 2 rfl dX11_sortedAt_40 ?_
    refine cg_iload C 3 rfl dX11_sortedAt_42 ?_
    refine cg_iload_n C (i := 3) rfl 0 rfl dX11_sortedAt_44 ?_
    obtain ⟨hb_45, h⟩ := h
    refine cg_callsi C (t_X11_sortedPlace l x7 x8 x3 S_7 dp h) cc_X11_447 rfl ⟨by decide, by decide⟩ hb_45 rfl (Nat.le_of_ble_eq_true rfl) dX11_sortedAt_45 (fun r_8 S_8 h => ?_)
    simp only [Nat.add_zero]
    refine cg_iload C 1 rfl dX11_sortedAt_48 ?_
    refine cg_icmp_ne C 67 (by decide) dX11_sortedAt_50 (fun c_ => ?_) (fun c_ => ?_)
    · have h := h.1 c_
      obtain ⟨x8_9, e_x8_9⟩ : ∃ z : Int32, z = x8 + nI 1 := ⟨_, rfl⟩
      have h := h x8_9 e_x8_9
      refine cg_iinc C (lv' := [(8, .int x8_9), (3, .int x3), (4, .int x4), (7, .ref x7)]) 3 rfl (by rw [e_x8_9]; rfl) (Nat.le_of_ble_eq_true rfl) rfl dX11_sortedAt_67 ?_
      refine cg_goto C 30 (by decide) dX11_sortedAt_70 ?_
      exact cg_sub [1, 2, 3, 0] rfl (hR30 x3 x4 x7 x8_9 cd dd S_8 h)
    · have h := h.2 c_
      refine cg_aload C 2 rfl dX11_sortedAt_53 ?_
      refine cg_iload C 3 rfl dX11_sortedAt_55 ?_
      obtain ⟨hc_57, h⟩ := h
      obtain ⟨hb_57, h⟩ := h
      refine cg_callr C (t_Jx4a65c_get_915e3 l x7 x8 S_8 dp h) cc_X11_277 hc_57.1 hc_57.2 (by decide) rfl rfl ⟨by decide, by decide⟩ hb_57 rfl (Nat.le_of_ble_eq_true rfl) dX11_sortedAt_57 (fun r_10 S_10 h => ?_)
      simp only [Nat.add_zero]
      obtain ⟨hc_60, h⟩ := h
      refine cg_ccast C (k := 0) hc_60.1 hc_60.2 (by decide) rfl cnc_X11_16 dX11_sortedAt_60 ?_
      obtain ⟨hc_63, h⟩ := h
      refine cg_get C (k := 0) (j := 0) (.int (ci S_10 0 r_10)) hc_63.1 hc_63.2 (by decide) rfl (by decide) rfl rfl cWs_wsX00 cl_X11_193 rfl dX11_sortedAt_63 ?_
      obtain ⟨hb_66, h⟩ := h
      exact cg_iret C h dX11_sortedAt_66 hb_66.1 hb_66.2
set_option maxRecDepth 20000 in
theorem tl_X11_sortedAt_30 {mc ms : Nat} (C : cC p s m args meth c cX11_sortedAt 9 (some .int) A D Y tp dp RX11) {post : Int32 → cS → Prop}   (x3 : Int32) (x4 : Int32) (x7 : Nat) (x8 : Int32) (cd dd : Nat) (S : cS) (h : k_X11_sortedAt_30L post dp mc ms  x3 x4 x7 x8 cd dd S) : cG p l e (cRm 9 mc ms 214) s m args below meth c A D Y 9 (MQ below (cQi post D Y A) args s mc ms A) cd dd 30 [(3, .int x3), (4, .int x4), (7, .ref x7), (8, .int x8)] [] S :=
  h (fun y => cG p l e (cRm 9 mc ms 214) s m args below meth c A D Y 9 (MQ below (cQi post D Y A) args s mc ms A) (y.2.2.2.2.1) (y.2.2.2.2.2.1) 30 [(3, .int (y.1)), (4, .int (y.2.1)), (7, .ref (y.2.2.1)), (8, .int (y.2.2.2.1))] [] (y.2.2.2.2.2.2)) (fun y hy => tb_X11_sortedAt_30 C   (fun b0 b1 b2 b3 b4 b5 S z => z) (y.1) (y.2.1) (y.2.2.1) (y.2.2.2.1) (y.2.2.2.2.1) (y.2.2.2.2.2.1) (y.2.2.2.2.2.2) hy)
end S_X11_sortedAt
set_option maxHeartbeats 1000000 in
set_option maxRecDepth 20000 in
theorem t_X11_sortedAt (l : Launch) (mc ms : Nat) (x0 : Nat) (x1 : Int32) (x2 : Int32) (x3 : Int32) (x4 : Int32) (S : cS) (dp : Nat) {P : Int32 → cS → Prop} (h : k_X11_sortedAt P dp mc ms x0 x1 x2 x3 x4 S) : cMet (cQi P) l yX11_sortedAt cX11_sortedAt 9 (some .int) 9 mc ms 214 [.ref x0, .int x1, .int x2, .int x3, .int x4] S dp := by
  intro D Y tp sz
  refine cg_body (by decide +kernel) (Nat.le_of_ble_eq_true rfl) ?_
  intro p e s m args below meth c C
  generalize va_A (cWd Y S) sz = A at C ⊢
  have C : cC p s m args meth c cX11_sortedAt 9 (some .int) A D Y tp dp RX11 := C
  refine cg_lv (lv' := [(0, .ref x0), (1, .int x1), (2, .int x2), (3, .int x3), (4, .int x4)]) rfl ?_
  unfold k_X11_sortedAt at h
  refine cg_aload_n C (i := 0) rfl 0 rfl dX11_sortedAt_0 ?_
  refine cg_iload_n C (i := 1) rfl 1 rfl dX11_sortedAt_1 ?_
  obtain ⟨hc_2, h⟩ := h
  obtain ⟨hb_2, h⟩ := h
  refine cg_callr C (t_X11_snapshotOf l x0 x1 S dp h) cc_X11_317 hc_2.1 hc_2.2 (by decide) rfl rfl ⟨by decide, by decide⟩ hb_2 rfl (Nat.le_of_ble_eq_true rfl) dX11_sortedAt_2 (fun r_1 S_1 h => ?_)
  simp only [Nat.add_zero]
  refine cg_astore (lv' := [(5, .ref r_1), (0, .ref x0), (1, .int x1), (2, .int x2), (3, .int x3), (4, .int x4)]) C (Nat.le_of_ble_eq_true rfl) rfl dX11_sortedAt_5 ?_
  refine cg_aload_n C (i := 0) rfl 1 rfl dX11_sortedAt_7 ?_
  refine cg_iload_n C (i := 2) rfl 3 rfl dX11_sortedAt_8 ?_
  obtain ⟨hc_9, h⟩ := h
  obtain ⟨hb_9, h⟩ := h
  refine cg_callr C (t_X11_queryOf l x0 x2 S_1 dp h) cc_X11_396 hc_9.1 hc_9.2 (by decide) rfl rfl ⟨by decide, by decide⟩ hb_9 rfl (Nat.le_of_ble_eq_true rfl) dX11_sortedAt_9 (fun r_2 S_2 h => ?_)
  simp only [Nat.add_zero]
  refine cg_astore (lv' := [(6, .ref r_2), (5, .ref r_1), (0, .ref x0), (1, .int x1), (2, .int x2), (3, .int x3), (4, .int x4)]) C (Nat.le_of_ble_eq_true rfl) rfl dX11_sortedAt_12 ?_
  refine cg_aload_n C (i := 0) rfl 2 rfl dX11_sortedAt_14 ?_
  obtain ⟨hc_15, h⟩ := h
  obtain ⟨b3, hb_b3, h⟩ := h
  refine cg_get C (k := 11) (j := 12) (.ref b3) hc_15.1 hc_15.2 (by decide) rfl (by decide) rfl (show cV _ 11 12 x0 = _ from congrArg va_rf hb_b3) cWs_wsX110 cl_X11_71 rfl dX11_sortedAt_15 ?_
  refine cg_aload C 1 rfl dX11_sortedAt_18 ?_
  refine cg_aload C 0 rfl dX11_sortedAt_20 ?_
  obtain ⟨hc_22, h⟩ := h
  obtain ⟨mc4, ms5, hm_1, hm_2, h⟩ := h
  refine cg_callr C (t_X7_matched l mc4 ms5 b3 r_1 r_2 S_2 dp h) cc_X11_437 hc_22.1 hc_22.2 (by decide) rfl rfl ⟨by decide, by decide⟩ ⟨hm_1, hm_2⟩ rfl (Nat.le_of_ble_eq_true rfl) dX11_sortedAt_22 (fun r_6 S_6 h => ?_)
  refine cg_astore (lv' := [(7, .ref r_6), (6, .ref r_2), (5, .ref r_1), (0, .ref x0), (1, .int x1), (2, .int x2), (3, .int x3), (4, .int x4)]) C (Nat.le_of_ble_eq_true rfl) rfl dX11_sortedAt_25 ?_
  refine cg_iconst C (x := nI 0) rfl dX11_sortedAt_27 ?_
  refine cg_istore C (lv' := [(8, .int ((nI 0))), (7, .ref r_6), (6, .ref r_2), (5, .ref r_1), (0, .ref x0), (1, .int x1), (2, .int x2), (3, .int x3), (4, .int x4)]) (Nat.le_of_ble_eq_true rfl) rfl dX11_sortedAt_28 ?_
  exact cg_sub [7, 8, 1, 0] rfl (tl_X11_sortedAt_30 C   x3 x4 r_6 (((nI 0))) (0 + mc4) (0 + ms5) S_6 h)
def k_X11_passages (Q : Int32 → cS → Prop) (dp : Nat) (x0 : Nat) (x1 : Int32) (x2 : Int32) (x3 : Int32) (x4 : Int32) (S : cS) : Prop :=
cA S x0 11 ∧ (k_X11_snapshotOf (fun r_1 S_1 => 
cA S_1 x0 11 ∧ (k_X11_queryOf (fun r_2 S_2 => 
k_X11_checkKey (fun S_3 => 
k_X11_checkField (fun S_4 => 
cA S_4 x0 11 ∧ ((∃ b5 : Nat, cr S_4 365 x0 = some b5 ∧ (cA S_4 r_1 10 ∧ (k_X10_liveDocument (fun r_6 S_6 => 
((r_6 = none →
  cA S_6 b5 1 ∧ (k_X1_readPassages (fun r_8 S_8 => 
  Q r_8 S_8) dp b5 none r_2 x4 S_6)) ∧
 (∀ b7 : Nat, r_6 = some b7 →
  cA S_6 b5 1 ∧ (k_X1_readPassages (fun r_9 S_9 => 
  Q r_9 S_9) dp b5 (some b7) r_2 x4 S_6)))) dp r_1 x3 S_4))))) dp x4 S_3) dp x3 S_2) dp x0 x2 S_1)) dp x0 x1 S)
set_option maxHeartbeats 1000000 in
set_option maxRecDepth 20000 in
theorem t_X11_passages (l : Launch) (x0 : Nat) (x1 : Int32) (x2 : Int32) (x3 : Int32) (x4 : Int32) (S : cS) (dp : Nat) {P : Int32 → cS → Prop} (h : k_X11_passages P dp x0 x1 x2 x3 x4 S) : cMet (cQi P) l yX11_passages cX11_passages 7 (some .int) 7 0 0 174 [.ref x0, .int x1, .int x2, .int x3, .int x4] S dp := by
  intro D Y tp sz
  refine cg_body (by decide +kernel) (Nat.le_of_ble_eq_true rfl) ?_
  intro p e s m args below meth c C
  generalize va_A (cWd Y S) sz = A at C ⊢
  have C : cC p s m args meth c cX11_passages 7 (some .int) A D Y tp dp RX11 := C
  refine cg_lv (lv' := [(0, .ref x0), (1, .int x1), (2, .int x2), (3, .int x3), (4, .int x4)]) rfl ?_
  unfold k_X11_passages at h
  refine cg_aload_n C (i := 0) rfl 0 rfl dX11_passages_0 ?_
  refine cg_iload_n C (i := 1) rfl 1 rfl dX11_passages_1 ?_
  obtain ⟨hc_2, h⟩ := h
  refine cg_callr C (t_X11_snapshotOf l x0 x1 S dp h) cc_X11_317 hc_2.1 hc_2.2 (by decide) rfl rfl ⟨by decide, by decide⟩ ⟨by decide, by decide⟩ rfl (Nat.le_of_ble_eq_true rfl) dX11_passages_2 (fun r_1 S_1 h => ?_)
  refine cg_astore (lv' := [(5, .ref r_1), (0, .ref x0), (1, .int x1), (2, .int x2), (3, .int x3), (4, .int x4)]) C (Nat.le_of_ble_eq_true rfl) rfl dX11_passages_5 ?_
  refine cg_aload_n C (i := 0) rfl 1 rfl dX11_passages_7 ?_
  refine cg_iload_n C (i := 2) rfl 3 rfl dX11_passages_8 ?_
  obtain ⟨hc_9, h⟩ := h
  refine cg_callr C (t_X11_queryOf l x0 x2 S_1 dp h) cc_X11_396 hc_9.1 hc_9.2 (by decide) rfl rfl ⟨by decide, by decide⟩ ⟨by decide, by decide⟩ rfl (Nat.le_of_ble_eq_true rfl) dX11_passages_9 (fun r_2 S_2 h => ?_)
  refine cg_astore (lv' := [(6, .ref r_2), (5, .ref r_1), (0, .ref x0), (1, .int x1), (2, .int x2), (3, .int x3), (4, .int x4)]) C (Nat.le_of_ble_eq_true rfl) rfl dX11_passages_12 ?_
  refine cg_iload_n C (i := 3) rfl 5 rfl dX11_passages_14 ?_
  refine cg_callsv C (t_X11_checkKey l x3 S_2 dp h) cc_X11_174 rfl ⟨by decide, by decide⟩ ⟨by decide, by decide⟩ rfl (Nat.le_of_ble_eq_true rfl) dX11_passages_15 (fun S_3 h => ?_)
  refine cg_iload C 6 rfl dX11_passages_18 ?_
  refine cg_callsv C (t_X11_checkField l x4 S_3 dp h) cc_X11_152 rfl ⟨by decide, by decide⟩ ⟨by decide, by decide⟩ rfl (Nat.le_of_ble_eq_true rfl) dX11_passages_20 (fun S_4 h => ?_)
  refine cg_aload_n C (i := 0) rfl 2 rfl dX11_passages_23 ?_
  obtain ⟨hc_24, h⟩ := h
  obtain ⟨b5, hb_b5, h⟩ := h
  refine cg_get C (k := 11) (j := 13) (.ref b5) hc_24.1 hc_24.2 (by decide) rfl (by decide) rfl (show cV _ 11 13 x0 = _ from congrArg va_rf hb_b5) cWs_wsX110 cl_X11_80 rfl dX11_passages_24 ?_
  refine cg_aload C 1 rfl dX11_passages_27 ?_
  refine cg_iload_n C (i := 3) rfl 5 rfl dX11_passages_29 ?_
  obtain ⟨hc_30, h⟩ := h
  refine cg_callq C (t_X10_liveDocument l r_1 x3 S_4 dp h) cc_X11_421 hc_30.1 hc_30.2 (by decide) rfl rfl ⟨by decide, by decide⟩ ⟨by decide, by decide⟩ rfl (Nat.le_of_ble_eq_true rfl) dX11_passages_30 (fun r_6 S_6 h => ?_)
  obtain ho | ⟨b7, ho⟩ := c_opt r_6
  · replace h := h.1 ho
    subst ho
    refine cg_cast (.null) rfl ?_
    refine cg_aload C 0 rfl dX11_passages_33 ?_
    refine cg_iload C 6 rfl dX11_passages_35 ?_
    obtain ⟨hc_37, h⟩ := h
    refine cg_calli C (t_X1_readPassages l b5 none r_2 x4 S_6 dp h) cc_X11_453 hc_37.1 hc_37.2 (by decide) rfl rfl ⟨by decide, by decide⟩ ⟨by decide, by decide⟩ rfl (Nat.le_of_ble_eq_true rfl) dX11_passages_37 (fun r_8 S_8 h => ?_)
    exact cg_iret C h dX11_passages_40 (by decide) (by decide)
  · replace h := h.2 b7 ho
    subst ho
    refine cg_cast (.ref b7) rfl ?_
    refine cg_aload C 0 rfl dX11_passages_33 ?_
    refine cg_iload C 6 rfl dX11_passages_35 ?_
    obtain ⟨hc_37, h⟩ := h
    refine cg_calli C (t_X1_readPassages l b5 (some b7) r_2 x4 S_6 dp h) cc_X11_453 hc_37.1 hc_37.2 (by decide) rfl rfl ⟨by decide, by decide⟩ ⟨by decide, by decide⟩ rfl (Nat.le_of_ble_eq_true rfl) dX11_passages_37 (fun r_9 S_9 h => ?_)
    exact cg_iret C h dX11_passages_40 (by decide) (by decide)
