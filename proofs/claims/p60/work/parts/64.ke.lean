/-! the methods of the class as predicates, and their contracts -/
def k_X3_putSynonyms_76 (Q : cS → Prop) (dp : Nat) (mc ms : Nat) (R3 : Nat → Nat → Int64 → Int32 → Int32 → Nat → Nat → cS → Prop) (x0 : Nat) (x1 : Nat) (x2 : Int64) (x4 : Int32) (x5 : Int32) (cd dd : Nat) (S : cS) : Prop :=
∀ x5_4 : Int32, x5_4 = x5 + nI 1 → R3 x0 x1 x2 x4 x5_4 cd dd S
def k_X3_putSynonyms_3 (Q : cS → Prop) (dp : Nat) (mc ms : Nat) (R3 : Nat → Nat → Int64 → Int32 → Int32 → Nat → Nat → cS → Prop) (x0 : Nat) (x1 : Nat) (x2 : Int64) (x4 : Int32) (x5 : Int32) (cd dd : Nat) (S : cS) : Prop :=
cA S x0 3 ∧ (((((ci S 103 x0)) ≤ x5 →
  (cd ≤ mc ∧ dd ≤ ms) ∧ (Q S)) ∧
 (¬ ((ci S 103 x0)) ≤ x5 →
  cA S x0 3 ∧ ((∃ b1 : Nat, cr S 101 x0 = some b1 ∧ (cA S b1 15 ∧ (((((nI (cn S b1))) ≤ x5 →
    (cd ≤ mc ∧ dd ≤ ms) ∧ (Q S)) ∧
   (¬ ((nI (cn S b1))) ≤ x5 →
    cA S x0 3 ∧ ((∃ b2 : Nat, cr S 102 x0 = some b2 ∧ (cA S b2 15 ∧ (((((nI (cn S b2))) ≤ x5 →
      (cd ≤ mc ∧ dd ≤ ms) ∧ (Q S)) ∧
     (¬ ((nI (cn S b2))) ≤ x5 →
      cA S x0 3 ∧ ((∃ b3 : Nat, cr S 101 x0 = some b3 ∧ (cX S b3 15 x5 ∧ (((¬ (cJ S b3 (x5).toNatClampNeg) = x2 →
        k_X3_putSynonyms_76 Q dp mc ms R3 x0 x1 x2 x4 x5 cd dd S) ∧
       ((cJ S b3 (x5).toNatClampNeg) = x2 →
        cA S x0 3 ∧ ((∃ b5 : Nat, cr S 102 x0 = some b5 ∧ (cX S b5 15 x5 ∧ (cA S x1 9 ∧ ((cd ≤ mc ∧ dd ≤ ms) ∧ (k_X9_placesOf (fun r_6 S_6 => 
        ((¬ ((((r_6 >>> (x4 &&& 31))) &&& ((nI 1)))) = 0 →
          k_X3_putSynonyms_76 Q dp mc ms R3 x0 x1 x2 x4 x5 cd dd S_6) ∧
         (((((r_6 >>> (x4 &&& 31))) &&& ((nI 1)))) = 0 →
          cA S_6 x0 3 ∧ ((∃ b7 : Nat, cr S_6 102 x0 = some b7 ∧ (cX S_6 b7 15 x5 ∧ (cA S_6 x1 9 ∧ ((∃ mc8 ms9 : Nat, cd + mc8 ≤ mc ∧ dd + ms9 ≤ ms ∧ (k_X9_putToken (fun S_10 => 
          k_X3_putSynonyms_76 Q dp mc ms R3 x0 x1 x2 x4 x5 (cd + mc8) (dd + ms9) S_10) dp mc8 ms9 x1 (cJ S_6 b7 (x5).toNatClampNeg) x4 S_6)))))))))) dp x1 (cJ S b5 (x5).toNatClampNeg) S)))))))))))))))))))))))))))
def k_X3_putSynonyms_3L (Q : cS → Prop) (dp : Nat) (mc ms : Nat)  (x0 : Nat) (x1 : Nat) (x2 : Int64) (x4 : Int32) (x5 : Int32) (cd dd : Nat) (S : cS) : Prop :=
  lfp (X := Nat × Nat × Int64 × Int32 × Int32 × Nat × Nat × cS) (fun P y => k_X3_putSynonyms_3 Q dp mc ms  (fun b0 b1 b2 b3 b4 b5 b6 S => P (b0, b1, b2, b3, b4, b5, b6, S)) y.1 y.2.1 y.2.2.1 y.2.2.2.1 y.2.2.2.2.1 y.2.2.2.2.2.1 y.2.2.2.2.2.2.1 y.2.2.2.2.2.2.2) (x0, x1, x2, x4, x5, cd, dd, S)
def k_X3_putSynonyms (Q : cS → Prop) (dp : Nat) (mc ms : Nat) (x0 : Nat) (x1 : Nat) (x2 : Int64) (x4 : Int32) (S : cS) : Prop :=
k_X3_putSynonyms_3L Q dp mc ms  x0 x1 x2 x4 (((nI 0))) 0 0 S
section S_X3_putSynonyms
variable {p : Program} {l : Launch} {e : Env} {s : State} {m : MethodId} {args : Array Value} {below : List Frame} {meth : Method} {c : Code} {A : Nat → Prop} {D : va_G} {Y : cY} {tp dp : Nat}
set_option maxRecDepth 20000 in
theorem tb_X3_putSynonyms_76 {mc ms : Nat} (C : cC p s m args meth c cX3_putSynonyms 6 none A D Y tp dp RX3) {post : cS → Prop} {R3 : Nat → Nat → Int64 → Int32 → Int32 → Nat → Nat → cS → Prop} (hR3 : ∀ (x0 : Nat) (x1 : Nat) (x2 : Int64) (x4 : Int32) (x5 : Int32) (cd dd : Nat) (S : cS), R3 x0 x1 x2 x4 x5 cd dd S → cG p l e (cRm 3 mc ms 63) s m args below meth c A D Y 6 (MQ below (cQv post D Y A) args s mc ms A) cd dd 3 [(0, .ref x0), (1, .ref x1), (2, .long x2), (4, .int x4), (5, .int x5)] [] S) (x0 : Nat) (x1 : Nat) (x2 : Int64) (x4 : Int32) (x5 : Int32) (cd dd : Nat) (S : cS) (h : k_X3_putSynonyms_76 post dp mc ms R3 x0 x1 x2 x4 x5 cd dd S) : cG p l e (cRm 3 mc ms 63) s m args below meth c A D Y 6 (MQ below (cQv post D Y A) args s mc ms A) cd dd 76 [(0, .ref x0), (1, .ref x1), (2, .long x2), (4, .int x4), (5, .int x5)] [] S := by
  unfold k_X3_putSynonyms_76 at h
  obtain ⟨x5_4, e_x5_4⟩ : ∃ z : Int32, z = x5 + nI 1 := ⟨_, rfl⟩
  have h := h x5_4 e_x5_4
  refine cg_iinc C (lv' := [(5, .int x5_4), (0, .ref x0), (1, .ref x1), (2, .long x2), (4, .int x4)]) 4 rfl (by rw [e_x5_4]; rfl) (Nat.le_of_ble_eq_true rfl) rfl dX3_putSynonyms_76 ?_
  refine cg_goto C 3 (by decide) dX3_putSynonyms_79 ?_
  exact cg_sub [1, 2, 3, 4, 0] rfl (hR3 x0 x1 x2 x4 x5_4 cd dd S h)
set_option maxRecDepth 20000 in
theorem tb_X3_putSynonyms_3 {mc ms : Nat} (C : cC p s m args meth c cX3_putSynonyms 6 none A D Y tp dp RX3) {post : cS → Prop} {R3 : Nat → Nat → Int64 → Int32 → Int32 → Nat → Nat → cS → Prop} (hR3 : ∀ (x0 : Nat) (x1 : Nat) (x2 : Int64) (x4 : Int32) (x5 : Int32) (cd dd : Nat) (S : cS), R3 x0 x1 x2 x4 x5 cd dd S → cG p l e (cRm 3 mc ms 63) s m args below meth c A D Y 6 (MQ below (cQv post D Y A) args s mc ms A) cd dd 3 [(0, .ref x0), (1, .ref x1), (2, .long x2), (4, .int x4), (5, .int x5)] [] S) (x0 : Nat) (x1 : Nat) (x2 : Int64) (x4 : Int32) (x5 : Int32) (cd dd : Nat) (S : cS) (h : k_X3_putSynonyms_3 post dp mc ms R3 x0 x1 x2 x4 x5 cd dd S) : cG p l e (cRm 3 mc ms 63) s m args below meth c A D Y 6 (MQ below (cQv post D Y A) args s mc ms A) cd dd 3 [(0, .ref x0), (1, .ref x1), (2, .long x2), (4, .int x4), (5, .int x5)] [] S := by
  unfold k_X3_putSynonyms_3 at h
  refine cg_iload C 4 rfl dX3_putSynonyms_3 ?_
  refine cg_aload_n C (i := 0) rfl 0 rfl dX3_putSynonyms_5 ?_
  obtain ⟨hc_6, h⟩ := h
  refine cg_get C (k := 3) (j := 7) (.int (ci S 103 x0)) hc_6.1 hc_6.2 (by decide) rfl (by decide) rfl rfl cWs_wsX30 cl_X3_38 rfl dX3_putSynonyms_6 ?_
  refine cg_icmp_ge C 82 (by decide) dX3_putSynonyms_9 (fun c_ => ?_) (fun c_ => ?_)
  · have h := h.1 c_
    obtain ⟨hb_82, h⟩ := h
    exact cg_vret C h dX3_putSynonyms_82 hb_82.1 hb_82.2
  · have h := h.2 c_
    refine cg_iload C 4 rfl dX3_putSynonyms_12 ?_
    refine cg_aload_n C (i := 0) rfl 0 rfl dX3_putSynonyms_14 ?_
    obtain ⟨hc_15, h⟩ := h
    obtain ⟨b1, hb_b1, h⟩ := h
    refine cg_get C (k := 3) (j := 5) (.ref b1) hc_15.1 hc_15.2 (by decide) rfl (by decide) rfl (show cV _ 3 5 x0 = _ from congrArg va_rf hb_b1) cWs_wsX30 cl_X3_32 rfl dX3_putSynonyms_15 ?_
    obtain ⟨hc_18, h⟩ := h
    refine cg_alen C hc_18.1 hc_18.2 (by decide) (by decide) dX3_putSynonyms_18 ?_
    refine cg_icmp_ge C 82 (by decide) dX3_putSynonyms_19 (fun c_ => ?_) (fun c_ => ?_)
    · have h := h.1 c_
      obtain ⟨hb_82, h⟩ := h
      exact cg_vret C h dX3_putSynonyms_82 hb_82.1 hb_82.2
    · have h := h.2 c_
      refine cg_iload C 4 rfl dX3_putSynonyms_22 ?_
      refine cg_aload_n C (i := 0) rfl 0 rfl dX3_putSynonyms_24 ?_
      obtain ⟨hc_25, h⟩ := h
      obtain ⟨b2, hb_b2, h⟩ := h
      refine cg_get C (k := 3) (j := 6) (.ref b2) hc_25.1 hc_25.2 (by decide) rfl (by decide) rfl (show cV _ 3 6 x0 = _ from congrArg va_rf hb_b2) cWs_wsX30 cl_X3_35 rfl dX3_putSynonyms_25 ?_
      obtain ⟨hc_28, h⟩ := h
      refine cg_alen C hc_28.1 hc_28.2 (by decide) (by decide) dX3_putSynonyms_28 ?_
      refine cg_icmp_ge C 82 (by decide) dX3_putSynonyms_29 (fun c_ => ?_) (fun c_ => ?_)
      · have h := h.1 c_
        obtain ⟨hb_82, h⟩ := h
        exact cg_vret C h dX3_putSynonyms_82 hb_82.1 hb_82.2
      · have h := h.2 c_
        refine cg_aload_n C (i := 0) rfl 0 rfl dX3_putSynonyms_32 ?_
        obtain ⟨hc_33, h⟩ := h
        obtain ⟨b3, hb_b3, h⟩ := h
        refine cg_get C (k := 3) (j := 5) (.ref b3) hc_33.1 hc_33.2 (by decide) rfl (by decide) rfl (show cV _ 3 5 x0 = _ from congrArg va_rf hb_b3) cWs_wsX30 cl_X3_32 rfl dX3_putSynonyms_33 ?_
        refine cg_iload C 4 rfl dX3_putSynonyms_36 ?_
        obtain ⟨hc_38, h⟩ := h
        refine cg_laloadR C hc_38 dX3_putSynonyms_38 ?_
        refine cg_lload_n C (i := 2) rfl 2 rfl dX3_putSynonyms_39 ?_
        refine cg_lcmp C dX3_putSynonyms_40 ?_
        refine cg_if_neL C 76 (by decide) dX3_putSynonyms_41 (fun c_ => ?_) (fun c_ => ?_)
        · have h := h.1 c_
          exact cg_sub [0, 1, 2, 3, 4] rfl (tb_X3_putSynonyms_76 C  hR3 x0 x1 x2 x4 x5 cd dd S h)
        · have h := h.2 c_
          refine cg_aload_n C (i := 1) rfl 1 rfl dX3_putSynonyms_44 ?_
          refine cg_aload_n C (i := 0) rfl 0 rfl dX3_putSynonyms_45 ?_
          obtain ⟨hc_46, h⟩ := h
          obtain ⟨b5, hb_b5, h⟩ := h
          refine cg_get C (k := 3) (j := 6) (.ref b5) hc_46.1 hc_46.2 (by decide) rfl (by decide) rfl (show cV _ 3 6 x0 = _ from congrArg va_rf hb_b5) cWs_wsX30 cl_X3_35 rfl dX3_putSynonyms_46 ?_
          refine cg_iload C 4 rfl dX3_putSynonyms_49 ?_
          obtain ⟨hc_51, h⟩ := h
          refine cg_laloadR C hc_51 dX3_putSynonyms_51 ?_
          obtain ⟨hc_52, h⟩ := h
          obtain ⟨hb_52, h⟩ := h
          refine cg_calli C (t_X9_placesOf l x1 (cJ S b5 (x5).toNatClampNeg) S dp h) cc_X3_76 hc_52.1 hc_52.2 (by decide) rfl rfl ⟨by decide, by decide⟩ hb_52 rfl (Nat.le_of_ble_eq_true rfl) dX3_putSynonyms_52 (fun r_6 S_6 h => ?_)
          simp only [Nat.add_zero]
          refine cg_iload C 3 rfl dX3_putSynonyms_55 ?_
          refine cg_ishr C dX3_putSynonyms_57 ?_
          refine cg_iconst C (x := nI 1) rfl dX3_putSynonyms_58 ?_
          refine cg_iand C dX3_putSynonyms_59 ?_
          refine cg_if_ne C 76 (by decide) dX3_putSynonyms_60 (fun c_ => ?_) (fun c_ => ?_)
          · have h := h.1 c_
            exact cg_sub [0, 1, 2, 3, 4] rfl (tb_X3_putSynonyms_76 C  hR3 x0 x1 x2 x4 x5 cd dd S_6 h)
          · have h := h.2 c_
            refine cg_aload_n C (i := 1) rfl 1 rfl dX3_putSynonyms_63 ?_
            refine cg_aload_n C (i := 0) rfl 0 rfl dX3_putSynonyms_64 ?_
            obtain ⟨hc_65, h⟩ := h
            obtain ⟨b7, hb_b7, h⟩ := h
            refine cg_get C (k := 3) (j := 6) (.ref b7) hc_65.1 hc_65.2 (by decide) rfl (by decide) rfl (show cV _ 3 6 x0 = _ from congrArg va_rf hb_b7) cWs_wsX30 cl_X3_35 rfl dX3_putSynonyms_65 ?_
            refine cg_iload C 4 rfl dX3_putSynonyms_68 ?_
            obtain ⟨hc_70, h⟩ := h
            refine cg_laloadR C hc_70 dX3_putSynonyms_70 ?_
            refine cg_iload C 3 rfl dX3_putSynonyms_71 ?_
            obtain ⟨hc_73, h⟩ := h
            obtain ⟨mc8, ms9, hm_1, hm_2, h⟩ := h
            refine cg_callv C (t_X9_putToken l mc8 ms9 x1 (cJ S_6 b7 (x5).toNatClampNeg) x4 S_6 dp h) cc_X3_68 hc_73.1 hc_73.2 (by decide) rfl rfl ⟨by decide, by decide⟩ ⟨hm_1, hm_2⟩ rfl (Nat.le_of_ble_eq_true rfl) dX3_putSynonyms_73 (fun S_10 h => ?_)
            exact cg_sub [0, 1, 2, 3, 4] rfl (tb_X3_putSynonyms_76 C  hR3 x0 x1 x2 x4 x5 (cd + mc8) (dd + ms9) S_10 h)
set_option maxRecDepth 20000 in
theorem tl_X3_putSynonyms_3 {mc ms : Nat} (C : cC p s m args meth c cX3_putSynonyms 6 none A D Y tp dp RX3) {post : cS → Prop}   (x0 : Nat) (x1 : Nat) (x2 : Int64) (x4 : Int32) (x5 : Int32) (cd dd : Nat) (S : cS) (h : k_X3_putSynonyms_3L post dp mc ms  x0 x1 x2 x4 x5 cd dd S) : cG p l e (cRm 3 mc ms 63) s m args below meth c A D Y 6 (MQ below (cQv post D Y A) args s mc ms A) cd dd 3 [(0, .ref x0), (1, .ref x1), (2, .long x2), (4, .int x4), (5, .int x5)] [] S :=
  h (fun y => cG p l e (cRm 3 mc ms 63) s m args below meth c A D Y 6 (MQ below (cQv post D Y A) args s mc ms A) (y.2.2.2.2.2.1) (y.2.2.2.2.2.2.1) 3 [(0, .ref (y.1)), (1, .ref (y.2.1)), (2, .long (y.2.2.1)), (4, .int (y.2.2.2.1)), (5, .int (y.2.2.2.2.1))] [] (y.2.2.2.2.2.2.2)) (fun y hy => tb_X3_putSynonyms_3 C   (fun b0 b1 b2 b3 b4 b5 b6 S z => z) (y.1) (y.2.1) (y.2.2.1) (y.2.2.2.1) (y.2.2.2.2.1) (y.2.2.2.2.2.1) (y.2.2.2.2.2.2.1) (y.2.2.2.2.2.2.2) hy)
end S_X3_putSynonyms
set_option maxHeartbeats 1000000 in
set_option maxRecDepth 20000 in
theorem t_X3_putSynonyms (l : Launch) (mc ms : Nat) (x0 : Nat) (x1 : Nat) (x2 : Int64) (x4 : Int32) (S : cS) (dp : Nat) {P : cS → Prop} (h : k_X3_putSynonyms P dp mc ms x0 x1 x2 x4 S) : cMet (cQv P) l yX3_putSynonyms cX3_putSynonyms 6 none 3 mc ms 63 [.ref x0, .ref x1, .long x2, .int x4] S dp := by
  intro D Y tp sz
  refine cg_body (by decide +kernel) (Nat.le_of_ble_eq_true rfl) ?_
  intro p e s m args below meth c C
  generalize va_A (cWd Y S) sz = A at C ⊢
  have C : cC p s m args meth c cX3_putSynonyms 6 none A D Y tp dp RX3 := C
  refine cg_lv (lv' := [(0, .ref x0), (1, .ref x1), (2, .long x2), (4, .int x4)]) rfl ?_
  unfold k_X3_putSynonyms at h
  refine cg_iconst C (x := nI 0) rfl dX3_putSynonyms_0 ?_
  refine cg_istore C (lv' := [(5, .int ((nI 0))), (0, .ref x0), (1, .ref x1), (2, .long x2), (4, .int x4)]) (Nat.le_of_ble_eq_true rfl) rfl dX3_putSynonyms_1 ?_
  exact cg_sub [1, 2, 3, 4, 0] rfl (tl_X3_putSynonyms_3 C   x0 x1 x2 x4 (((nI 0))) 0 0 S h)
def k_X3_tokenise_58 (Q : cS → Prop) (dp : Nat) (mc ms : Nat) (R12 : Nat → Nat → Int32 → Int32 → Nat → Nat → cS → Prop) (x0 : Nat) (x1 : Nat) (x2 : Int32) (x3 : Int32) (cd dd : Nat) (S : cS) : Prop :=
∀ x3_6 : Int32, x3_6 = x3 + nI 1 → R12 x0 x1 x2 x3_6 cd dd S
def k_X3_tokenise_12 (Q : cS → Prop) (dp : Nat) (mc ms : Nat) (R12 : Nat → Nat → Int32 → Int32 → Nat → Nat → cS → Prop) (x0 : Nat) (x1 : Nat) (x2 : Int32) (x3 : Int32) (cd dd : Nat) (S : cS) : Prop :=
cA S x0 3 ∧ (((((ci S 98 x0)) ≤ x3 →
  (cd ≤ mc ∧ dd ≤ ms) ∧ (Q S)) ∧
 (¬ ((ci S 98 x0)) ≤ x3 →
  cA S x0 3 ∧ ((cd ≤ mc ∧ dd ≤ ms) ∧ (k_X3_wordAt (fun r_3 S_3 => 
  (cd ≤ mc ∧ dd ≤ ms) ∧ (k_X9_stemOf (fun r_4 S_4 => 
  cA S_4 x0 3 ∧ ((cd ≤ mc ∧ dd ≤ ms) ∧ (k_X3_isStop (fun r_5 S_5 => 
  ((¬ r_5 = 0 →
    k_X3_tokenise_58 Q dp mc ms R12 x0 x1 x2 x3 cd dd S_5) ∧
   (r_5 = 0 →
    cA S_5 x1 9 ∧ ((∃ mc7 ms8 : Nat, cd + mc7 ≤ mc ∧ dd + ms8 ≤ ms ∧ (k_X9_putToken (fun S_9 => 
    ((x2 = 0 →
      k_X3_tokenise_58 Q dp mc ms R12 x0 x1 x2 x3 (cd + mc7) (dd + ms8) S_9) ∧
     (¬ x2 = 0 →
      cA S_9 x0 3 ∧ ((∃ mc10 ms11 : Nat, cd + mc7 + mc10 ≤ mc ∧ dd + ms8 + ms11 ≤ ms ∧ (k_X3_putSynonyms (fun S_12 => 
      k_X3_tokenise_58 Q dp mc ms R12 x0 x1 x2 x3 (cd + mc7 + mc10) (dd + ms8 + ms11) S_12) dp mc10 ms11 x0 x1 r_4 x3 S_9)))))) dp mc7 ms8 x1 r_4 x3 S_5)))))) dp x0 r_4 S_4))) dp r_3 S_3)) dp x0 x3 S)))))
def k_X3_tokenise_12L (Q : cS → Prop) (dp : Nat) (mc ms : Nat)  (x0 : Nat) (x1 : Nat) (x2 : Int32) (x3 : Int32) (cd dd : Nat) (S : cS) : Prop :=
  lfp (X := Nat × Nat × Int32 × Int32 × Nat × Nat × cS) (fun P y => k_X3_tokenise_12 Q dp mc ms  (fun b0 b1 b2 b3 b4 b5 S => P (b0, b1, b2, b3, b4, b5, S)) y.1 y.2.1 y.2.2.1 y.2.2.2.1 y.2.2.2.2.1 y.2.2.2.2.2.1 y.2.2.2.2.2.2) (x0, x1, x2, x3, cd, dd, S)
def k_X3_tokenise (Q : cS → Prop) (dp : Nat) (mc ms : Nat) (x0 : Nat) (x1 : Nat) (x2 : Int32) (S : cS) : Prop :=
cA S x0 3 ∧ ((0 ≤ mc ∧ 0 ≤ ms) ∧ (k_X3_readWordsOf (fun S_1 => 
cA S_1 x1 9 ∧ (∀ S2 : cS, S2 = cSi S_1 292 x1 ((nI 0)) → k_X3_tokenise_12L Q dp mc ms  x0 x1 x2 (((nI 0))) 0 0 S2)) dp x0 x1 S))
section S_X3_tokenise
variable {p : Program} {l : Launch} {e : Env} {s : State} {m : MethodId} {args : Array Value} {below : List Frame} {meth : Method} {c : Code} {A : Nat → Prop} {D : va_G} {Y : cY} {tp dp : Nat}
set_option maxRecDepth 20000 in
theorem tb_X3_tokenise_58 {mc ms : Nat} (C : cC p s m args meth c cX3_tokenise 6 none A D Y tp dp RX3) {post : cS → Prop} {R12 : Nat → Nat → Int32 → Int32 → Nat → Nat → cS → Prop} (hR12 : ∀ (x0 : Nat) (x1 : Nat) (x2 : Int32) (x3 : Int32) (cd dd : Nat) (S : cS), R12 x0 x1 x2 x3 cd dd S → cG p l e (cRm 4 mc ms 88) s m args below meth c A D Y 6 (MQ below (cQv post D Y A) args s mc ms A) cd dd 12 [(0, .ref x0), (1, .ref x1), (2, .int x2), (3, .int x3)] [] S) (x0 : Nat) (x1 : Nat) (x2 : Int32) (x3 : Int32) (cd dd : Nat) (S : cS) (h : k_X3_tokenise_58 post dp mc ms R12 x0 x1 x2 x3 cd dd S) : cG p l e (cRm 4 mc ms 88) s m args below meth c A D Y 6 (MQ below (cQv post D Y A) args s mc ms A) cd dd 58 [(0, .ref x0), (1, .ref x1), (2, .int x2), (3, .int x3)] [] S := by
  unfold k_X3_tokenise_58 at h
  obtain ⟨x3_6, e_x3_6⟩ : ∃ z : Int32, z = x3 + nI 1 := ⟨_, rfl⟩
  have h := h x3_6 e_x3_6
  refine cg_iinc C (lv' := [(3, .int x3_6), (0, .ref x0), (1, .ref x1), (2, .int x2)]) 3 rfl (by rw [e_x3_6]; rfl) (Nat.le_of_ble_eq_true rfl) rfl dX3_tokenise_58 ?_
  refine cg_goto C 12 (by decide) dX3_tokenise_61 ?_
  exact cg_sub [1, 2, 3, 0] rfl (hR12 x0 x1 x2 x3_6 cd dd S h)
set_option maxRecDepth 20000 in
theorem tb_X3_tokenise_12 {mc ms : Nat} (C : cC p s m args meth c cX3_tokenise 6 none A D Y tp dp RX3) {post : cS → Prop} {R12 : Nat → Nat → Int32 → Int32 → Nat → Nat → cS → Prop} (hR12 : ∀ (x0 : Nat) (x1 : Nat) (x2 : Int32) (x3 : Int32) (cd dd : Nat) (S : cS), R12 x0 x1 x2 x3 cd dd S → cG p l e (cRm 4 mc ms 88) s m args below meth c A D Y 6 (MQ below (cQv post D Y A) args s mc ms A) cd dd 12 [(0, .ref x0), (1, .ref x1), (2, .int x2), (3, .int x3)] [] S) (x0 : Nat) (x1 : Nat) (x2 : Int32) (x3 : Int32) (cd dd : Nat) (S : cS) (h : k_X3_tokenise_12 post dp mc ms R12 x0 x1 x2 x3 cd dd S) : cG p l e (cRm 4 mc ms 88) s m args below meth c A D Y 6 (MQ below (cQv post D Y A) args s mc ms A) cd dd 12 [(0, .ref x0), (1, .ref x1), (2, .int x2), (3, .int x3)] [] S := by
  unfold k_X3_tokenise_12 at h
  refine cg_iload_n C (i := 3) rfl 3 rfl dX3_tokenise_12 ?_
  refine cg_aload_n C (i := 0) rfl 0 rfl dX3_tokenise_13 ?_
  obtain ⟨hc_14, h⟩ := h
  refine cg_get C (k := 3) (j := 2) (.int (ci S 98 x0)) hc_14.1 hc_14.2 (by decide) rfl (by decide) rfl rfl cWs_wsX30 cl_X3_22 rfl dX3_tokenise_14 ?_
  refine cg_icmp_ge C 64 (by decide) dX3_tokenise_17 (fun c_ => ?_) (fun c_ => ?_)
  · have h := h.1 c_
    obtain ⟨hb_64, h⟩ := h
    exact cg_vret C h dX3_tokenise_64 hb_64.1 hb_64.2
  · have h := h.2 c_
    refine cg_aload_n C (i := 0) rfl 0 rfl dX3_tokenise_20 ?_
    refine cg_iload_n C (i := 3) rfl 3 rfl dX3_tokenise_21 ?_
    obtain ⟨hc_22, h⟩ := h
    obtain ⟨hb_22, h⟩ := h
    refine cg_calll C (t_X3_wordAt l x0 x3 S dp h) cc_X3_56 hc_22.1 hc_22.2 (by decide) rfl rfl ⟨by decide, by decide⟩ hb_22 rfl (Nat.le_of_ble_eq_true rfl) dX3_tokenise_22 (fun r_3 S_3 h => ?_)
    simp only [Nat.add_zero]
    obtain ⟨hb_25, h⟩ := h
    refine cg_callsl C (t_X9_stemOf l r_3 S_3 dp h) cc_X3_60 rfl ⟨by decide, by decide⟩ hb_25 rfl (Nat.le_of_ble_eq_true rfl) dX3_tokenise_25 (fun r_4 S_4 h => ?_)
    simp only [Nat.add_zero]
    refine cg_lstore C (lv' := [(4, .long r_4), (0, .ref x0), (1, .ref x1), (2, .int x2), (3, .int x3)]) (Nat.le_of_ble_eq_true rfl) rfl dX3_tokenise_28 ?_
    refine cg_aload_n C (i := 0) rfl 1 rfl dX3_tokenise_30 ?_
    refine cg_lload C 0 rfl dX3_tokenise_31 ?_
    obtain ⟨hc_33, h⟩ := h
    obtain ⟨hb_33, h⟩ := h
    refine cg_calli C (t_X3_isStop l x0 r_4 S_4 dp h) cc_X3_64 hc_33.1 hc_33.2 (by decide) rfl rfl ⟨by decide, by decide⟩ hb_33 rfl (Nat.le_of_ble_eq_true rfl) dX3_tokenise_33 (fun r_5 S_5 h => ?_)
    simp only [Nat.add_zero]
    refine cg_if_ne C 58 (by decide) dX3_tokenise_36 (fun c_ => ?_) (fun c_ => ?_)
    · have h := h.1 c_
      exact cg_sub [1, 2, 3, 4] rfl (tb_X3_tokenise_58 C  hR12 x0 x1 x2 x3 cd dd S_5 h)
    · have h := h.2 c_
      refine cg_aload_n C (i := 1) rfl 2 rfl dX3_tokenise_39 ?_
      refine cg_lload C 0 rfl dX3_tokenise_40 ?_
      refine cg_iload_n C (i := 3) rfl 4 rfl dX3_tokenise_42 ?_
      obtain ⟨hc_43, h⟩ := h
      obtain ⟨mc7, ms8, hm_1, hm_2, h⟩ := h
      refine cg_callv C (t_X9_putToken l mc7 ms8 x1 r_4 x3 S_5 dp h) cc_X3_68 hc_43.1 hc_43.2 (by decide) rfl rfl ⟨by decide, by decide⟩ ⟨hm_1, hm_2⟩ rfl (Nat.le_of_ble_eq_true rfl) dX3_tokenise_43 (fun S_9 h => ?_)
      refine cg_iload_n C (i := 2) rfl 3 rfl dX3_tokenise_46 ?_
      refine cg_if_eq C 58 (by decide) dX3_tokenise_47 (fun c_ => ?_) (fun c_ => ?_)
      · have h := h.1 c_
        exact cg_sub [1, 2, 3, 4] rfl (tb_X3_tokenise_58 C  hR12 x0 x1 x2 x3 (cd + mc7) (dd + ms8) S_9 h)
      · have h := h.2 c_
        refine cg_aload_n C (i := 0) rfl 1 rfl dX3_tokenise_50 ?_
        refine cg_aload_n C (i := 1) rfl 2 rfl dX3_tokenise_51 ?_
        refine cg_lload C 0 rfl dX3_tokenise_52 ?_
        refine cg_iload_n C (i := 3) rfl 4 rfl dX3_tokenise_54 ?_
        obtain ⟨hc_55, h⟩ := h
        obtain ⟨mc10, ms11, hm_1, hm_2, h⟩ := h
        refine cg_callv C (t_X3_putSynonyms l mc10 ms11 x0 x1 r_4 x3 S_9 dp h) cc_X3_72 hc_55.1 hc_55.2 (by decide) rfl rfl ⟨by decide, by decide⟩ ⟨hm_1, hm_2⟩ rfl (Nat.le_of_ble_eq_true rfl) dX3_tokenise_55 (fun S_12 h => ?_)
        exact cg_sub [1, 2, 3, 4] rfl (tb_X3_tokenise_58 C  hR12 x0 x1 x2 x3 (cd + mc7 + mc10) (dd + ms8 + ms11) S_12 h)
set_option maxRecDepth 20000 in
theorem tl_X3_tokenise_12 {mc ms : Nat} (C : cC p s m args meth c cX3_tokenise 6 none A D Y tp dp RX3) {post : cS → Prop}   (x0 : Nat) (x1 : Nat) (x2 : Int32) (x3 : Int32) (cd dd : Nat) (S : cS) (h : k_X3_tokenise_12L post dp mc ms  x0 x1 x2 x3 cd dd S) : cG p l e (cRm 4 mc ms 88) s m args below meth c A D Y 6 (MQ below (cQv post D Y A) args s mc ms A) cd dd 12 [(0, .ref x0), (1, .ref x1), (2, .int x2), (3, .int x3)] [] S :=
  h (fun y => cG p l e (cRm 4 mc ms 88) s m args below meth c A D Y 6 (MQ below (cQv post D Y A) args s mc ms A) (y.2.2.2.2.1) (y.2.2.2.2.2.1) 12 [(0, .ref (y.1)), (1, .ref (y.2.1)), (2, .int (y.2.2.1)), (3, .int (y.2.2.2.1))] [] (y.2.2.2.2.2.2)) (fun y hy => tb_X3_tokenise_12 C   (fun b0 b1 b2 b3 b4 b5 S z => z) (y.1) (y.2.1) (y.2.2.1) (y.2.2.2.1) (y.2.2.2.2.1) (y.2.2.2.2.2.1) (y.2.2.2.2.2.2) hy)
end S_X3_tokenise
set_option maxHeartbeats 1000000 in
set_option maxRecDepth 20000 in
theorem t_X3_tokenise (l : Launch) (mc ms : Nat) (x0 : Nat) (x1 : Nat) (x2 : Int32) (S : cS) (dp : Nat) {P : cS → Prop} (h : k_X3_tokenise P dp mc ms x0 x1 x2 S) : cMet (cQv P) l yX3_tokenise cX3_tokenise 6 none 4 mc ms 88 [.ref x0, .ref x1, .int x2] S dp := by
  intro D Y tp sz
  refine cg_body (by decide +kernel) (Nat.le_of_ble_eq_true rfl) ?_
  intro p e s m args below meth c C
  generalize va_A (cWd Y S) sz = A at C ⊢
  have C : cC p s m args meth c cX3_tokenise 6 none A D Y tp dp RX3 := C
  refine cg_lv (lv' := [(0, .ref x0), (1, .ref x1), (2, .int x2)]) rfl ?_
  unfold k_X3_tokenise at h
  refine cg_aload_n C (i := 0) rfl 0 rfl dX3_tokenise_0 ?_
  refine cg_aload_n C (i := 1) rfl 1 rfl dX3_tokenise_1 ?_
  obtain ⟨hc_2, h⟩ := h
  obtain ⟨hb_2, h⟩ := h
  refine cg_callv C (t_X3_readWordsOf l x0 x1 S dp h) cc_X3_45 hc_2.1 hc_2.2 (by decide) rfl rfl ⟨by decide, by decide⟩ hb_2 rfl (Nat.le_of_ble_eq_true rfl) dX3_tokenise_2 (fun S_1 h => ?_)
  simp only [Nat.add_zero]
  refine cg_aload_n C (i := 1) rfl 1 rfl dX3_tokenise_5 ?_
  refine cg_iconst C (x := nI 0) rfl dX3_tokenise_6 ?_
  obtain ⟨hc_7, h⟩ := h
  refine cg_puti C (k := 9) (j := 4) (ty := tyX9) (fty := .int) hc_7.1 hc_7.2 (by decide) rfl (by decide) rfl (by decide) rfl cWs_wsX90 tyX9_ok nmX9 cl_X3_53 rfl rfl rfl rfl rfl dX3_tokenise_7 ?_
  refine cg_nm (fun S2 e_S2 => ?_)
  have h := h S2 e_S2
  refine cg_iconst C (x := nI 0) rfl dX3_tokenise_10 ?_
  refine cg_istore_n C (i := 3) (lv' := [(3, .int ((nI 0))), (0, .ref x0), (1, .ref x1), (2, .int x2)]) rfl (Nat.le_of_ble_eq_true rfl) rfl dX3_tokenise_11 ?_
  exact cg_sub [1, 2, 3, 0] rfl (tl_X3_tokenise_12 C   x0 x1 x2 (((nI 0))) 0 0 S2 h)
def k_X3_readPadTokens (Q : Int32 → cS → Prop) (dp : Nat) (mc ms : Nat) (x0 : Nat) (S : cS) : Prop :=
cA S x0 3 ∧ ((∃ b1 : Nat, cr S 96 x0 = some b1 ∧ (cA S x0 3 ∧ ((∃ mc2 ms3 : Nat, 0 + mc2 ≤ mc ∧ 0 + ms3 ≤ ms ∧ (k_X3_tokenise (fun S_4 => 
cA S_4 x0 3 ∧ ((∃ b5 : Nat, cr S_4 96 x0 = some b5 ∧ (cA S_4 b5 9 ∧ ((0 + mc2 ≤ mc ∧ 0 + ms3 ≤ ms) ∧ (Q ((ci S_4 292 b5)) S_4)))))) dp mc2 ms3 x0 b1 ((nI 0)) S))))))
set_option maxHeartbeats 1000000 in
set_option maxRecDepth 20000 in
theorem t_X3_readPadTokens (l : Launch) (mc ms : Nat) (x0 : Nat) (S : cS) (dp : Nat) {P : Int32 → cS → Prop} (h : k_X3_readPadTokens P dp mc ms x0 S) : cMet (cQi P) l yX3_readPadTokens cX3_readPadTokens 1 (some .int) 5 mc ms 113 [.ref x0] S dp := by
  intro D Y tp sz
  refine cg_body (by decide +kernel) (Nat.le_of_ble_eq_true rfl) ?_
  intro p e s m args below meth c C
  generalize va_A (cWd Y S) sz = A at C ⊢
  have C : cC p s m args meth c cX3_readPadTokens 1 (some .int) A D Y tp dp RX3 := C
  refine cg_lv (lv' := [(0, .ref x0)]) rfl ?_
  unfold k_X3_readPadTokens at h
  refine cg_aload_n C (i := 0) rfl 0 rfl dX3_readPadTokens_0 ?_
  refine cg_aload_n C (i := 0) rfl 0 rfl dX3_readPadTokens_1 ?_
  obtain ⟨hc_2, h⟩ := h
  obtain ⟨b1, hb_b1, h⟩ := h
  refine cg_get C (k := 3) (j := 0) (.ref b1) hc_2.1 hc_2.2 (by decide) rfl (by decide) rfl (show cV _ 3 0 x0 = _ from congrArg va_rf hb_b1) cWs_wsX30 cl_X3_12 rfl dX3_readPadTokens_2 ?_
  refine cg_iconst C (x := nI 0) rfl dX3_readPadTokens_5 ?_
  obtain ⟨hc_6, h⟩ := h
  obtain ⟨mc2, ms3, hm_1, hm_2, h⟩ := h
  refine cg_callv C (t_X3_tokenise l mc2 ms3 x0 b1 ((nI 0)) S dp h) cc_X3_49 hc_6.1 hc_6.2 (by decide) rfl rfl ⟨by decide, by decide⟩ ⟨hm_1, hm_2⟩ rfl (Nat.le_of_ble_eq_true rfl) dX3_readPadTokens_6 (fun S_4 h => ?_)
  refine cg_aload_n C (i := 0) rfl 0 rfl dX3_readPadTokens_9 ?_
  obtain ⟨hc_10, h⟩ := h
  obtain ⟨b5, hb_b5, h⟩ := h
  refine cg_get C (k := 3) (j := 0) (.ref b5) hc_10.1 hc_10.2 (by decide) rfl (by decide) rfl (show cV _ 3 0 x0 = _ from congrArg va_rf hb_b5) cWs_wsX30 cl_X3_12 rfl dX3_readPadTokens_10 ?_
  obtain ⟨hc_13, h⟩ := h
  refine cg_get C (k := 9) (j := 4) (.int (ci S_4 292 b5)) hc_13.1 hc_13.2 (by decide) rfl (by decide) rfl rfl cWs_wsX90 cl_X3_53 rfl dX3_readPadTokens_13 ?_
  obtain ⟨hb_16, h⟩ := h
  exact cg_iret C h dX3_readPadTokens_16 hb_16.1 hb_16.2
def k_X3_putStop_49 (Q : Int32 → cS → Prop) (dp : Nat) (mc ms : Nat)  (x0 : Nat) (cd dd : Nat) (S : cS) : Prop :=
(cd + 1 ≤ mc ∧ dd + 5 ≤ ms) ∧ (∀ q4 : Nat, q4 ∉ cL S → ∀ S5 : cS, S5 = cNew S q4 9 → (∃ mc6 ms7 : Nat, cd + 1 + mc6 ≤ mc ∧ dd + 5 + ms7 ≤ ms ∧ (k_X9_init (fun S_8 => 
cA S_8 x0 3 ∧ (∀ S9 : cS, S9 = cSr S_8 96 x0 ((some q4)) → cA S9 x0 3 ∧ ((cd + 1 + mc6 ≤ mc ∧ dd + 5 + ms7 ≤ ms) ∧ (Q ((ci S9 100 x0)) S9)))) dp mc6 ms7 q4 S5)))
def k_X3_putStop (Q : Int32 → cS → Prop) (dp : Nat) (mc ms : Nat) (x0 : Nat) (S : cS) : Prop :=
cA S x0 3 ∧ ((0 ≤ mc ∧ 0 ≤ ms) ∧ (k_X3_wordAt (fun r_1 S_1 => 
(0 ≤ mc ∧ 0 ≤ ms) ∧ (k_X9_stemOf (fun r_2 S_2 => 
cA S_2 x0 3 ∧ ((0 ≤ mc ∧ 0 ≤ ms) ∧ (k_X3_isStop (fun r_3 S_3 => 
((¬ r_3 = 0 →
  k_X3_putStop_49 Q dp mc ms  x0 0 0 S_3) ∧
 (r_3 = 0 →
  cA S_3 x0 3 ∧ (cA S_3 x0 3 ∧ ((∃ b10 : Nat, cr S_3 99 x0 = some b10 ∧ (cA S_3 b10 15 ∧ (((((nI (cn S_3 b10))) ≤ ((ci S_3 100 x0)) →
    k_X3_putStop_49 Q dp mc ms  x0 0 0 S_3) ∧
   (¬ ((nI (cn S_3 b10))) ≤ ((ci S_3 100 x0)) →
    cA S_3 x0 3 ∧ ((∃ b11 : Nat, cr S_3 99 x0 = some b11 ∧ (cA S_3 x0 3 ∧ (cX S_3 b11 15 ((ci S_3 100 x0)) ∧ (∀ S12 : cS, S12 = cSJ S_3 b11 ((ci S_3 100 x0)).toNatClampNeg r_2 → cA S12 x0 3 ∧ (cA S12 x0 3 ∧ (∀ S13 : cS, S13 = cSi S12 100 x0 ((((ci S12 100 x0)) + ((nI 1)))) → k_X3_putStop_49 Q dp mc ms  x0 0 0 S13))))))))))))))))) dp x0 r_2 S_2))) dp r_1 S_1)) dp x0 ((nI 0)) S))
section S_X3_putStop
variable {p : Program} {l : Launch} {e : Env} {s : State} {m : MethodId} {args : Array Value} {below : List Frame} {meth : Method} {c : Code} {A : Nat → Prop} {D : va_G} {Y : cY} {tp dp : Nat}
set_option maxRecDepth 20000 in
theorem tb_X3_putStop_49 {mc ms : Nat} (C : cC p s m args meth c cX3_putStop 3 (some .int) A D Y tp dp RX3) {post : Int32 → cS → Prop}   (x0 : Nat) (cd dd : Nat) (S : cS) (h : k_X3_putStop_49 post dp mc ms  x0 cd dd S) : cG p l e (cRm 3 mc ms 69) s m args below meth c A D Y 3 (MQ below (cQi post D Y A) args s mc ms A) cd dd 49 [(0, .ref x0)] [] S := by
  unfold k_X3_putStop_49 at h
  refine cg_aload_n C (i := 0) rfl 0 rfl dX3_putStop_49 ?_
  obtain ⟨hc_50, h⟩ := h
  refine cg_new C (k := 9) (N := 5) (fs := [.null, .int 0, .null, .null, .int 0]) (by decide) rfl cWs_wsX90 tyX9_ok cn_X3_9 ci_X9 ct_X9 (fun j_ hj_ => by rcases (show j_ = 0 ∨ j_ = 1 ∨ j_ = 2 ∨ j_ = 3 ∨ j_ = 4 by omega) with rfl | rfl | rfl | rfl | rfl <;> rfl) rfl hc_50.1 hc_50.2 dX3_putStop_50 (fun q4 hf_q4 => ?_)
  have h := h q4 hf_q4
  refine cg_nm (fun S5 e_S5 => ?_)
  have h := h S5 e_S5
  refine cg_dup C rfl dX3_putStop_53 ?_
  obtain ⟨mc6, ms7, hm_1, hm_2, h⟩ := h
  refine cg_callIN C (t_X9_init l mc6 ms7 q4 S5 dp h) czn_X3_11 rfl ⟨by decide, by decide⟩ ⟨hm_1, hm_2⟩ rfl (Nat.le_of_ble_eq_true rfl) dX3_putStop_54 (fun S_8 h => ?_)
  obtain ⟨hc_57, h⟩ := h
  refine cg_putr C (k := 3) (j := 0) (x := (some q4)) (ty := tyX3) (fty := tyX3 0) hc_57.1 hc_57.2 (by decide) rfl (by decide) rfl (by decide) rfl cWs_wsX30 tyX3_ok nmX3 cl_X3_12 rfl rfl rfl rfl rfl dX3_putStop_57 ?_
  refine cg_nm (fun S9 e_S9 => ?_)
  have h := h S9 e_S9
  refine cg_aload_n C (i := 0) rfl 0 rfl dX3_putStop_60 ?_
  obtain ⟨hc_61, h⟩ := h
  refine cg_get C (k := 3) (j := 4) (.int (ci S9 100 x0)) hc_61.1 hc_61.2 (by decide) rfl (by decide) rfl rfl cWs_wsX30 cl_X3_29 rfl dX3_putStop_61 ?_
  obtain ⟨hb_64, h⟩ := h
  exact cg_iret C h dX3_putStop_64 hb_64.1 hb_64.2
end S_X3_putStop
set_option maxHeartbeats 1000000 in
set_option maxRecDepth 20000 in
theorem t_X3_putStop (l : Launch) (mc ms : Nat) (x0 : Nat) (S : cS) (dp : Nat) {P : Int32 → cS → Prop} (h : k_X3_putStop P dp mc ms x0 S) : cMet (cQi P) l yX3_putStop cX3_putStop 3 (some .int) 3 mc ms 69 [.ref x0] S dp := by
  intro D Y tp sz
  refine cg_body (by decide +kernel) (Nat.le_of_ble_eq_true rfl) ?_
  intro p e s m args below meth c C
  generalize va_A (cWd Y S) sz = A at C ⊢
  have C : cC p s m args meth c cX3_putStop 3 (some .int) A D Y tp dp RX3 := C
  refine cg_lv (lv' := [(0, .ref x0)]) rfl ?_
  unfold k_X3_putStop at h
  refine cg_aload_n C (i := 0) rfl 0 rfl dX3_putStop_0 ?_
  refine cg_iconst C (x := nI 0) rfl dX3_putStop_1 ?_
  obtain ⟨hc_2, h⟩ := h
  obtain ⟨hb_2, h⟩ := h
  refine cg_calll C (t_X3_wordAt l x0 ((nI 0)) S dp h) cc_X3_56 hc_2.1 hc_2.2 (by decide) rfl rfl ⟨by decide, by decide⟩ hb_2 rfl (Nat.le_of_ble_eq_true rfl) dX3_putStop_2 (fun r_1 S_1 h => ?_)
  simp only [Nat.add_zero]
  obtain ⟨hb_5, h⟩ := h
  refine cg_callsl C (t_X9_stemOf l r_1 S_1 dp h) cc_X3_60 rfl ⟨by decide, by decide⟩ hb_5 rfl (Nat.le_of_ble_eq_true rfl) dX3_putStop_5 (fun r_2 S_2 h => ?_)
  simp only [Nat.add_zero]
  refine cg_lstore_n C (i := 1) (lv' := [(1, .long r_2), (0, .ref x0)]) rfl (Nat.le_of_ble_eq_true rfl) rfl dX3_putStop_8 ?_
  refine cg_aload_n C (i := 0) rfl 1 rfl dX3_putStop_9 ?_
  refine cg_lload_n C (i := 1) rfl 0 rfl dX3_putStop_10 ?_
  obtain ⟨hc_11, h⟩ := h
  obtain ⟨hb_11, h⟩ := h
  refine cg_calli C (t_X3_isStop l x0 r_2 S_2 dp h) cc_X3_64 hc_11.1 hc_11.2 (by decide) rfl rfl ⟨by decide, by decide⟩ hb_11 rfl (Nat.le_of_ble_eq_true rfl) dX3_putStop_11 (fun r_3 S_3 h => ?_)
  simp only [Nat.add_zero]
  refine cg_if_ne C 49 (by decide) dX3_putStop_14 (fun c_ => ?_) (fun c_ => ?_)
  · have h := h.1 c_
    exact cg_sub [1] rfl (tb_X3_putStop_49 C   x0 0 0 S_3 h)
  · have h := h.2 c_
    refine cg_aload_n C (i := 0) rfl 1 rfl dX3_putStop_17 ?_
    obtain ⟨hc_18, h⟩ := h
    refine cg_get C (k := 3) (j := 4) (.int (ci S_3 100 x0)) hc_18.1 hc_18.2 (by decide) rfl (by decide) rfl rfl cWs_wsX30 cl_X3_29 rfl dX3_putStop_18 ?_
    refine cg_aload_n C (i := 0) rfl 1 rfl dX3_putStop_21 ?_
    obtain ⟨hc_22, h⟩ := h
    obtain ⟨b10, hb_b10, h⟩ := h
    refine cg_get C (k := 3) (j := 3) (.ref b10) hc_22.1 hc_22.2 (by decide) rfl (by decide) rfl (show cV _ 3 3 x0 = _ from congrArg va_rf hb_b10) cWs_wsX30 cl_X3_26 rfl dX3_putStop_22 ?_
    obtain ⟨hc_25, h⟩ := h
    refine cg_alen C hc_25.1 hc_25.2 (by decide) (by decide) dX3_putStop_25 ?_
    refine cg_icmp_ge C 49 (by decide) dX3_putStop_26 (fun c_ => ?_) (fun c_ => ?_)
    · have h := h.1 c_
      exact cg_sub [1] rfl (tb_X3_putStop_49 C   x0 0 0 S_3 h)
    · have h := h.2 c_
      refine cg_aload_n C (i := 0) rfl 1 rfl dX3_putStop_29 ?_
      obtain ⟨hc_30, h⟩ := h
      obtain ⟨b11, hb_b11, h⟩ := h
      refine cg_get C (k := 3) (j := 3) (.ref b11) hc_30.1 hc_30.2 (by decide) rfl (by decide) rfl (show cV _ 3 3 x0 = _ from congrArg va_rf hb_b11) cWs_wsX30 cl_X3_26 rfl dX3_putStop_30 ?_
      refine cg_aload_n C (i := 0) rfl 1 rfl dX3_putStop_33 ?_
      obtain ⟨hc_34, h⟩ := h
      refine cg_get C (k := 3) (j := 4) (.int (ci S_3 100 x0)) hc_34.1 hc_34.2 (by decide) rfl (by decide) rfl rfl cWs_wsX30 cl_X3_29 rfl dX3_putStop_34 ?_
      refine cg_lload_n C (i := 1) rfl 0 rfl dX3_putStop_37 ?_
      obtain ⟨hc_38, h⟩ := h
      refine cg_lastoreR C hc_38 dX3_putStop_38 ?_
      refine cg_nm (fun S12 e_S12 => ?_)
      have h := h S12 e_S12
      refine cg_aload_n C (i := 0) rfl 1 rfl dX3_putStop_39 ?_
      refine cg_dup C rfl dX3_putStop_40 ?_
      obtain ⟨hc_41, h⟩ := h
      refine cg_get C (k := 3) (j := 4) (.int (ci S12 100 x0)) hc_41.1 hc_41.2 (by decide) rfl (by decide) rfl rfl cWs_wsX30 cl_X3_29 rfl dX3_putStop_41 ?_
      refine cg_iconst C (x := nI 1) rfl dX3_putStop_44 ?_
      refine cg_iadd C dX3_putStop_45 ?_
      obtain ⟨hc_46, h⟩ := h
      refine cg_puti C (k := 3) (j := 4) (ty := tyX3) (fty := .int) hc_46.1 hc_46.2 (by decide) rfl (by decide) rfl (by decide) rfl cWs_wsX30 tyX3_ok nmX3 cl_X3_29 rfl rfl rfl rfl rfl dX3_putStop_46 ?_
      refine cg_nm (fun S13 e_S13 => ?_)
      have h := h S13 e_S13
      exact cg_sub [1] rfl (tb_X3_putStop_49 C   x0 0 0 S13 h)
def k_X3_putPair_68 (Q : Int32 → cS → Prop) (dp : Nat) (mc ms : Nat)  (x0 : Nat) (cd dd : Nat) (S : cS) : Prop :=
(cd + 1 ≤ mc ∧ dd + 5 ≤ ms) ∧ (∀ q2 : Nat, q2 ∉ cL S → ∀ S3 : cS, S3 = cNew S q2 9 → (∃ mc4 ms5 : Nat, cd + 1 + mc4 ≤ mc ∧ dd + 5 + ms5 ≤ ms ∧ (k_X9_init (fun S_6 => 
cA S_6 x0 3 ∧ (∀ S7 : cS, S7 = cSr S_6 96 x0 ((some q2)) → cA S7 x0 3 ∧ ((cd + 1 + mc4 ≤ mc ∧ dd + 5 + ms5 ≤ ms) ∧ (Q ((ci S7 103 x0)) S7)))) dp mc4 ms5 q2 S3)))
def k_X3_putPair (Q : Int32 → cS → Prop) (dp : Nat) (mc ms : Nat) (x0 : Nat) (S : cS) : Prop :=
cA S x0 3 ∧ (cA S x0 3 ∧ ((∃ b1 : Nat, cr S 101 x0 = some b1 ∧ (cA S b1 15 ∧ (((((nI (cn S b1))) ≤ ((ci S 103 x0)) →
  k_X3_putPair_68 Q dp mc ms  x0 0 0 S) ∧
 (¬ ((nI (cn S b1))) ≤ ((ci S 103 x0)) →
  cA S x0 3 ∧ (cA S x0 3 ∧ ((∃ b8 : Nat, cr S 102 x0 = some b8 ∧ (cA S b8 15 ∧ (((((nI (cn S b8))) ≤ ((ci S 103 x0)) →
    k_X3_putPair_68 Q dp mc ms  x0 0 0 S) ∧
   (¬ ((nI (cn S b8))) ≤ ((ci S 103 x0)) →
    cA S x0 3 ∧ ((∃ b9 : Nat, cr S 101 x0 = some b9 ∧ (cA S x0 3 ∧ (cA S x0 3 ∧ ((0 ≤ mc ∧ 0 ≤ ms) ∧ (k_X3_wordAt (fun r_10 S_10 => 
    (0 ≤ mc ∧ 0 ≤ ms) ∧ (k_X9_stemOf (fun r_11 S_11 => 
    cX S_11 b9 15 ((ci S 103 x0)) ∧ (∀ S12 : cS, S12 = cSJ S_11 b9 ((ci S 103 x0)).toNatClampNeg r_11 → cA S12 x0 3 ∧ ((∃ b13 : Nat, cr S12 102 x0 = some b13 ∧ (cA S12 x0 3 ∧ (cA S12 x0 3 ∧ ((0 ≤ mc ∧ 0 ≤ ms) ∧ (k_X3_wordAt (fun r_14 S_14 => 
    (0 ≤ mc ∧ 0 ≤ ms) ∧ (k_X9_stemOf (fun r_15 S_15 => 
    cX S_15 b13 15 ((ci S12 103 x0)) ∧ (∀ S16 : cS, S16 = cSJ S_15 b13 ((ci S12 103 x0)).toNatClampNeg r_15 → cA S16 x0 3 ∧ (cA S16 x0 3 ∧ (∀ S17 : cS, S17 = cSi S16 103 x0 ((((ci S16 103 x0)) + ((nI 1)))) → k_X3_putPair_68 Q dp mc ms  x0 0 0 S17)))) dp r_14 S_14)) dp x0 ((nI 1)) S12)))))))) dp r_10 S_10)) dp x0 ((nI 0)) S))))))))))))))))))))
section S_X3_putPair
variable {p : Program} {l : Launch} {e : Env} {s : State} {m : MethodId} {args : Array Value} {below : List Frame} {meth : Method} {c : Code} {A : Nat → Prop} {D : va_G} {Y : cY} {tp dp : Nat}
set_option maxRecDepth 20000 in
theorem tb_X3_putPair_68 {mc ms : Nat} (C : cC p s m args meth c cX3_putPair 1 (some .int) A D Y tp dp RX3) {post : Int32 → cS → Prop}   (x0 : Nat) (cd dd : Nat) (S : cS) (h : k_X3_putPair_68 post dp mc ms  x0 cd dd S) : cG p l e (cRm 3 mc ms 69) s m args below meth c A D Y 1 (MQ below (cQi post D Y A) args s mc ms A) cd dd 68 [(0, .ref x0)] [] S := by
  unfold k_X3_putPair_68 at h
  refine cg_aload_n C (i := 0) rfl 0 rfl dX3_putPair_68 ?_
  obtain ⟨hc_69, h⟩ := h
  refine cg_new C (k := 9) (N := 5) (fs := [.null, .int 0, .null, .null, .int 0]) (by decide) rfl cWs_wsX90 tyX9_ok cn_X3_9 ci_X9 ct_X9 (fun j_ hj_ => by rcases (show j_ = 0 ∨ j_ = 1 ∨ j_ = 2 ∨ j_ = 3 ∨ j_ = 4 by omega) with rfl | rfl | rfl | rfl | rfl <;> rfl) rfl hc_69.1 hc_69.2 dX3_putPair_69 (fun q2 hf_q2 => ?_)
  have h := h q2 hf_q2
  refine cg_nm (fun S3 e_S3 => ?_)
  have h := h S3 e_S3
  refine cg_dup C rfl dX3_putPair_72 ?_
  obtain ⟨mc4, ms5, hm_1, hm_2, h⟩ := h
  refine cg_callIN C (t_X9_init l mc4 ms5 q2 S3 dp h) czn_X3_11 rfl ⟨by decide, by decide⟩ ⟨hm_1, hm_2⟩ rfl (Nat.le_of_ble_eq_true rfl) dX3_putPair_73 (fun S_6 h => ?_)
  obtain ⟨hc_76, h⟩ := h
  refine cg_putr C (k := 3) (j := 0) (x := (some q2)) (ty := tyX3) (fty := tyX3 0) hc_76.1 hc_76.2 (by decide) rfl (by decide) rfl (by decide) rfl cWs_wsX30 tyX3_ok nmX3 cl_X3_12 rfl rfl rfl rfl rfl dX3_putPair_76 ?_
  refine cg_nm (fun S7 e_S7 => ?_)
  have h := h S7 e_S7
  refine cg_aload_n C (i := 0) rfl 0 rfl dX3_putPair_79 ?_
  obtain ⟨hc_80, h⟩ := h
  refine cg_get C (k := 3) (j := 7) (.int (ci S7 103 x0)) hc_80.1 hc_80.2 (by decide) rfl (by decide) rfl rfl cWs_wsX30 cl_X3_38 rfl dX3_putPair_80 ?_
  obtain ⟨hb_83, h⟩ := h
  exact cg_iret C h dX3_putPair_83 hb_83.1 hb_83.2
end S_X3_putPair
set_option maxHeartbeats 1000000 in
set_option maxRecDepth 20000 in
theorem t_X3_putPair (l : Launch) (mc ms : Nat) (x0 : Nat) (S : cS) (dp : Nat) {P : Int32 → cS → Prop} (h : k_X3_putPair P dp mc ms x0 S) : cMet (cQi P) l yX3_putPair cX3_putPair 1 (some .int) 3 mc ms 69 [.ref x0] S dp := by
  intro D Y tp sz
  refine cg_body (by decide +kernel) (Nat.le_of_ble_eq_true rfl) ?_
  intro p e s m args below meth c C
  generalize va_A (cWd Y S) sz = A at C ⊢
  have C : cC p s m args meth c cX3_putPair 1 (some .int) A D Y tp dp RX3 := C
  refine cg_lv (lv' := [(0, .ref x0)]) rfl ?_
  unfold k_X3_putPair at h
  refine cg_aload_n C (i := 0) rfl 0 rfl dX3_putPair_0 ?_
  obtain ⟨hc_1, h⟩ := h
  refine cg_get C (k := 3) (j := 7) (.int (ci S 103 x0)) hc_1.1 hc_1.2 (by decide) rfl (by decide) rfl rfl cWs_wsX30 cl_X3_38 rfl dX3_putPair_1 ?_
  refine cg_aload_n C (i := 0) rfl 0 rfl dX3_putPair_4 ?_
  obtain ⟨hc_5, h⟩ := h
  obtain ⟨b1, hb_b1, h⟩ := h
  refine cg_get C (k := 3) (j := 5) (.ref b1) hc_5.1 hc_5.2 (by decide) rfl (by decide) rfl (show cV _ 3 5 x0 = _ from congrArg va_rf hb_b1) cWs_wsX30 cl_X3_32 rfl dX3_putPair_5 ?_
  obtain ⟨hc_8, h⟩ := h
  refine cg_alen C hc_8.1 hc_8.2 (by decide) (by decide) dX3_putPair_8 ?_
  refine cg_icmp_ge C 68 (by decide) dX3_putPair_9 (fun c_ => ?_) (fun c_ => ?_)
  · have h := h.1 c_
    exact cg_sub [0] rfl (tb_X3_putPair_68 C   x0 0 0 S h)
  · have h := h.2 c_
    refine cg_aload_n C (i := 0) rfl 0 rfl dX3_putPair_12 ?_
    obtain ⟨hc_13, h⟩ := h
    refine cg_get C (k := 3) (j := 7) (.int (ci S 103 x0)) hc_13.1 hc_13.2 (by decide) rfl (by decide) rfl rfl cWs_wsX30 cl_X3_38 rfl dX3_putPair_13 ?_
    refine cg_aload_n C (i := 0) rfl 0 rfl dX3_putPair_16 ?_
    obtain ⟨hc_17, h⟩ := h
    obtain ⟨b8, hb_b8, h⟩ := h
    refine cg_get C (k := 3) (j := 6) (.ref b8) hc_17.1 hc_17.2 (by decide) rfl (by decide) rfl (show cV _ 3 6 x0 = _ from congrArg va_rf hb_b8) cWs_wsX30 cl_X3_35 rfl dX3_putPair_17 ?_
    obtain ⟨hc_20, h⟩ := h
    refine cg_alen C hc_20.1 hc_20.2 (by decide) (by decide) dX3_putPair_20 ?_
    refine cg_icmp_ge C 68 (by decide) dX3_putPair_21 (fun c_ => ?_) (fun c_ => ?_)
    · have h := h.1 c_
      exact cg_sub [0] rfl (tb_X3_putPair_68 C   x0 0 0 S h)
    · have h := h.2 c_
      refine cg_aload_n C (i := 0) rfl 0 rfl dX3_putPair_24 ?_
      obtain ⟨hc_25, h⟩ := h
      obtain ⟨b9, hb_b9, h⟩ := h
      refine cg_get C (k := 3) (j := 5) (.ref b9) hc_25.1 hc_25.2 (by decide) rfl (by decide) rfl (show cV _ 3 5 x0 = _ from congrArg va_rf hb_b9) cWs_wsX30 cl_X3_32 rfl dX3_putPair_25 ?_
      refine cg_aload_n C (i := 0) rfl 0 rfl dX3_putPair_28 ?_
      obtain ⟨hc_29, h⟩ := h
      refine cg_get C (k := 3) (j := 7) (.int (ci S 103 x0)) hc_29.1 hc_29.2 (by decide) rfl (by decide) rfl rfl cWs_wsX30 cl_X3_38 rfl dX3_putPair_29 ?_
      refine cg_aload_n C (i := 0) rfl 0 rfl dX3_putPair_32 ?_
      refine cg_iconst C (x := nI 0) rfl dX3_putPair_33 ?_
      obtain ⟨hc_34, h⟩ := h
      obtain ⟨hb_34, h⟩ := h
      refine cg_calll C (t_X3_wordAt l x0 ((nI 0)) S dp h) cc_X3_56 hc_34.1 hc_34.2 (by decide) rfl rfl ⟨by decide, by decide⟩ hb_34 rfl (Nat.le_of_ble_eq_true rfl) dX3_putPair_34 (fun r_10 S_10 h => ?_)
      simp only [Nat.add_zero]
      obtain ⟨hb_37, h⟩ := h
      refine cg_callsl C (t_X9_stemOf l r_10 S_10 dp h) cc_X3_60 rfl ⟨by decide, by decide⟩ hb_37 rfl (Nat.le_of_ble_eq_true rfl) dX3_putPair_37 (fun r_11 S_11 h => ?_)
      simp only [Nat.add_zero]
      obtain ⟨hc_40, h⟩ := h
      refine cg_lastoreR C hc_40 dX3_putPair_40 ?_
      refine cg_nm (fun S12 e_S12 => ?_)
      have h := h S12 e_S12
      refine cg_aload_n C (i := 0) rfl 0 rfl dX3_putPair_41 ?_
      obtain ⟨hc_42, h⟩ := h
      obtain ⟨b13, hb_b13, h⟩ := h
      refine cg_get C (k := 3) (j := 6) (.ref b13) hc_42.1 hc_42.2 (by decide) rfl (by decide) rfl (show cV _ 3 6 x0 = _ from congrArg va_rf hb_b13) cWs_wsX30 cl_X3_35 rfl dX3_putPair_42 ?_
      refine cg_aload_n C (i := 0) rfl 0 rfl dX3_putPair_45 ?_
      obtain ⟨hc_46, h⟩ := h
      refine cg_get C (k := 3) (j := 7) (.int (ci S12 103 x0)) hc_46.1 hc_46.2 (by decide) rfl (by decide) rfl rfl cWs_wsX30 cl_X3_38 rfl dX3_putPair_46 ?_
      refine cg_aload_n C (i := 0) rfl 0 rfl dX3_putPair_49 ?_
      refine cg_iconst C (x := nI 1) rfl dX3_putPair_50 ?_
      obtain ⟨hc_51, h⟩ := h
      obtain ⟨hb_51, h⟩ := h
      refine cg_calll C (t_X3_wordAt l x0 ((nI 1)) S12 dp h) cc_X3_56 hc_51.1 hc_51.2 (by decide) rfl rfl ⟨by decide, by decide⟩ hb_51 rfl (Nat.le_of_ble_eq_true rfl) dX3_putPair_51 (fun r_14 S_14 h => ?_)
      simp only [Nat.add_zero]
      obtain ⟨hb_54, h⟩ := h
      refine cg_callsl C (t_X9_stemOf l r_14 S_14 dp h) cc_X3_60 rfl ⟨by decide, by decide⟩ hb_54 rfl (Nat.le_of_ble_eq_true rfl) dX3_putPair_54 (fun r_15 S_15 h => ?_)
      simp only [Nat.add_zero]
      obtain ⟨hc_57, h⟩ := h
      refine cg_lastoreR C hc_57 dX3_putPair_57 ?_
      refine cg_nm (fun S16 e_S16 => ?_)
      have h := h S16 e_S16
      refine cg_aload_n C (i := 0) rfl 0 rfl dX3_putPair_58 ?_
      refine cg_dup C rfl dX3_putPair_59 ?_
      obtain ⟨hc_60, h⟩ := h
      refine cg_get C (k := 3) (j := 7) (.int (ci S16 103 x0)) hc_60.1 hc_60.2 (by decide) rfl (by decide) rfl rfl cWs_wsX30 cl_X3_38 rfl dX3_putPair_60 ?_
      refine cg_iconst C (x := nI 1) rfl dX3_putPair_63 ?_
      refine cg_iadd C dX3_putPair_64 ?_
      obtain ⟨hc_65, h⟩ := h
      refine cg_puti C (k := 3) (j := 7) (ty := tyX3) (fty := .int) hc_65.1 hc_65.2 (by decide) rfl (by decide) rfl (by decide) rfl cWs_wsX30 tyX3_ok nmX3 cl_X3_38 rfl rfl rfl rfl rfl dX3_putPair_65 ?_
      refine cg_nm (fun S17 e_S17 => ?_)
      have h := h S17 e_S17
      exact cg_sub [0] rfl (tb_X3_putPair_68 C   x0 0 0 S17 h)
def k_X4_init (Q : cS → Prop) (dp : Nat) (mc ms : Nat) (x0 : Nat) (x1 : Int32) (x2 : Int32) (x3 : Int32) (S : cS) : Prop :=
cA S x0 4 ∧ (∀ S1 : cS, S1 = cSi S 131 x0 ((bI false)) → cA S1 x0 4 ∧ (∀ S2 : cS, S2 = cSi S1 132 x0 ((nI 0)) → cA S2 x0 4 ∧ (∀ S3 : cS, S3 = cSi S2 133 x0 ((bI false)) → (∃ n4 : Nat, (nI 0) = nI n4 ∧ n4 < 2 ^ 20 ∧ 0 + 1 ≤ mc ∧ 0 + n4 ≤ ms ∧ (∀ q5 : Nat, q5 ∉ cL S3 → ∀ S6 : cS, S6 = cNewA S3 q5 15 n4 → cA S6 x0 4 ∧ (∀ S7 : cS, S7 = cSr S6 134 x0 ((some q5)) → (∃ n8 : Nat, (nI 0) = nI n8 ∧ n8 < 2 ^ 20 ∧ 0 + 1 + 1 ≤ mc ∧ 0 + n4 + n8 ≤ ms ∧ (∀ q9 : Nat, q9 ∉ cL S7 → ∀ S10 : cS, S10 = cNewA S7 q9 14 n8 → cA S10 x0 4 ∧ (∀ S11 : cS, S11 = cSr S10 135 x0 ((some q9)) → (∃ n12 : Nat, (nI 0) = nI n12 ∧ n12 < 2 ^ 20 ∧ 0 + 1 + 1 + 1 ≤ mc ∧ 0 + n4 + n8 + n12 ≤ ms ∧ (∀ q13 : Nat, q13 ∉ cL S11 → ∀ S14 : cS, S14 = cNewA S11 q13 14 n12 → cA S14 x0 4 ∧ (∀ S15 : cS, S15 = cSr S14 136 x0 ((some q13)) → cA S15 x0 4 ∧ (∀ S16 : cS, S16 = cSw S15 137 x0 0 → (∃ n17 : Nat, (nI 0) = nI n17 ∧ n17 < 2 ^ 20 ∧ 0 + 1 + 1 + 1 + 1 ≤ mc ∧ 0 + n4 + n8 + n12 + n17 ≤ ms ∧ (∀ q18 : Nat, q18 ∉ cL S16 → ∀ S19 : cS, S19 = cNewA S16 q18 14 n17 → cA S19 x0 4 ∧ (∀ S20 : cS, S20 = cSr S19 138 x0 ((some q18)) → cA S20 x0 4 ∧ (∀ S21 : cS, S21 = cSi S20 128 x0 x1 → cA S21 x0 4 ∧ (∀ S22 : cS, S22 = cSi S21 129 x0 x2 → cA S22 x0 4 ∧ (∀ S23 : cS, S23 = cSi S22 130 x0 x3 → (0 + 1 + 1 + 1 + 1 ≤ mc ∧ 0 + n4 + n8 + n12 + n17 ≤ ms) ∧ (Q S23))))))))))))))))))))
set_option maxHeartbeats 1000000 in
set_option maxRecDepth 20000 in
theorem t_X4_init (l : Launch) (mc ms : Nat) (x0 : Nat) (x1 : Int32) (x2 : Int32) (x3 : Int32) (S : cS) (dp : Nat) {P : cS → Prop} (h : k_X4_init P dp mc ms x0 x1 x2 x3 S) : cMet (cQv P) l yX4_init cX4_init 4 none 1 mc ms 32 [.ref x0, .int x1, .int x2, .int x3] S dp := by
  intro D Y tp sz
  refine cg_bodyI (by decide +kernel) (Nat.le_of_ble_eq_true rfl) ?_
  intro p e s m args below meth c C hin
  generalize va_A (cWd Y S) sz = A at C ⊢
  have C : cC p s m args meth c cX4_init 4 none A D Y tp dp RX4 := C
  refine cg_lv (lv' := [(0, .ref x0), (1, .int x1), (2, .int x2), (3, .int x3)]) rfl ?_
  unfold k_X4_init at h
  refine cg_aload_n C (i := 0) rfl 0 rfl dX4_init_0 ?_
  refine cg_objInit C co_X4_3 co_i co_c (by decide) (Nat.le_of_ble_eq_true rfl) dX4_init_1 ?_
  refine cg_aload_n C (i := 0) rfl 0 rfl dX4_init_4 ?_
  refine cg_iconst C (x := nI 0) rfl dX4_init_5 ?_
  obtain ⟨hc_6, h⟩ := h
  refine cg_cast (.int (bI false)) rfl ?_
  refine cg_puti C (k := 4) (j := 3) (ty := tyX4) (fty := .boolean) hc_6.1 hc_6.2 (by decide) rfl (by decide) rfl (by decide) rfl cWs_wsX40 tyX4_ok nmX4 cl_X4_9 rfl rfl rfl (bI_nar _) (bI_fit _) dX4_init_6 ?_
  refine cg_nm (fun S1 e_S1 => ?_)
  have h := h S1 e_S1
  refine cg_aload_n C (i := 0) rfl 0 rfl dX4_init_9 ?_
  refine cg_iconst C (x := nI 0) rfl dX4_init_10 ?_
  obtain ⟨hc_11, h⟩ := h
  refine cg_puti C (k := 4) (j := 4) (ty := tyX4) (fty := .int) hc_11.1 hc_11.2 (by decide) rfl (by decide) rfl (by decide) rfl cWs_wsX40 tyX4_ok nmX4 cl_X4_15 rfl rfl rfl rfl rfl dX4_init_11 ?_
  refine cg_nm (fun S2 e_S2 => ?_)
  have h := h S2 e_S2
  refine cg_aload_n C (i := 0) rfl 0 rfl dX4_init_14 ?_
  refine cg_iconst C (x := nI 0) rfl dX4_init_15 ?_
  obtain ⟨hc_16, h⟩ := h
  refine cg_cast (.int (bI false)) rfl ?_
  refine cg_puti C (k := 4) (j := 5) (ty := tyX4) (fty := .boolean) hc_16.1 hc_16.2 (by decide) rfl (by decide) rfl (by decide) rfl cWs_wsX40 tyX4_ok nmX4 cl_X4_19 rfl rfl rfl (bI_nar _) (bI_fit _) dX4_init_16 ?_
  refine cg_nm (fun S3 e_S3 => ?_)
  have h := h S3 e_S3
  refine cg_aload_n C (i := 0) rfl 0 rfl dX4_init_19 ?_
  refine cg_iconst C (x := nI 0) rfl dX4_init_20 ?_
  obtain ⟨n4, hn_1, hn_2, hn_3, hn_4, h⟩ := h
  refine cg_cast (.int (nI n4)) (congrArg Value.int hn_1) ?_
  refine cg_newJ C n4 hn_2 ca_long hn_3 hn_4 dX4_init_21 (fun q5 hf_q5 => ?_)
  have h := h q5 hf_q5
  refine cg_nm (fun S6 e_S6 => ?_)
  have h := h S6 e_S6
  obtain ⟨hc_23, h⟩ := h
  refine cg_putr C (k := 4) (j := 6) (x := (some q5)) (ty := tyX4) (fty := tyX4 6) hc_23.1 hc_23.2 (by decide) rfl (by decide) rfl (by decide) rfl cWs_wsX40 tyX4_ok nmX4 cl_X4_22 rfl rfl rfl rfl rfl dX4_init_23 ?_
  refine cg_nm (fun S7 e_S7 => ?_)
  have h := h S7 e_S7
  refine cg_aload_n C (i := 0) rfl 0 rfl dX4_init_26 ?_
  refine cg_iconst C (x := nI 0) rfl dX4_init_27 ?_
  obtain ⟨n8, hn_1, hn_2, hn_3, hn_4, h⟩ := h
  refine cg_cast (.int (nI n8)) (congrArg Value.int hn_1) ?_
  refine cg_newI C n8 hn_2 ca_int hn_3 hn_4 dX4_init_28 (fun q9 hf_q9 => ?_)
  have h := h q9 hf_q9
  refine cg_nm (fun S10 e_S10 => ?_)
  have h := h S10 e_S10
  obtain ⟨hc_30, h⟩ := h
  refine cg_putr C (k := 4) (j := 7) (x := (some q9)) (ty := tyX4) (fty := tyX4 7) hc_30.1 hc_30.2 (by decide) rfl (by decide) rfl (by decide) rfl cWs_wsX40 tyX4_ok nmX4 cl_X4_26 rfl rfl rfl rfl rfl dX4_init_30 ?_
  refine cg_nm (fun S11 e_S11 => ?_)
  have h := h S11 e_S11
  refine cg_aload_n C (i := 0) rfl 0 rfl dX4_init_33 ?_
  refine cg_iconst C (x := nI 0) rfl dX4_init_34 ?_
  obtain ⟨n12, hn_1, hn_2, hn_3, hn_4, h⟩ := h
  refine cg_cast (.int (nI n12)) (congrArg Value.int hn_1) ?_
  refine cg_newI C n12 hn_2 ca_int hn_3 hn_4 dX4_init_35 (fun q13 hf_q13 => ?_)
  have h := h q13 hf_q13
  refine cg_nm (fun S14 e_S14 => ?_)
  have h := h S14 e_S14
  obtain ⟨hc_37, h⟩ := h
  refine cg_putr C (k := 4) (j := 8) (x := (some q13)) (ty := tyX4) (fty := tyX4 8) hc_37.1 hc_37.2 (by decide) rfl (by decide) rfl (by decide) rfl cWs_wsX40 tyX4_ok nmX4 cl_X4_30 rfl rfl rfl rfl rfl dX4_init_37 ?_
  refine cg_nm (fun S15 e_S15 => ?_)
  have h := h S15 e_S15
  refine cg_aload_n C (i := 0) rfl 0 rfl dX4_init_40 ?_
  refine cg_lconst C (x := 0) rfl dX4_init_41 ?_
  obtain ⟨hc_42, h⟩ := h
  refine cg_putw C (k := 4) (j := 9) (ty := tyX4) (fty := .long) hc_42.1 hc_42.2 (by decide) rfl (by decide) rfl (by decide) rfl cWs_wsX40 tyX4_ok nmX4 cl_X4_33 rfl rfl rfl rfl rfl dX4_init_42 ?_
  refine cg_nm (fun S16 e_S16 => ?_)
  have h := h S16 e_S16
  refine cg_aload_n C (i := 0) rfl 0 rfl dX4_init_45 ?_
  refine cg_iconst C (x := nI 0) rfl dX4_init_46 ?_
  obtain ⟨n17, hn_1, hn_2, hn_3, hn_4, h⟩ := h
  refine cg_cast (.int (nI n17)) (congrArg Value.int hn_1) ?_
  refine cg_newI C n17 hn_2 ca_int hn_3 hn_4 dX4_init_47 (fun q18 hf_q18 => ?_)
  have h := h q18 hf_q18
  refine cg_nm (fun S19 e_S19 => ?_)
  have h := h S19 e_S19
  obtain ⟨hc_49, h⟩ := h
  refine cg_putr C (k := 4) (j := 10) (x := (some q18)) (ty := tyX4) (fty := tyX4 10) hc_49.1 hc_49.2 (by decide) rfl (by decide) rfl (by decide) rfl cWs_wsX40 tyX4_ok nmX4 cl_X4_37 rfl rfl rfl rfl rfl dX4_init_49 ?_
  refine cg_nm (fun S20 e_S20 => ?_)
  have h := h S20 e_S20
  refine cg_aload_n C (i := 0) rfl 0 rfl dX4_init_52 ?_
  refine cg_iload_n C (i := 1) rfl 1 rfl dX4_init_53 ?_
  obtain ⟨hc_54, h⟩ := h
  refine cg_putiF C (k := 4) (j := 0) (ty := tyX4) (fty := .int) hc_54.1 hc_54.2 (by decide) rfl (by decide) rfl (by decide) rfl cWs_wsX40 tyX4_ok nmX4 cl_X4_40 rfl rfl hin rfl rfl rfl rfl dX4_init_54 ?_
  refine cg_nm (fun S21 e_S21 => ?_)
  have h := h S21 e_S21
  refine cg_aload_n C (i := 0) rfl 0 rfl dX4_init_57 ?_
  refine cg_iload_n C (i := 2) rfl 2 rfl dX4_init_58 ?_
  obtain ⟨hc_59, h⟩ := h
  refine cg_putiF C (k := 4) (j := 1) (ty := tyX4) (fty := .int) hc_59.1 hc_59.2 (by decide) rfl (by decide) rfl (by decide) rfl cWs_wsX40 tyX4_ok nmX4 cl_X4_43 rfl rfl hin rfl rfl rfl rfl dX4_init_59 ?_
  refine cg_nm (fun S22 e_S22 => ?_)
  have h := h S22 e_S22
  refine cg_aload_n C (i := 0) rfl 0 rfl dX4_init_62 ?_
  refine cg_iload_n C (i := 3) rfl 3 rfl dX4_init_63 ?_
  obtain ⟨hc_64, h⟩ := h
  refine cg_putiF C (k := 4) (j := 2) (ty := tyX4) (fty := .int) hc_64.1 hc_64.2 (by decide) rfl (by decide) rfl (by decide) rfl cWs_wsX40 tyX4_ok nmX4 cl_X4_46 rfl rfl hin rfl rfl rfl rfl dX4_init_64 ?_
  refine cg_nm (fun S23 e_S23 => ?_)
  have h := h S23 e_S23
  obtain ⟨hb_67, h⟩ := h
  exact cg_vret C h dX4_init_67 hb_67.1 hb_67.2
def k_X4_ofTokens_100 (Q : Nat → cS → Prop) (dp : Nat) (mc ms : Nat) (R48 : Nat → Nat → Int32 → Int32 → Nat → Nat → cS → Prop) (x3 : Nat) (x4 : Nat) (x5 : Int32) (x6 : Int32) (t0 : Int32) (t1 : Int32) (t2 : Nat) (cd dd : Nat) (S : cS) : Prop :=
cX S t2 14 t1 ∧ (∀ S21 : cS, S21 = cSI S t2 (t1).toNatClampNeg t0 → ∀ x6_22 : Int32, x6_22 = x6 + nI 1 → R48 x3 x4 x5 x6_22 cd dd S21)
def k_X4_ofTokens_48 (Q : Nat → cS → Prop) (dp : Nat) (mc ms : Nat) (R48 : Nat → Nat → Int32 → Int32 → Nat → Nat → cS → Prop) (x3 : Nat) (x4 : Nat) (x5 : Int32) (x6 : Int32) (cd dd : Nat) (S : cS) : Prop :=
((x5 ≤ x6 →
  (cd ≤ mc ∧ dd ≤ ms) ∧ (Q x4 S)) ∧
 (¬ x5 ≤ x6 →
  cA S x4 4 ∧ ((∃ b15 : Nat, cr S 134 x4 = some b15 ∧ (cA S x3 9 ∧ ((cd ≤ mc ∧ dd ≤ ms) ∧ (k_X9_codeAt (fun r_16 S_16 => 
  cX S_16 b15 15 x6 ∧ (∀ S17 : cS, S17 = cSJ S_16 b15 (x6).toNatClampNeg r_16 → cA S17 x4 4 ∧ ((∃ b18 : Nat, cr S17 135 x4 = some b18 ∧ (((¬ x6 = 0 →
    cA S17 x3 9 ∧ ((cd ≤ mc ∧ dd ≤ ms) ∧ (k_X9_placeAt (fun r_19 S_19 => 
    cA S_19 x3 9 ∧ ((cd ≤ mc ∧ dd ≤ ms) ∧ (k_X9_placeAt (fun r_20 S_20 => 
    k_X4_ofTokens_100 Q dp mc ms R48 x3 x4 x5 x6 ((r_19 - r_20)) x6 b18 cd dd S_20) dp x3 ((x6 - ((nI 1)))) S_19))) dp x3 x6 S17))) ∧
   (x6 = 0 →
    k_X4_ofTokens_100 Q dp mc ms R48 x3 x4 x5 x6 ((nI 0)) x6 b18 cd dd S17))))))) dp x3 x6 S)))))))
def k_X4_ofTokens_48L (Q : Nat → cS → Prop) (dp : Nat) (mc ms : Nat)  (x3 : Nat) (x4 : Nat) (x5 : Int32) (x6 : Int32) (cd dd : Nat) (S : cS) : Prop :=
  lfp (X := Nat × Nat × Int32 × Int32 × Nat × Nat × cS) (fun P y => k_X4_ofTokens_48 Q dp mc ms  (fun b0 b1 b2 b3 b4 b5 S => P (b0, b1, b2, b3, b4, b5, S)) y.1 y.2.1 y.2.2.1 y.2.2.2.1 y.2.2.2.2.1 y.2.2.2.2.2.1 y.2.2.2.2.2.2) (x3, x4, x5, x6, cd, dd, S)
def k_X4_ofTokens (Q : Nat → cS → Prop) (dp : Nat) (mc ms : Nat) (x0 : Int32) (x1 : Int32) (x2 : Int32) (x3 : Nat) (S : cS) : Prop :=
(0 + 1 ≤ mc ∧ 0 + 11 ≤ ms) ∧ (∀ q1 : Nat, q1 ∉ cL S → ∀ S2 : cS, S2 = cNew S q1 4 → (∃ mc3 ms4 : Nat, 0 + 1 + mc3 ≤ mc ∧ 0 + 11 + ms4 ≤ ms ∧ (k_X4_init (fun S_5 => 
cA S_5 x3 9 ∧ ((0 + 1 + mc3 ≤ mc ∧ 0 + 11 + ms4 ≤ ms) ∧ ((0 + 1 + mc3 ≤ mc ∧ 0 + 11 + ms4 ≤ ms) ∧ (∀ x5_6 : Int32, x5_6 = (if ((nI 6)) < ((if ((ci S_5 292 x3)) < ((nI 0)) then ((nI 0)) else ((ci S_5 292 x3)))) then ((nI 6)) else ((if ((ci S_5 292 x3)) < ((nI 0)) then ((nI 0)) else ((ci S_5 292 x3))))) → (∃ n7 : Nat, x5_6 = nI n7 ∧ n7 < 2 ^ 20 ∧ 0 + 1 + mc3 + 1 ≤ mc ∧ 0 + 11 + ms4 + n7 ≤ ms ∧ (∀ q8 : Nat, q8 ∉ cL S_5 → ∀ S9 : cS, S9 = cNewA S_5 q8 15 n7 → cA S9 q1 4 ∧ (∀ S10 : cS, S10 = cSr S9 134 q1 ((some q8)) → (∃ n11 : Nat, x5_6 = nI n11 ∧ n11 < 2 ^ 20 ∧ 0 + 1 + mc3 + 1 + 1 ≤ mc ∧ 0 + 11 + ms4 + n7 + n11 ≤ ms ∧ (∀ q12 : Nat, q12 ∉ cL S10 → ∀ S13 : cS, S13 = cNewA S10 q12 14 n11 → cA S13 q1 4 ∧ (∀ S14 : cS, S14 = cSr S13 135 q1 ((some q12)) → k_X4_ofTokens_48L Q dp mc ms  x3 q1 x5_6 (((nI 0))) (0 + 1 + mc3 + 1 + 1) (0 + 11 + ms4 + n7 + n11) S14)))))))))) dp mc3 ms4 q1 x0 x1 x2 S2)))
section S_X4_ofTokens
variable {p : Program} {l : Launch} {e : Env} {s : State} {m : MethodId} {args : Array Value} {below : List Frame} {meth : Method} {c : Code} {A : Nat → Prop} {D : va_G} {Y : cY} {tp dp : Nat}
set_option maxRecDepth 20000 in
theorem tb_X4_ofTokens_100 {mc ms : Nat} (C : cC p s m args meth c cX4_ofTokens 7 (some (.object "SearchMill$Node")) A D Y tp dp RX4) {post : Nat → cS → Prop} {R48 : Nat → Nat → Int32 → Int32 → Nat → Nat → cS → Prop} (hR48 : ∀ (x3 : Nat) (x4 : Nat) (x5 : Int32) (x6 : Int32) (cd dd : Nat) (S : cS), R48 x3 x4 x5 x6 cd dd S → cG p l e (cRm 2 mc ms 55) s m args below meth c A D Y 7 (MQ below (cQr post D Y A) args s mc ms A) cd dd 48 [(3, .ref x3), (4, .ref x4), (5, .int x5), (6, .int x6)] [] S) (x3 : Nat) (x4 : Nat) (x5 : Int32) (x6 : Int32) (t0 : Int32) (t1 : Int32) (t2 : Nat) (cd dd : Nat) (S : cS) (h : k_X4_ofTokens_100 post dp mc ms R48 x3 x4 x5 x6 t0 t1 t2 cd dd S) : cG p l e (cRm 2 mc ms 55) s m args below meth c A D Y 7 (MQ below (cQr post D Y A) args s mc ms A) cd dd 100 [(3, .ref x3), (4, .ref x4), (5, .int x5), (6, .int x6)] [.int t0, .int t1, .ref t2] S := by
  unfold k_X4_ofTokens_100 at h
  obtain ⟨hc_100, h⟩ := h
  refine cg_iastoreR C hc_100 dX4_ofTokens_100 ?_
  refine cg_nm (fun S21 e_S21 => ?_)
  have h := h S21 e_S21
  obtain ⟨x6_22, e_x6_22⟩ : ∃ z : Int32, z = x6 + nI 1 := ⟨_, rfl⟩
  have h := h x6_22 e_x6_22
  refine cg_iinc C (lv' := [(6, .int x6_22), (3, .ref x3), (4, .ref x4), (5, .int x5)]) 3 rfl (by rw [e_x6_22]; rfl) (Nat.le_of_ble_eq_true rfl) rfl dX4_ofTokens_101 ?_
  refine cg_goto C 48 (by decide) dX4_ofTokens_104 ?_
  exact cg_sub [1, 2, 3, 0] rfl (hR48 x3 x4 x5 x6_22 cd dd S21 h)
set_option maxRecDepth 20000 in
theorem tb_X4_ofTokens_48 {mc ms : Nat} (C : cC p s m args meth c cX4_ofTokens 7 (some (.object "SearchMill$Node")) A D Y tp dp RX4) {post : Nat → cS → Prop} {R48 : Nat → Nat → Int32 → Int32 → Nat → Nat → cS → Prop} (hR48 : ∀ (x3 : Nat) (x4 : Nat) (x5 : Int32) (x6 : Int32) (cd dd : Nat) (S : cS), R48 x3 x4 x5 x6 cd dd S → cG p l e (cRm 2 mc ms 55) s m args below meth c A D Y 7 (MQ below (cQr post D Y A) args s mc ms A) cd dd 48 [(3, .ref x3), (4, .ref x4), (5, .int x5), (6, .int x6)] [] S) (x3 : Nat) (x4 : Nat) (x5 : Int32) (x6 : Int32) (cd dd : Nat) (S : cS) (h : k_X4_ofTokens_48 post dp mc ms R48 x3 x4 x5 x6 cd dd S) : cG p l e (cRm 2 mc ms 55) s m args below meth c A D Y 7 (MQ below (cQr post D Y A) args s mc ms A) cd dd 48 [(3, .ref x3), (4, .ref x4), (5, .int x5), (6, .int x6)] [] S := by
  unfold k_X4_ofTokens_48 at h
  refine cg_iload C 3 rfl dX4_ofTokens_48 ?_
  refine cg_iload C 2 rfl dX4_ofTokens_50 ?_
  refine cg_icmp_ge C 107 (by decide) dX4_ofTokens_52 (fun c_ => ?_) (fun c_ => ?_)
  · have h := h.1 c_
    refine cg_aload C 1 rfl dX4_ofTokens_107 ?_
    obtain ⟨hb_109, h⟩ := h
    exact cg_aret C rfl (by first | exact Or.inl ⟨_, rfl⟩ | exact Or.inr ⟨_, rfl⟩) h dX4_ofTokens_109 hb_109.1 hb_109.2
  · have h := h.2 c_
    refine cg_aload C 1 rfl dX4_ofTokens_55 ?_
    obtain ⟨hc_57, h⟩ := h
    obtain ⟨b15, hb_b15, h⟩ := h
    refine cg_get C (k := 4) (j := 6) (.ref b15) hc_57.1 hc_57.2 (by decide) rfl (by decide) rfl (show cV _ 4 6 x4 = _ from congrArg va_rf hb_b15) cWs_wsX40 cl_X4_22 rfl dX4_ofTokens_57 ?_
    refine cg_iload C 3 rfl dX4_ofTokens_60 ?_
    refine cg_aload_n C (i := 3) rfl 0 rfl dX4_ofTokens_62 ?_
    refine cg_iload C 3 rfl dX4_ofTokens_63 ?_
    obtain ⟨hc_65, h⟩ := h
    obtain ⟨hb_65, h⟩ := h
    refine cg_calll C (t_X9_codeAt l x3 x6 S dp h) cc_X4_66 hc_65.1 hc_65.2 (by decide) rfl rfl ⟨by decide, by decide⟩ hb_65 rfl (Nat.le_of_ble_eq_true rfl) dX4_ofTokens_65 (fun r_16 S_16 h => ?_)
    simp only [Nat.add_zero]
    obtain ⟨hc_68, h⟩ := h
    refine cg_lastoreR C hc_68 dX4_ofTokens_68 ?_
    refine cg_nm (fun S17 e_S17 => ?_)
    have h := h S17 e_S17
    refine cg_aload C 1 rfl dX4_ofTokens_69 ?_
    obtain ⟨hc_71, h⟩ := h
    obtain ⟨b18, hb_b18, h⟩ := h
    refine cg_get C (k := 4) (j := 7) (.ref b18) hc_71.1 hc_71.2 (by decide) rfl (by decide) rfl (show cV _ 4 7 x4 = _ from congrArg va_rf hb_b18) cWs_wsX40 cl_X4_26 rfl dX4_ofTokens_71 ?_
    refine cg_iload C 3 rfl dX4_ofTokens_74 ?_
    refine cg_iload C 3 rfl dX4_ofTokens_76 ?_
    refine cg_if_ne C 85 (by decide) dX4_ofTokens_78 (fun c_ => ?_) (fun c_ => ?_)
    · have h := h.1 c_
      refine cg_aload_n C (i := 3) rfl 0 rfl dX4_ofTokens_85 ?_
      refine cg_iload C 3 rfl dX4_ofTokens_86 ?_
      obtain ⟨hc_88, h⟩ := h
      obtain ⟨hb_88, h⟩ := h
      refine cg_calli C (t_X9_placeAt l x3 x6 S17 dp h) cc_X4_70 hc_88.1 hc_88.2 (by decide) rfl rfl ⟨by decide, by decide⟩ hb_88 rfl (Nat.le_of_ble_eq_true rfl) dX4_ofTokens_88 (fun r_19 S_19 h => ?_)
      simp only [Nat.add_zero]
      refine cg_aload_n C (i := 3) rfl 0 rfl dX4_ofTokens_91 ?_
      refine cg_iload C 3 rfl dX4_ofTokens_92 ?_
      refine cg_iconst C (x := nI 1) rfl dX4_ofTokens_94 ?_
      refine cg_isub C dX4_ofTokens_95 ?_
      obtain ⟨hc_96, h⟩ := h
      obtain ⟨hb_96, h⟩ := h
      refine cg_calli C (t_X9_placeAt l x3 ((x6 - ((nI 1)))) S_19 dp h) cc_X4_70 hc_96.1 hc_96.2 (by decide) rfl rfl ⟨by decide, by decide⟩ hb_96 rfl (Nat.le_of_ble_eq_true rfl) dX4_ofTokens_96 (fun r_20 S_20 h => ?_)
      simp only [Nat.add_zero]
      refine cg_isub C dX4_ofTokens_99 ?_
      exact cg_sub [0, 1, 2, 3] rfl (tb_X4_ofTokens_100 C  hR48 x3 x4 x5 x6 ((r_19 - r_20)) x6 b18 cd dd S_20 h)
    · have h := h.2 c_
      refine cg_iconst C (x := nI 0) rfl dX4_ofTokens_81 ?_
      refine cg_goto C 100 (by decide) dX4_ofTokens_82 ?_
      exact cg_sub [0, 1, 2, 3] rfl (tb_X4_ofTokens_100 C  hR48 x3 x4 x5 x6 ((nI 0)) x6 b18 cd dd S17 h)
set_option maxRecDepth 20000 in
theorem tl_X4_ofTokens_48 {mc ms : Nat} (C : cC p s m args meth c cX4_ofTokens 7 (some (.object "SearchMill$Node")) A D Y tp dp RX4) {post : Nat → cS → Prop}   (x3 : Nat) (x4 : Nat) (x5 : Int32) (x6 : Int32) (cd dd : Nat) (S : cS) (h : k_X4_ofTokens_48L post dp mc ms  x3 x4 x5 x6 cd dd S) : cG p l e (cRm 2 mc ms 55) s m args below meth c A D Y 7 (MQ below (cQr post D Y A) args s mc ms A) cd dd 48 [(3, .ref x3), (4, .ref x4), (5, .int x5), (6, .int x6)] [] S :=
  h (fun y => cG p l e (cRm 2 mc ms 55) s m args below meth c A D Y 7 (MQ below (cQr post D Y A) args s mc ms A) (y.2.2.2.2.1) (y.2.2.2.2.2.1) 48 [(3, .ref (y.1)), (4, .ref (y.2.1)), (5, .int (y.2.2.1)), (6, .int (y.2.2.2.1))] [] (y.2.2.2.2.2.2)) (fun y hy => tb_X4_ofTokens_48 C   (fun b0 b1 b2 b3 b4 b5 S z => z) (y.1) (y.2.1) (y.2.2.1) (y.2.2.2.1) (y.2.2.2.2.1) (y.2.2.2.2.2.1) (y.2.2.2.2.2.2) hy)
end S_X4_ofTokens
set_option maxHeartbeats 1000000 in
set_option maxRecDepth 20000 in
theorem t_X4_ofTokens (l : Launch) (mc ms : Nat) (x0 : Int32) (x1 : Int32) (x2 : Int32) (x3 : Nat) (S : cS) (dp : Nat) {P : Nat → cS → Prop} (h : k_X4_ofTokens P dp mc ms x0 x1 x2 x3 S) : cMet (cQr P) l yX4_ofTokens cX4_ofTokens 7 (some (.object "SearchMill$Node")) 2 mc ms 55 [.int x0, .int x1, .int x2, .ref x3] S dp := by
  intro D Y tp sz
  refine cg_body (by decide +kernel) (Nat.le_of_ble_eq_true rfl) ?_
  intro p e s m args below meth c C
  generalize va_A (cWd Y S) sz = A at C ⊢
  have C : cC p s m args meth c cX4_ofTokens 7 (some (.object "SearchMill$Node")) A D Y tp dp RX4 := C
  refine cg_lv (lv' := [(0, .int x0), (1, .int x1), (2, .int x2), (3, .ref x3)]) rfl ?_
  unfold k_X4_ofTokens at h
  obtain ⟨hc_0, h⟩ := h
  refine cg_new C (k := 4) (N := 11) (fs := [.int 0, .int 0, .int 0, .int 0, .int 0, .int 0, .null, .null, .null, .long 0, .null]) (by decide) rfl cWs_wsX40 tyX4_ok cn_X4_10 ci_X4 ct_X4 (fun j_ hj_ => by rcases (show j_ = 0 ∨ j_ = 1 ∨ j_ = 2 ∨ j_ = 3 ∨ j_ = 4 ∨ j_ = 5 ∨ j_ = 6 ∨ j_ = 7 ∨ j_ = 8 ∨ j_ = 9 ∨ j_ = 10 by omega) with rfl | rfl | rfl | rfl | rfl | rfl | rfl | rfl | rfl | rfl | rfl <;> rfl) rfl hc_0.1 hc_0.2 dX4_ofTokens_0 (fun q1 hf_q1 => ?_)
  have h := h q1 hf_q1
  refine cg_nm (fun S2 e_S2 => ?_)
  have h := h S2 e_S2
  refine cg_dup C rfl dX4_ofTokens_3 ?_
  refine cg_iload_n C (i := 0) rfl 0 rfl dX4_ofTokens_4 ?_
  refine cg_iload_n C (i := 1) rfl 1 rfl dX4_ofTokens_5 ?_
  refine cg_iload_n C (i := 2) rfl 2 rfl dX4_ofTokens_6 ?_
  obtain ⟨mc3, ms4, hm_1, hm_2, h⟩ := h
  refine cg_callI C (t_X4_init l mc3 ms4 q1 x0 x1 x2 S2 dp h) cz_X4_49 rfl ⟨by decide, by decide⟩ ⟨hm_1, hm_2⟩ rfl (Nat.le_of_ble_eq_true rfl) dX4_ofTokens_7 (fun S_5 h => ?_)
  refine cg_astore (lv' := [(4, .ref q1), (0, .int x0), (1, .int x1), (2, .int x2), (3, .ref x3)]) C (Nat.le_of_ble_eq_true rfl) rfl dX4_ofTokens_10 ?_
  refine cg_aload_n C (i := 3) rfl 4 rfl dX4_ofTokens_12 ?_
  obtain ⟨hc_13, h⟩ := h
  refine cg_get C (k := 9) (j := 4) (.int (ci S_5 292 x3)) hc_13.1 hc_13.2 (by decide) rfl (by decide) rfl rfl cWs_wsX90 cl_X4_52 rfl dX4_ofTokens_13 ?_
  refine cg_iconst C (x := nI 0) rfl dX4_ofTokens_16 ?_
  obtain ⟨hc_17, h⟩ := h
  refine cg_mmax C cmmax_X4_57 cmmax_s cmm_i cmmax_c (Nat.le_of_ble_eq_true rfl) (Nat.le_of_ble_eq_true rfl) hc_17.1 hc_17.2 dX4_ofTokens_17 ?_
  refine cg_bipush C (x := nI 6) rfl dX4_ofTokens_20 ?_
  obtain ⟨hc_22, h⟩ := h
  refine cg_mmin C cmmin_X4_63 cmmin_s cmm_i cmmin_c (Nat.le_of_ble_eq_true rfl) (Nat.le_of_ble_eq_true rfl) hc_22.1 hc_22.2 dX4_ofTokens_22 ?_
  refine cg_nmI (fun x5_6 e_x5_6 => ?_)
  have h := h x5_6 e_x5_6
  refine cg_istore C (lv' := [(5, .int x5_6), (4, .ref q1), (0, .int x0), (1, .int x1), (2, .int x2), (3, .ref x3)]) (Nat.le_of_ble_eq_true rfl) rfl dX4_ofTokens_25 ?_
  refine cg_aload C 1 rfl dX4_ofTokens_27 ?_
  refine cg_iload C 0 rfl dX4_ofTokens_29 ?_
  obtain ⟨n7, hn_1, hn_2, hn_3, hn_4, h⟩ := h
  refine cg_cast (.int (nI n7)) (congrArg Value.int hn_1) ?_
  refine cg_newJ C n7 hn_2 ca_long hn_3 hn_4 dX4_ofTokens_31 (fun q8 hf_q8 => ?_)
  have h := h q8 hf_q8
  refine cg_nm (fun S9 e_S9 => ?_)
  have h := h S9 e_S9
  obtain ⟨hc_33, h⟩ := h
  refine cg_putr C (k := 4) (j := 6) (x := (some q8)) (ty := tyX4) (fty := tyX4 6) hc_33.1 hc_33.2 (by decide) rfl (by decide) rfl (by decide) rfl cWs_wsX40 tyX4_ok nmX4 cl_X4_22 rfl rfl rfl rfl rfl dX4_ofTokens_33 ?_
  refine cg_nm (fun S10 e_S10 => ?_)
  have h := h S10 e_S10
  refine cg_aload C 1 rfl dX4_ofTokens_36 ?_
  refine cg_iload C 0 rfl dX4_ofTokens_38 ?_
  obtain ⟨n11, hn_1, hn_2, hn_3, hn_4, h⟩ := h
  refine cg_cast (.int (nI n11)) (congrArg Value.int hn_1) ?_
  refine cg_newI C n11 hn_2 ca_int hn_3 hn_4 dX4_ofTokens_40 (fun q12 hf_q12 => ?_)
  have h := h q12 hf_q12
  refine cg_nm (fun S13 e_S13 => ?_)
  have h := h S13 e_S13
  obtain ⟨hc_42, h⟩ := h
  refine cg_putr C (k := 4) (j := 7) (x := (some q12)) (ty := tyX4) (fty := tyX4 7) hc_42.1 hc_42.2 (by decide) rfl (by decide) rfl (by decide) rfl cWs_wsX40 tyX4_ok nmX4 cl_X4_26 rfl rfl rfl rfl rfl dX4_ofTokens_42 ?_
  refine cg_nm (fun S14 e_S14 => ?_)
  have h := h S14 e_S14
  refine cg_iconst C (x := nI 0) rfl dX4_ofTokens_45 ?_
  refine cg_istore C (lv' := [(6, .int ((nI 0))), (5, .int x5_6), (4, .ref q1), (0, .int x0), (1, .int x1), (2, .int x2), (3, .ref x3)]) (Nat.le_of_ble_eq_true rfl) rfl dX4_ofTokens_46 ?_
  exact cg_sub [6, 2, 1, 0] rfl (tl_X4_ofTokens_48 C   x3 q1 x5_6 (((nI 0))) (0 + 1 + mc3 + 1 + 1) (0 + 11 + ms4 + n7 + n11) S14 h)
def k_X4_ofPrefix_30 (Q : Nat → cS → Prop) (dp : Nat) (mc ms : Nat) (R30 : Int64 → Nat → Int32 → Int32 → Nat → Nat → cS → Prop) (x1 : Int64) (x3 : Nat) (x4 : Int32) (x5 : Int32) (cd dd : Nat) (S : cS) : Prop :=
((x4 ≤ x5 →
  cA S x3 4 ∧ ((∃ b11 : Nat, cr S 136 x3 = some b11 ∧ (cX S b11 14 x4 ∧ (∀ S12 : cS, S12 = cSI S b11 (x4).toNatClampNeg ((nI 38)) → (cd ≤ mc ∧ dd ≤ ms) ∧ (Q x3 S12)))))) ∧
 (¬ x4 ≤ x5 →
  cA S x3 4 ∧ ((∃ b13 : Nat, cr S 136 x3 = some b13 ∧ ((cd ≤ mc ∧ dd ≤ ms) ∧ (k_X9_digitAt (fun r_14 S_14 => 
  cX S_14 b13 14 x5 ∧ (∀ S15 : cS, S15 = cSI S_14 b13 (x5).toNatClampNeg r_14 → ∀ x5_16 : Int32, x5_16 = x5 + nI 1 → R30 x1 x3 x4 x5_16 cd dd S15)) dp x1 x5 S))))))
def k_X4_ofPrefix_30L (Q : Nat → cS → Prop) (dp : Nat) (mc ms : Nat)  (x1 : Int64) (x3 : Nat) (x4 : Int32) (x5 : Int32) (cd dd : Nat) (S : cS) : Prop :=
  lfp (X := Int64 × Nat × Int32 × Int32 × Nat × Nat × cS) (fun P y => k_X4_ofPrefix_30 Q dp mc ms  (fun b0 b1 b2 b3 b4 b5 S => P (b0, b1, b2, b3, b4, b5, S)) y.1 y.2.1 y.2.2.1 y.2.2.2.1 y.2.2.2.2.1 y.2.2.2.2.2.1 y.2.2.2.2.2.2) (x1, x3, x4, x5, cd, dd, S)
def k_X4_ofPrefix (Q : Nat → cS → Prop) (dp : Nat) (mc ms : Nat) (x0 : Int32) (x1 : Int64) (S : cS) : Prop :=
(0 + 1 ≤ mc ∧ 0 + 11 ≤ ms) ∧ (∀ q1 : Nat, q1 ∉ cL S → ∀ S2 : cS, S2 = cNew S q1 4 → (∃ mc3 ms4 : Nat, 0 + 1 + mc3 ≤ mc ∧ 0 + 11 + ms4 ≤ ms ∧ (k_X4_init (fun S_5 => 
(0 + 1 + mc3 ≤ mc ∧ 0 + 11 + ms4 ≤ ms) ∧ (k_X9_lengthOf (fun r_6 S_6 => 
(∃ n7 : Nat, (r_6 + ((nI 1))) = nI n7 ∧ n7 < 2 ^ 20 ∧ 0 + 1 + mc3 + 1 ≤ mc ∧ 0 + 11 + ms4 + n7 ≤ ms ∧ (∀ q8 : Nat, q8 ∉ cL S_6 → ∀ S9 : cS, S9 = cNewA S_6 q8 14 n7 → cA S9 q1 4 ∧ (∀ S10 : cS, S10 = cSr S9 136 q1 ((some q8)) → k_X4_ofPrefix_30L Q dp mc ms  x1 q1 r_6 (((nI 0))) (0 + 1 + mc3 + 1) (0 + 11 + ms4 + n7) S10)))) dp x1 S_5)) dp mc3 ms4 q1 ((nI 2)) x0 ((nI 0)) S2)))
section S_X4_ofPrefix
variable {p : Program} {l : Launch} {e : Env} {s : State} {m : MethodId} {args : Array Value} {below : List Frame} {meth : Method} {c : Code} {A : Nat → Prop} {D : va_G} {Y : cY} {tp dp : Nat}
set_option maxRecDepth 20000 in
theorem tb_X4_ofPrefix_30 {mc ms : Nat} (C : cC p s m args meth c cX4_ofPrefix 6 (some (.object "SearchMill$Node")) A D Y tp dp RX4) {post : Nat → cS → Prop} {R30 : Int64 → Nat → Int32 → Int32 → Nat → Nat → cS → Prop} (hR30 : ∀ (x1 : Int64) (x3 : Nat) (x4 : Int32) (x5 : Int32) (cd dd : Nat) (S : cS), R30 x1 x3 x4 x5 cd dd S → cG p l e (cRm 2 mc ms 55) s m args below meth c A D Y 6 (MQ below (cQr post D Y A) args s mc ms A) cd dd 30 [(1, .long x1), (3, .ref x3), (4, .int x4), (5, .int x5)] [] S) (x1 : Int64) (x3 : Nat) (x4 : Int32) (x5 : Int32) (cd dd : Nat) (S : cS) (h : k_X4_ofPrefix_30 post dp mc ms R30 x1 x3 x4 x5 cd dd S) : cG p l e (cRm 2 mc ms 55) s m args below meth c A D Y 6 (MQ below (cQr post D Y A) args s mc ms A) cd dd 30 [(1, .long x1), (3, .ref x3), (4, .int x4), (5, .int x5)] [] S := by
  unfold k_X4_ofPrefix_30 at h
  refine cg_iload C 3 rfl dX4_ofPrefix_30 ?_
  refine cg_iload C 2 rfl dX4_ofPrefix_32 ?_
  refine cg_icmp_ge C 56 (by decide) dX4_ofPrefix_34 (fun c_ => ?_) (fun c_ => ?_)
  · have h := h.1 c_
    refine cg_aload_n C (i := 3) rfl 1 rfl dX4_ofPrefix_56 ?_
    obtain ⟨hc_57, h⟩ := h
    obtain ⟨b11, hb_b11, h⟩ := h
    refine cg_get C (k := 4) (j := 8) (.ref b11) hc_57.1 hc_57.2 (by decide) rfl (by decide) rfl (show cV _ 4 8 x3 = _ from congrArg va_rf hb_b11) cWs_wsX40 cl_X4_30 rfl dX4_ofPrefix_57 ?_
    refine cg_iload C 2 rfl dX4_ofPrefix_60 ?_
    refine cg_bipush C (x := nI 38) rfl dX4_ofPrefix_62 ?_
    obtain ⟨hc_64, h⟩ := h
    refine cg_iastoreR C hc_64 dX4_ofPrefix_64 ?_
    refine cg_nm (fun S12 e_S12 => ?_)
    have h := h S12 e_S12
    refine cg_aload_n C (i := 3) rfl 1 rfl dX4_ofPrefix_65 ?_
    obtain ⟨hb_66, h⟩ := h
    exact cg_aret C rfl (by first | exact Or.inl ⟨_, rfl⟩ | exact Or.inr ⟨_, rfl⟩) h dX4_ofPrefix_66 hb_66.1 hb_66.2
  · have h := h.2 c_
    refine cg_aload_n C (i := 3) rfl 1 rfl dX4_ofPrefix_37 ?_
    obtain ⟨hc_38, h⟩ := h
    obtain ⟨b13, hb_b13, h⟩ := h
    refine cg_get C (k := 4) (j := 8) (.ref b13) hc_38.1 hc_38.2 (by decide) rfl (by decide) rfl (show cV _ 4 8 x3 = _ from congrArg va_rf hb_b13) cWs_wsX40 cl_X4_30 rfl dX4_ofPrefix_38 ?_
    refine cg_iload C 3 rfl dX4_ofPrefix_41 ?_
    refine cg_lload_n C (i := 1) rfl 0 rfl dX4_ofPrefix_43 ?_
    refine cg_iload C 3 rfl dX4_ofPrefix_44 ?_
    obtain ⟨hb_46, h⟩ := h
    refine cg_callsi C (t_X9_digitAt l x1 x5 S dp h) cc_X4_78 rfl ⟨by decide, by decide⟩ hb_46 rfl (Nat.le_of_ble_eq_true rfl) dX4_ofPrefix_46 (fun r_14 S_14 h => ?_)
    simp only [Nat.add_zero]
    obtain ⟨hc_49, h⟩ := h
    refine cg_iastoreR C hc_49 dX4_ofPrefix_49 ?_
    refine cg_nm (fun S15 e_S15 => ?_)
    have h := h S15 e_S15
    obtain ⟨x5_16, e_x5_16⟩ : ∃ z : Int32, z = x5 + nI 1 := ⟨_, rfl⟩
    have h := h x5_16 e_x5_16
    refine cg_iinc C (lv' := [(5, .int x5_16), (1, .long x1), (3, .ref x3), (4, .int x4)]) 3 rfl (by rw [e_x5_16]; rfl) (Nat.le_of_ble_eq_true rfl) rfl dX4_ofPrefix_50 ?_
    refine cg_goto C 30 (by decide) dX4_ofPrefix_53 ?_
    exact cg_sub [1, 2, 3, 0] rfl (hR30 x1 x3 x4 x5_16 cd dd S15 h)
set_option maxRecDepth 20000 in
theorem tl_X4_ofPrefix_30 {mc ms : Nat} (C : cC p s m args meth c cX4_ofPrefix 6 (some (.object "SearchMill$Node")) A D Y tp dp RX4) {post : Nat → cS → Prop}   (x1 : Int64) (x3 : Nat) (x4 : Int32) (x5 : Int32) (cd dd : Nat) (S : cS) (h : k_X4_ofPrefix_30L post dp mc ms  x1 x3 x4 x5 cd dd S) : cG p l e (cRm 2 mc ms 55) s m args below meth c A D Y 6 (MQ below (cQr post D Y A) args s mc ms A) cd dd 30 [(1, .long x1), (3, .ref x3), (4, .int x4), (5, .int x5)] [] S :=
  h (fun y => cG p l e (cRm 2 mc ms 55) s m args below meth c A D Y 6 (MQ below (cQr post D Y A) args s mc ms A) (y.2.2.2.2.1) (y.2.2.2.2.2.1) 30 [(1, .long (y.1)), (3, .ref (y.2.1)), (4, .int (y.2.2.1)), (5, .int (y.2.2.2.1))] [] (y.2.2.2.2.2.2)) (fun y hy => tb_X4_ofPrefix_30 C   (fun b0 b1 b2 b3 b4 b5 S z => z) (y.1) (y.2.1) (y.2.2.1) (y.2.2.2.1) (y.2.2.2.2.1) (y.2.2.2.2.2.1) (y.2.2.2.2.2.2) hy)
end S_X4_ofPrefix
set_option maxHeartbeats 1000000 in
set_option maxRecDepth 20000 in
theorem t_X4_ofPrefix (l : Launch) (mc ms : Nat) (x0 : Int32) (x1 : Int64) (S : cS) (dp : Nat) {P : Nat → cS → Prop} (h : k_X4_ofPrefix P dp mc ms x0 x1 S) : cMet (cQr P) l yX4_ofPrefix cX4_ofPrefix 6 (some (.object "SearchMill$Node")) 2 mc ms 55 [.int x0, .long x1] S dp := by
  intro D Y tp sz
  refine cg_body (by decide +kernel) (Nat.le_of_ble_eq_true rfl) ?_
  intro p e s m args below meth c C
  generalize va_A (cWd Y S) sz = A at C ⊢
  have C : cC p s m args meth c cX4_ofPrefix 6 (some (.object "SearchMill$Node")) A D Y tp dp RX4 := C
  refine cg_lv (lv' := [(0, .int x0), (1, .long x1)]) rfl ?_
  unfold k_X4_ofPrefix at h
  obtain ⟨hc_0, h⟩ := h
  refine cg_new C (k := 4) (N := 11) (fs := [.int 0, .int 0, .int 0, .int 0, .int 0, .int 0, .null, .null, .null, .long 0, .null]) (by decide) rfl cWs_wsX40 tyX4_ok cn_X4_10 ci_X4 ct_X4 (fun j_ hj_ => by rcases (show j_ = 0 ∨ j_ = 1 ∨ j_ = 2 ∨ j_ = 3 ∨ j_ = 4 ∨ j_ = 5 ∨ j_ = 6 ∨ j_ = 7 ∨ j_ = 8 ∨ j_ = 9 ∨ j_ = 10 by omega) with rfl | rfl | rfl | rfl | rfl | rfl | rfl | rfl | rfl | rfl | rfl <;> rfl) rfl hc_0.1 hc_0.2 dX4_ofPrefix_0 (fun q1 hf_q1 => ?_)
  have h := h q1 hf_q1
  refine cg_nm (fun S2 e_S2 => ?_)
  have h := h S2 e_S2
  refine cg_dup C rfl dX4_ofPrefix_3 ?_
  refine cg_iconst C (x := nI 2) rfl dX4_ofPrefix_4 ?_
  refine cg_iload_n C (i := 0) rfl 0 rfl dX4_ofPrefix_5 ?_
  refine cg_iconst C (x := nI 0) rfl dX4_ofPrefix_6 ?_
  obtain ⟨mc3, ms4, hm_1, hm_2, h⟩ := h
  refine cg_callI C (t_X4_init l mc3 ms4 q1 ((nI 2)) x0 ((nI 0)) S2 dp h) cz_X4_49 rfl ⟨by decide, by decide⟩ ⟨hm_1, hm_2⟩ rfl (Nat.le_of_ble_eq_true rfl) dX4_ofPrefix_7 (fun S_5 h => ?_)
  refine cg_astore_n (lv' := [(3, .ref q1), (0, .int x0), (1, .long x1)]) C (i := 3) rfl (Nat.le_of_ble_eq_true rfl) rfl dX4_ofPrefix_10 ?_
  refine cg_lload_n C (i := 1) rfl 2 rfl dX4_ofPrefix_11 ?_
  obtain ⟨hb_12, h⟩ := h
  refine cg_callsi C (t_X9_lengthOf l x1 S_5 dp h) cc_X4_74 rfl ⟨by decide, by decide⟩ hb_12 rfl (Nat.le_of_ble_eq_true rfl) dX4_ofPrefix_12 (fun r_6 S_6 h => ?_)
  simp only [Nat.add_zero]
  refine cg_istore C (lv' := [(4, .int r_6), (3, .ref q1), (0, .int x0), (1, .long x1)]) (Nat.le_of_ble_eq_true rfl) rfl dX4_ofPrefix_15 ?_
  refine cg_aload_n C (i := 3) rfl 1 rfl dX4_ofPrefix_17 ?_
  refine cg_iload C 0 rfl dX4_ofPrefix_18 ?_
  refine cg_iconst C (x := nI 1) rfl dX4_ofPrefix_20 ?_
  refine cg_iadd C dX4_ofPrefix_21 ?_
  obtain ⟨n7, hn_1, hn_2, hn_3, hn_4, h⟩ := h
  refine cg_cast (.int (nI n7)) (congrArg Value.int hn_1) ?_
  refine cg_newI C n7 hn_2 ca_int hn_3 hn_4 dX4_ofPrefix_22 (fun q8 hf_q8 => ?_)
  have h := h q8 hf_q8
  refine cg_nm (fun S9 e_S9 => ?_)
  have h := h S9 e_S9
  obtain ⟨hc_24, h⟩ := h
  refine cg_putr C (k := 4) (j := 8) (x := (some q8)) (ty := tyX4) (fty := tyX4 8) hc_24.1 hc_24.2 (by decide) rfl (by decide) rfl (by decide) rfl cWs_wsX40 tyX4_ok nmX4 cl_X4_30 rfl rfl rfl rfl rfl dX4_ofPrefix_24 ?_
  refine cg_nm (fun S10 e_S10 => ?_)
  have h := h S10 e_S10
  refine cg_iconst C (x := nI 0) rfl dX4_ofPrefix_27 ?_
  refine cg_istore C (lv' := [(5, .int ((nI 0))), (4, .int r_6), (3, .ref q1), (0, .int x0), (1, .long x1)]) (Nat.le_of_ble_eq_true rfl) rfl dX4_ofPrefix_28 ?_
  exact cg_sub [4, 2, 1, 0] rfl (tl_X4_ofPrefix_30 C   x1 q1 r_6 (((nI 0))) (0 + 1 + mc3 + 1) (0 + 11 + ms4 + n7) S10 h)
def k_X4_patternOf (Q : Int32 → cS → Prop) (dp : Nat) (x0 : Int32) (S : cS) : Prop :=
((¬ x0 = ((nI 63)) →
  ((¬ x0 = ((nI 42)) →
    k_X9_digitOf (fun r_1 S_1 => 
    Q r_1 S_1) dp x0 S) ∧
   (x0 = ((nI 42)) →
    Q ((nI 38)) S))) ∧
 (x0 = ((nI 63)) →
  Q ((nI 37)) S))
set_option maxHeartbeats 1000000 in
set_option maxRecDepth 20000 in
theorem t_X4_patternOf (l : Launch) (x0 : Int32) (S : cS) (dp : Nat) {P : Int32 → cS → Prop} (h : k_X4_patternOf P dp x0 S) : cMet (cQi P) l yX4_patternOf cX4_patternOf 1 (some .int) 1 0 0 20 [.int x0] S dp := by
  intro D Y tp sz
  refine cg_body (by decide +kernel) (Nat.le_of_ble_eq_true rfl) ?_
  intro p e s m args below meth c C
  generalize va_A (cWd Y S) sz = A at C ⊢
  have C : cC p s m args meth c cX4_patternOf 1 (some .int) A D Y tp dp RX4 := C
  refine cg_lv (lv' := [(0, .int x0)]) rfl ?_
  unfold k_X4_patternOf at h
  refine cg_iload_n C (i := 0) rfl 0 rfl dX4_patternOf_0 ?_
  refine cg_bipush C (x := nI 63) rfl dX4_patternOf_1 ?_
  refine cg_icmp_ne C 9 (by decide) dX4_patternOf_3 (fun c_ => ?_) (fun c_ => ?_)
  · have h := h.1 c_
    refine cg_iload_n C (i := 0) rfl 0 rfl dX4_patternOf_9 ?_
    refine cg_bipush C (x := nI 42) rfl dX4_patternOf_10 ?_
    refine cg_icmp_ne C 20 (by decide) dX4_patternOf_12 (fun c_ => ?_) (fun c_ => ?_)
    · have h := h.1 c_
      refine cg_iload_n C (i := 0) rfl 0 rfl dX4_patternOf_20 ?_
      refine cg_callsi C (t_X9_digitOf l x0 S dp h) cc_X4_91 rfl ⟨by decide, by decide⟩ ⟨by decide, by decide⟩ rfl (Nat.le_of_ble_eq_true rfl) dX4_patternOf_21 (fun r_1 S_1 h => ?_)
      exact cg_iret C h dX4_patternOf_24 (by decide) (by decide)
    · have h := h.2 c_
      refine cg_bipush C (x := nI 38) rfl dX4_patternOf_15 ?_
      refine cg_goto C 24 (by decide) dX4_patternOf_17 ?_
      exact cg_iret C h dX4_patternOf_24 (by decide) (by decide)
  · have h := h.2 c_
    refine cg_bipush C (x := nI 37) rfl dX4_patternOf_6 ?_
    exact cg_iret C h dX4_patternOf_8 (by decide) (by decide)
def k_X4_ofPattern_35 (Q : Nat → cS → Prop) (dp : Nat) (mc ms : Nat) (R35 : Nat → Nat → Int32 → Int32 → Nat → Nat → cS → Prop) (x1 : Nat) (x2 : Nat) (x3 : Int32) (x4 : Int32) (cd dd : Nat) (S : cS) : Prop :=
((x3 ≤ x4 →
  (cd ≤ mc ∧ dd ≤ ms) ∧ (Q x2 S)) ∧
 (¬ x3 ≤ x4 →
  cA S x2 4 ∧ ((∃ b11 : Nat, cr S 136 x2 = some b11 ∧ (cA S x1 9 ∧ ((cd ≤ mc ∧ dd ≤ ms) ∧ (k_X9_signOf (fun r_12 S_12 => 
  (cd ≤ mc ∧ dd ≤ ms) ∧ (k_X4_patternOf (fun r_13 S_13 => 
  cX S_13 b11 14 x4 ∧ (∀ S14 : cS, S14 = cSI S_13 b11 (x4).toNatClampNeg r_13 → ∀ x4_15 : Int32, x4_15 = x4 + nI 1 → R35 x1 x2 x3 x4_15 cd dd S14)) dp r_12 S_12)) dp x1 x4 S)))))))
def k_X4_ofPattern_35L (Q : Nat → cS → Prop) (dp : Nat) (mc ms : Nat)  (x1 : Nat) (x2 : Nat) (x3 : Int32) (x4 : Int32) (cd dd : Nat) (S : cS) : Prop :=
  lfp (X := Nat × Nat × Int32 × Int32 × Nat × Nat × cS) (fun P y => k_X4_ofPattern_35 Q dp mc ms  (fun b0 b1 b2 b3 b4 b5 S => P (b0, b1, b2, b3, b4, b5, S)) y.1 y.2.1 y.2.2.1 y.2.2.2.1 y.2.2.2.2.1 y.2.2.2.2.2.1 y.2.2.2.2.2.2) (x1, x2, x3, x4, cd, dd, S)
def k_X4_ofPattern (Q : Nat → cS → Prop) (dp : Nat) (mc ms : Nat) (x0 : Int32) (x1 : Nat) (S : cS) : Prop :=
(0 + 1 ≤ mc ∧ 0 + 11 ≤ ms) ∧ (∀ q1 : Nat, q1 ∉ cL S → ∀ S2 : cS, S2 = cNew S q1 4 → (∃ mc3 ms4 : Nat, 0 + 1 + mc3 ≤ mc ∧ 0 + 11 + ms4 ≤ ms ∧ (k_X4_init (fun S_5 => 
cA S_5 x1 9 ∧ ((0 + 1 + mc3 ≤ mc ∧ 0 + 11 + ms4 ≤ ms) ∧ ((0 + 1 + mc3 ≤ mc ∧ 0 + 11 + ms4 ≤ ms) ∧ (∀ x3_6 : Int32, x3_6 = (if ((nI 12)) < ((if ((ci S_5 289 x1)) < ((nI 0)) then ((nI 0)) else ((ci S_5 289 x1)))) then ((nI 12)) else ((if ((ci S_5 289 x1)) < ((nI 0)) then ((nI 0)) else ((ci S_5 289 x1))))) → (∃ n7 : Nat, x3_6 = nI n7 ∧ n7 < 2 ^ 20 ∧ 0 + 1 + mc3 + 1 ≤ mc ∧ 0 + 11 + ms4 + n7 ≤ ms ∧ (∀ q8 : Nat, q8 ∉ cL S_5 → ∀ S9 : cS, S9 = cNewA S_5 q8 14 n7 → cA S9 q1 4 ∧ (∀ S10 : cS, S10 = cSr S9 136 q1 ((some q8)) → k_X4_ofPattern_35L Q dp mc ms  x1 q1 x3_6 (((nI 0))) (0 + 1 + mc3 + 1) (0 + 11 + ms4 + n7) S10))))))) dp mc3 ms4 q1 ((nI 2)) x0 ((nI 0)) S2)))
section S_X4_ofPattern
variable {p : Program} {l : Launch} {e : Env} {s : State} {m : MethodId} {args : Array Value} {below : List Frame} {meth : Method} {c : Code} {A : Nat → Prop} {D : va_G} {Y : cY} {tp dp : Nat}
set_option maxRecDepth 20000 in
theorem tb_X4_ofPattern_35 {mc ms : Nat} (C : cC p s m args meth c cX4_ofPattern 5 (some (.object "SearchMill$Node")) A D Y tp dp RX4) {post : Nat → cS → Prop} {R35 : Nat → Nat → Int32 → Int32 → Nat → Nat → cS → Prop} (hR35 : ∀ (x1 : Nat) (x2 : Nat) (x3 : Int32) (x4 : Int32) (cd dd : Nat) (S : cS), R35 x1 x2 x3 x4 cd dd S → cG p l e (cRm 2 mc ms 55) s m args below meth c A D Y 5 (MQ below (cQr post D Y A) args s mc ms A) cd dd 35 [(1, .ref x1), (2, .ref x2), (3, .int x3), (4, .int x4)] [] S) (x1 : Nat) (x2 : Nat) (x3 : Int32) (x4 : Int32) (cd dd : Nat) (S : cS) (h : k_X4_ofPattern_35 post dp mc ms R35 x1 x2 x3 x4 cd dd S) : cG p l e (cRm 2 mc ms 55) s m args below meth c A D Y 5 (MQ below (cQr post D Y A) args s mc ms A) cd dd 35 [(1, .ref x1), (2, .ref x2), (3, .int x3), (4, .int x4)] [] S := by
  unfold k_X4_ofPattern_35 at h
  refine cg_iload C 3 rfl dX4_ofPattern_35 ?_
  refine cg_iload_n C (i := 3) rfl 2 rfl dX4_ofPattern_37 ?_
  refine cg_icmp_ge C 63 (by decide) dX4_ofPattern_38 (fun c_ => ?_) (fun c_ => ?_)
  · have h := h.1 c_
    refine cg_aload_n C (i := 2) rfl 1 rfl dX4_ofPattern_63 ?_
    obtain ⟨hb_64, h⟩ := h
    exact cg_aret C rfl (by first | exact Or.inl ⟨_, rfl⟩ | exact Or.inr ⟨_, rfl⟩) h dX4_ofPattern_64 hb_64.1 hb_64.2
  · have h := h.2 c_
    refine cg_aload_n C (i := 2) rfl 1 rfl dX4_ofPattern_41 ?_
    obtain ⟨hc_42, h⟩ := h
    obtain ⟨b11, hb_b11, h⟩ := h
    refine cg_get C (k := 4) (j := 8) (.ref b11) hc_42.1 hc_42.2 (by decide) rfl (by decide) rfl (show cV _ 4 8 x2 = _ from congrArg va_rf hb_b11) cWs_wsX40 cl_X4_30 rfl dX4_ofPattern_42 ?_
    refine cg_iload C 3 rfl dX4_ofPattern_45 ?_
    refine cg_aload_n C (i := 1) rfl 0 rfl dX4_ofPattern_47 ?_
    refine cg_iload C 3 rfl dX4_ofPattern_48 ?_
    obtain ⟨hc_50, h⟩ := h
    obtain ⟨hb_50, h⟩ := h
    refine cg_calli C (t_X9_signOf l x1 x4 S dp h) cc_X4_85 hc_50.1 hc_50.2 (by decide) rfl rfl ⟨by decide, by decide⟩ hb_50 rfl (Nat.le_of_ble_eq_true rfl) dX4_ofPattern_50 (fun r_12 S_12 h => ?_)
    simp only [Nat.add_zero]
    obtain ⟨hb_53, h⟩ := h
    refine cg_callsi C (t_X4_patternOf l r_12 S_12 dp h) cc_X4_88 rfl ⟨by decide, by decide⟩ hb_53 rfl (Nat.le_of_ble_eq_true rfl) dX4_ofPattern_53 (fun r_13 S_13 h => ?_)
    simp only [Nat.add_zero]
    obtain ⟨hc_56, h⟩ := h
    refine cg_iastoreR C hc_56 dX4_ofPattern_56 ?_
    refine cg_nm (fun S14 e_S14 => ?_)
    have h := h S14 e_S14
    obtain ⟨x4_15, e_x4_15⟩ : ∃ z : Int32, z = x4 + nI 1 := ⟨_, rfl⟩
    have h := h x4_15 e_x4_15
    refine cg_iinc C (lv' := [(4, .int x4_15), (1, .ref x1), (2, .ref x2), (3, .int x3)]) 3 rfl (by rw [e_x4_15]; rfl) (Nat.le_of_ble_eq_true rfl) rfl dX4_ofPattern_57 ?_
    refine cg_goto C 35 (by decide) dX4_ofPattern_60 ?_
    exact cg_sub [1, 2, 3, 0] rfl (hR35 x1 x2 x3 x4_15 cd dd S14 h)
set_option maxRecDepth 20000 in
theorem tl_X4_ofPattern_35 {mc ms : Nat} (C : cC p s m args meth c cX4_ofPattern 5 (some (.object "SearchMill$Node")) A D Y tp dp RX4) {post : Nat → cS → Prop}   (x1 : Nat) (x2 : Nat) (x3 : Int32) (x4 : Int32) (cd dd : Nat) (S : cS) (h : k_X4_ofPattern_35L post dp mc ms  x1 x2 x3 x4 cd dd S) : cG p l e (cRm 2 mc ms 55) s m args below meth c A D Y 5 (MQ below (cQr post D Y A) args s mc ms A) cd dd 35 [(1, .ref x1), (2, .ref x2), (3, .int x3), (4, .int x4)] [] S :=
  h (fun y => cG p l e (cRm 2 mc ms 55) s m args below meth c A D Y 5 (MQ below (cQr post D Y A) args s mc ms A) (y.2.2.2.2.1) (y.2.2.2.2.2.1) 35 [(1, .ref (y.1)), (2, .ref (y.2.1)), (3, .int (y.2.2.1)), (4, .int (y.2.2.2.1))] [] (y.2.2.2.2.2.2)) (fun y hy => tb_X4_ofPattern_35 C   (fun b0 b1 b2 b3 b4 b5 S z => z) (y.1) (y.2.1) (y.2.2.1) (y.2.2.2.1) (y.2.2.2.2.1) (y.2.2.2.2.2.1) (y.2.2.2.2.2.2) hy)
end S_X4_ofPattern
set_option maxHeartbeats 1000000 in
set_option maxRecDepth 20000 in
theorem t_X4_ofPattern (l : Launch) (mc ms : Nat) (x0 : Int32) (x1 : Nat) (S : cS) (dp : Nat) {P : Nat → cS → Prop} (h : k_X4_ofPattern P dp mc ms x0 x1 S) : cMet (cQr P) l yX4_ofPattern cX4_ofPattern 5 (some (.object "SearchMill$Node")) 2 mc ms 55 [.int x0, .ref x1] S dp := by
  intro D Y tp sz
  refine cg_body (by decide +kernel) (Nat.le_of_ble_eq_true rfl) ?_
  intro p e s m args below meth c C
  generalize va_A (cWd Y S) sz = A at C ⊢
  have C : cC p s m args meth c cX4_ofPattern 5 (some (.object "SearchMill$Node")) A D Y tp dp RX4 := C
  refine cg_lv (lv' := [(0, .int x0), (1, .ref x1)]) rfl ?_
  unfold k_X4_ofPattern at h
  obtain ⟨hc_0, h⟩ := h
  refine cg_new C (k := 4) (N := 11) (fs := [.int 0, .int 0, .int 0, .int 0, .int 0, .int 0, .null, .null, .null, .long 0, .null]) (by decide) rfl cWs_wsX40 tyX4_ok cn_X4_10 ci_X4 ct_X4 (fun j_ hj_ => by rcases (show j_ = 0 ∨ j_ = 1 ∨ j_ = 2 ∨ j_ = 3 ∨ j_ = 4 ∨ j_ = 5 ∨ j_ = 6 ∨ j_ = 7 ∨ j_ = 8 ∨ j_ = 9 ∨ j_ = 10 by omega) with rfl | rfl | rfl | rfl | rfl | rfl | rfl | rfl | rfl | rfl | rfl <;> rfl) rfl hc_0.1 hc_0.2 dX4_ofPattern_0 (fun q1 hf_q1 => ?_)
  have h := h q1 hf_q1
  refine cg_nm (fun S2 e_S2 => ?_)
  have h := h S2 e_S2
  refine cg_dup C rfl dX4_ofPattern_3 ?_
  refine cg_iconst C (x := nI 2) rfl dX4_ofPattern_4 ?_
  refine cg_iload_n C (i := 0) rfl 0 rfl dX4_ofPattern_5 ?_
  refine cg_iconst C (x := nI 0) rfl dX4_ofPattern_6 ?_
  obtain ⟨mc3, ms4, hm_1, hm_2, h⟩ := h
  refine cg_callI C (t_X4_init l mc3 ms4 q1 ((nI 2)) x0 ((nI 0)) S2 dp h) cz_X4_49 rfl ⟨by decide, by decide⟩ ⟨hm_1, hm_2⟩ rfl (Nat.le_of_ble_eq_true rfl) dX4_ofPattern_7 (fun S_5 h => ?_)
  refine cg_astore_n (lv' := [(2, .ref q1), (0, .int x0), (1, .ref x1)]) C (i := 2) rfl (Nat.le_of_ble_eq_true rfl) rfl dX4_ofPattern_10 ?_
  refine cg_aload_n C (i := 1) rfl 2 rfl dX4_ofPattern_11 ?_
  obtain ⟨hc_12, h⟩ := h
  refine cg_get C (k := 9) (j := 1) (.int (ci S_5 289 x1)) hc_12.1 hc_12.2 (by decide) rfl (by decide) rfl rfl cWs_wsX90 cl_X4_82 rfl dX4_ofPattern_12 ?_
  refine cg_iconst C (x := nI 0) rfl dX4_ofPattern_15 ?_
  obtain ⟨hc_16, h⟩ := h
  refine cg_mmax C cmmax_X4_57 cmmax_s cmm_i cmmax_c (Nat.le_of_ble_eq_true rfl) (Nat.le_of_ble_eq_true rfl) hc_16.1 hc_16.2 dX4_ofPattern_16 ?_
  refine cg_bipush C (x := nI 12) rfl dX4_ofPattern_19 ?_
  obtain ⟨hc_21, h⟩ := h
  refine cg_mmin C cmmin_X4_63 cmmin_s cmm_i cmmin_c (Nat.le_of_ble_eq_true rfl) (Nat.le_of_ble_eq_true rfl) hc_21.1 hc_21.2 dX4_ofPattern_21 ?_
  refine cg_nmI (fun x3_6 e_x3_6 => ?_)
  have h := h x3_6 e_x3_6
  refine cg_istore_n C (i := 3) (lv' := [(3, .int x3_6), (2, .ref q1), (0, .int x0), (1, .ref x1)]) rfl (Nat.le_of_ble_eq_true rfl) rfl dX4_ofPattern_24 ?_
  refine cg_aload_n C (i := 2) rfl 1 rfl dX4_ofPattern_25 ?_
  refine cg_iload_n C (i := 3) rfl 0 rfl dX4_ofPattern_26 ?_
  obtain ⟨n7, hn_1, hn_2, hn_3, hn_4, h⟩ := h
  refine cg_cast (.int (nI n7)) (congrArg Value.int hn_1) ?_
  refine cg_newI C n7 hn_2 ca_int hn_3 hn_4 dX4_ofPattern_27 (fun q8 hf_q8 => ?_)
  have h := h q8 hf_q8
  refine cg_nm (fun S9 e_S9 => ?_)
  have h := h S9 e_S9
  obtain ⟨hc_29, h⟩ := h
  refine cg_putr C (k := 4) (j := 8) (x := (some q8)) (ty := tyX4) (fty := tyX4 8) hc_29.1 hc_29.2 (by decide) rfl (by decide) rfl (by decide) rfl cWs_wsX40 tyX4_ok nmX4 cl_X4_30 rfl rfl rfl rfl rfl dX4_ofPattern_29 ?_
  refine cg_nm (fun S10 e_S10 => ?_)
  have h := h S10 e_S10
  refine cg_iconst C (x := nI 0) rfl dX4_ofPattern_32 ?_
  refine cg_istore C (lv' := [(4, .int ((nI 0))), (3, .int x3_6), (2, .ref q1), (0, .int x0), (1, .ref x1)]) (Nat.le_of_ble_eq_true rfl) rfl dX4_ofPattern_33 ?_
  exact cg_sub [4, 2, 1, 0] rfl (tl_X4_ofPattern_35 C   x1 q1 x3_6 (((nI 0))) (0 + 1 + mc3 + 1) (0 + 11 + ms4 + n7) S10 h)
def k_X4_ofEdits (Q : Nat → cS → Prop) (dp : Nat) (mc ms : Nat) (x0 : Int32) (x1 : Int32) (x2 : Int64) (S : cS) : Prop :=
(0 + 1 ≤ mc ∧ 0 + 11 ≤ ms) ∧ (∀ q1 : Nat, q1 ∉ cL S → ∀ S2 : cS, S2 = cNew S q1 4 → (∃ mc3 ms4 : Nat, 0 + 1 + mc3 ≤ mc ∧ 0 + 11 + ms4 ≤ ms ∧ (k_X4_init (fun S_5 => 
cA S_5 q1 4 ∧ (∀ S6 : cS, S6 = cSw S_5 137 q1 x2 → (0 + 1 + mc3 ≤ mc ∧ 0 + 11 + ms4 ≤ ms) ∧ (k_X9_lengthOf (fun r_7 S_7 => 
(∃ n8 : Nat, (r_7 + ((nI 1))) = nI n8 ∧ n8 < 2 ^ 20 ∧ 0 + 1 + mc3 + 1 ≤ mc ∧ 0 + 11 + ms4 + n8 ≤ ms ∧ (∀ q9 : Nat, q9 ∉ cL S_7 → ∀ S10 : cS, S10 = cNewA S_7 q9 14 n8 → cA S10 q1 4 ∧ (∀ S11 : cS, S11 = cSr S10 138 q1 ((some q9)) → (0 + 1 + mc3 + 1 ≤ mc ∧ 0 + 11 + ms4 + n8 ≤ ms) ∧ (Q q1 S11))))) dp x2 S6))) dp mc3 ms4 q1 ((nI 3)) x0 x1 S2)))
set_option maxHeartbeats 1000000 in
set_option maxRecDepth 20000 in
theorem t_X4_ofEdits (l : Launch) (mc ms : Nat) (x0 : Int32) (x1 : Int32) (x2 : Int64) (S : cS) (dp : Nat) {P : Nat → cS → Prop} (h : k_X4_ofEdits P dp mc ms x0 x1 x2 S) : cMet (cQr P) l yX4_ofEdits cX4_ofEdits 5 (some (.object "SearchMill$Node")) 2 mc ms 55 [.int x0, .int x1, .long x2] S dp := by
  intro D Y tp sz
  refine cg_body (by decide +kernel) (Nat.le_of_ble_eq_true rfl) ?_
  intro p e s m args below meth c C
  generalize va_A (cWd Y S) sz = A at C ⊢
  have C : cC p s m args meth c cX4_ofEdits 5 (some (.object "SearchMill$Node")) A D Y tp dp RX4 := C
  refine cg_lv (lv' := [(0, .int x0), (1, .int x1), (2, .long x2)]) rfl ?_
  unfold k_X4_ofEdits at h
  obtain ⟨hc_0, h⟩ := h
  refine cg_new C (k := 4) (N := 11) (fs := [.int 0, .int 0, .int 0, .int 0, .int 0, .int 0, .null, .null, .null, .long 0, .null]) (by decide) rfl cWs_wsX40 tyX4_ok cn_X4_10 ci_X4 ct_X4 (fun j_ hj_ => by rcases (show j_ = 0 ∨ j_ = 1 ∨ j_ = 2 ∨ j_ = 3 ∨ j_ = 4 ∨ j_ = 5 ∨ j_ = 6 ∨ j_ = 7 ∨ j_ = 8 ∨ j_ = 9 ∨ j_ = 10 by omega) with rfl | rfl | rfl | rfl | rfl | rfl | rfl | rfl | rfl | rfl | rfl <;> rfl) rfl hc_0.1 hc_0.2 dX4_ofEdits_0 (fun q1 hf_q1 => ?_)
  have h := h q1 hf_q1
  refine cg_nm (fun S2 e_S2 => ?_)
  have h := h S2 e_S2
  refine cg_dup C rfl dX4_ofEdits_3 ?_
  refine cg_iconst C (x := nI 3) rfl dX4_ofEdits_4 ?_
  refine cg_iload_n C (i := 0) rfl 0 rfl dX4_ofEdits_5 ?_
  refine cg_iload_n C (i := 1) rfl 1 rfl dX4_ofEdits_6 ?_
  obtain ⟨mc3, ms4, hm_1, hm_2, h⟩ := h
  refine cg_callI C (t_X4_init l mc3 ms4 q1 ((nI 3)) x0 x1 S2 dp h) cz_X4_49 rfl ⟨by decide, by decide⟩ ⟨hm_1, hm_2⟩ rfl (Nat.le_of_ble_eq_true rfl) dX4_ofEdits_7 (fun S_5 h => ?_)
  refine cg_astore (lv' := [(4, .ref q1), (0, .int x0), (1, .int x1), (2, .long x2)]) C (Nat.le_of_ble_eq_true rfl) rfl dX4_ofEdits_10 ?_
  refine cg_aload C 0 rfl dX4_ofEdits_12 ?_
  refine cg_lload_n C (i := 2) rfl 3 rfl dX4_ofEdits_14 ?_
  obtain ⟨hc_15, h⟩ := h
  refine cg_putw C (k := 4) (j := 9) (ty := tyX4) (fty := .long) hc_15.1 hc_15.2 (by decide) rfl (by decide) rfl (by decide) rfl cWs_wsX40 tyX4_ok nmX4 cl_X4_33 rfl rfl rfl rfl rfl dX4_ofEdits_15 ?_
  refine cg_nm (fun S6 e_S6 => ?_)
  have h := h S6 e_S6
  refine cg_aload C 0 rfl dX4_ofEdits_18 ?_
  refine cg_lload_n C (i := 2) rfl 3 rfl dX4_ofEdits_20 ?_
  obtain ⟨hb_21, h⟩ := h
  refine cg_callsi C (t_X9_lengthOf l x2 S6 dp h) cc_X4_74 rfl ⟨by decide, by decide⟩ hb_21 rfl (Nat.le_of_ble_eq_true rfl) dX4_ofEdits_21 (fun r_7 S_7 h => ?_)
  simp only [Nat.add_zero]
  refine cg_iconst C (x := nI 1) rfl dX4_ofEdits_24 ?_
  refine cg_iadd C dX4_ofEdits_25 ?_
  obtain ⟨n8, hn_1, hn_2, hn_3, hn_4, h⟩ := h
  refine cg_cast (.int (nI n8)) (congrArg Value.int hn_1) ?_
  refine cg_newI C n8 hn_2 ca_int hn_3 hn_4 dX4_ofEdits_26 (fun q9 hf_q9 => ?_)
  have h := h q9 hf_q9
  refine cg_nm (fun S10 e_S10 => ?_)
  have h := h S10 e_S10
  obtain ⟨hc_28, h⟩ := h
  refine cg_putr C (k := 4) (j := 10) (x := (some q9)) (ty := tyX4) (fty := tyX4 10) hc_28.1 hc_28.2 (by decide) rfl (by decide) rfl (by decide) rfl cWs_wsX40 tyX4_ok nmX4 cl_X4_37 rfl rfl rfl rfl rfl dX4_ofEdits_28 ?_
  refine cg_nm (fun S11 e_S11 => ?_)
  have h := h S11 e_S11
  refine cg_aload C 0 rfl dX4_ofEdits_31 ?_
  obtain ⟨hb_33, h⟩ := h
  exact cg_aret C rfl (by first | exact Or.inl ⟨_, rfl⟩ | exact Or.inr ⟨_, rfl⟩) h dX4_ofEdits_33 hb_33.1 hb_33.2
def k_X4_ofParts (Q : Nat → cS → Prop) (dp : Nat) (mc ms : Nat) (x0 : Int32) (x1 : Int32) (x2 : Int32) (S : cS) : Prop :=
(0 + 1 ≤ mc ∧ 0 + 11 ≤ ms) ∧ (∀ q1 : Nat, q1 ∉ cL S → ∀ S2 : cS, S2 = cNew S q1 4 → (∃ mc3 ms4 : Nat, 0 + 1 + mc3 ≤ mc ∧ 0 + 11 + ms4 ≤ ms ∧ (k_X4_init (fun S_5 => 
cA S_5 q1 4 ∧ (∀ S6 : cS, S6 = cSi S_5 132 q1 x1 → (0 + 1 + mc3 ≤ mc ∧ 0 + 11 + ms4 ≤ ms) ∧ (Q q1 S6))) dp mc3 ms4 q1 x0 ((nI 0)) x2 S2)))
set_option maxHeartbeats 1000000 in
set_option maxRecDepth 20000 in
theorem t_X4_ofParts (l : Launch) (mc ms : Nat) (x0 : Int32) (x1 : Int32) (x2 : Int32) (S : cS) (dp : Nat) {P : Nat → cS → Prop} (h : k_X4_ofParts P dp mc ms x0 x1 x2 S) : cMet (cQr P) l yX4_ofParts cX4_ofParts 4 (some (.object "SearchMill$Node")) 2 mc ms 55 [.int x0, .int x1, .int x2] S dp := by
  intro D Y tp sz
  refine cg_body (by decide +kernel) (Nat.le_of_ble_eq_true rfl) ?_
  intro p e s m args below meth c C
  generalize va_A (cWd Y S) sz = A at C ⊢
  have C : cC p s m args meth c cX4_ofParts 4 (some (.object "SearchMill$Node")) A D Y tp dp RX4 := C
  refine cg_lv (lv' := [(0, .int x0), (1, .int x1), (2, .int x2)]) rfl ?_
  unfold k_X4_ofParts at h
  obtain ⟨hc_0, h⟩ := h
  refine cg_new C (k := 4) (N := 11) (fs := [.int 0, .int 0, .int 0, .int 0, .int 0, .int 0, .null, .null, .null, .long 0, .null]) (by decide) rfl cWs_wsX40 tyX4_ok cn_X4_10 ci_X4 ct_X4 (fun j_ hj_ => by rcases (show j_ = 0 ∨ j_ = 1 ∨ j_ = 2 ∨ j_ = 3 ∨ j_ = 4 ∨ j_ = 5 ∨ j_ = 6 ∨ j_ = 7 ∨ j_ = 8 ∨ j_ = 9 ∨ j_ = 10 by omega) with rfl | rfl | rfl | rfl | rfl | rfl | rfl | rfl | rfl | rfl | rfl <;> rfl) rfl hc_0.1 hc_0.2 dX4_ofParts_0 (fun q1 hf_q1 => ?_)
  have h := h q1 hf_q1
  refine cg_nm (fun S2 e_S2 => ?_)
  have h := h S2 e_S2
  refine cg_dup C rfl dX4_ofParts_3 ?_
  refine cg_iload_n C (i := 0) rfl 0 rfl dX4_ofParts_4 ?_
  refine cg_iconst C (x := nI 0) rfl dX4_ofParts_5 ?_
  refine cg_iload_n C (i := 2) rfl 2 rfl dX4_ofParts_6 ?_
  obtain ⟨mc3, ms4, hm_1, hm_2, h⟩ := h
  refine cg_callI C (t_X4_init l mc3 ms4 q1 x0 ((nI 0)) x2 S2 dp h) cz_X4_49 rfl ⟨by decide, by decide⟩ ⟨hm_1, hm_2⟩ rfl (Nat.le_of_ble_eq_true rfl) dX4_ofParts_7 (fun S_5 h => ?_)
  refine cg_astore_n (lv' := [(3, .ref q1), (0, .int x0), (1, .int x1), (2, .int x2)]) C (i := 3) rfl (Nat.le_of_ble_eq_true rfl) rfl dX4_ofParts_10 ?_
  refine cg_aload_n C (i := 3) rfl 0 rfl dX4_ofParts_11 ?_
  refine cg_iload_n C (i := 1) rfl 2 rfl dX4_ofParts_12 ?_
  obtain ⟨hc_13, h⟩ := h
  refine cg_puti C (k := 4) (j := 4) (ty := tyX4) (fty := .int) hc_13.1 hc_13.2 (by decide) rfl (by decide) rfl (by decide) rfl cWs_wsX40 tyX4_ok nmX4 cl_X4_15 rfl rfl rfl rfl rfl dX4_ofParts_13 ?_
  refine cg_nm (fun S6 e_S6 => ?_)
  have h := h S6 e_S6
  refine cg_aload_n C (i := 3) rfl 0 rfl dX4_ofParts_16 ?_
  obtain ⟨hb_17, h⟩ := h
  exact cg_aret C rfl (by first | exact Or.inl ⟨_, rfl⟩ | exact Or.inr ⟨_, rfl⟩) h dX4_ofParts_17 hb_17.1 hb_17.2
def k_X4_isPattern_21 (Q : Int32 → cS → Prop) (dp : Nat) (R21 : Nat → Int32 → cS → Prop) (x0 : Nat) (x1 : Int32) (S : cS) : Prop :=
cA S x0 9 ∧ (((((ci S 289 x0)) ≤ x1 →
  Q ((bI true)) S) ∧
 (¬ ((ci S 289 x0)) ≤ x1 →
  cA S x0 9 ∧ (k_X9_signOf (fun r_1 S_1 => 
  k_X4_patternOf (fun r_2 S_2 => 
  ((¬ r_2 = 0 →
    ∀ x1_3 : Int32, x1_3 = x1 + nI 1 → R21 x0 x1_3 S_2) ∧
   (r_2 = 0 →
    Q ((bI false)) S_2))) dp r_1 S_1) dp x0 x1 S))))
def k_X4_isPattern_21L (Q : Int32 → cS → Prop) (dp : Nat)  (x0 : Nat) (x1 : Int32) (S : cS) : Prop :=
  lfp (X := Nat × Int32 × cS) (fun P y => k_X4_isPattern_21 Q dp  (fun b0 b1 S => P (b0, b1, S)) y.1 y.2.1 y.2.2) (x0, x1, S)
def k_X4_isPattern (Q : Int32 → cS → Prop) (dp : Nat) (x0 : Nat) (S : cS) : Prop :=
cA S x0 9 ∧ (((((ci S 289 x0)) < ((nI 1)) →
  Q ((bI false)) S) ∧
 (¬ ((ci S 289 x0)) < ((nI 1)) →
  cA S x0 9 ∧ (((((ci S 289 x0)) ≤ ((nI 12)) →
    k_X4_isPattern_21L Q dp  x0 (((nI 0))) S) ∧
   (¬ ((ci S 289 x0)) ≤ ((nI 12)) →
    Q ((bI false)) S))))))
section S_X4_isPattern
variable {p : Program} {l : Launch} {e : Env} {s : State} {m : MethodId} {args : Array Value} {below : List Frame} {meth : Method} {c : Code} {A : Nat → Prop} {D : va_G} {Y : cY} {tp dp : Nat}
set_option maxRecDepth 20000 in
theorem tb_X4_isPattern_21 (C : cC p s m args meth c cX4_isPattern 2 (some .boolean) A D Y tp dp RX4) {post : Int32 → cS → Prop} {R21 : Nat → Int32 → cS → Prop} (hR21 : ∀ (x0 : Nat) (x1 : Int32) (S : cS), R21 x0 x1 S → cG p l e (cRm 2 0 0 40) s m args below meth c A D Y 2 (MQ below (cQi post D Y A) args s 0 0 A) 0 0 21 [(0, .ref x0), (1, .int x1)] [] S) (x0 : Nat) (x1 : Int32) (S : cS) (h : k_X4_isPattern_21 post dp R21 x0 x1 S) : cG p l e (cRm 2 0 0 40) s m args below meth c A D Y 2 (MQ below (cQi post D Y A) args s 0 0 A) 0 0 21 [(0, .ref x0), (1, .int x1)] [] S := by
  unfold k_X4_isPattern_21 at h
  refine cg_iload_n C (i := 1) rfl 1 rfl dX4_isPattern_21 ?_
  refine cg_aload_n C (i := 0) rfl 0 rfl dX4_isPattern_22 ?_
  obtain ⟨hc_23, h⟩ := h
  refine cg_get C (k := 9) (j := 1) (.int (ci S 289 x0)) hc_23.1 hc_23.2 (by decide) rfl (by decide) rfl rfl cWs_wsX90 cl_X4_82 rfl dX4_isPattern_23 ?_
  refine cg_icmp_ge C 48 (by decide) dX4_isPattern_26 (fun c_ => ?_) (fun c_ => ?_)
  · have h := h.1 c_
    refine cg_iconst C (x := nI 1) rfl dX4_isPattern_48 ?_
    refine cg_cast (.int (bI true)) rfl ?_
    exact cg_zret C (bI_nar _) h dX4_isPattern_49 (by decide) (by decide)
  · have h := h.2 c_
    refine cg_aload_n C (i := 0) rfl 0 rfl dX4_isPattern_29 ?_
    refine cg_iload_n C (i := 1) rfl 1 rfl dX4_isPattern_30 ?_
    obtain ⟨hc_31, h⟩ := h
    refine cg_calli C (t_X9_signOf l x0 x1 S dp h) cc_X4_85 hc_31.1 hc_31.2 (by decide) rfl rfl ⟨by decide, by decide⟩ ⟨by decide, by decide⟩ rfl (Nat.le_of_ble_eq_true rfl) dX4_isPattern_31 (fun r_1 S_1 h => ?_)
    refine cg_callsi C (t_X4_patternOf l r_1 S_1 dp h) cc_X4_88 rfl ⟨by decide, by decide⟩ ⟨by decide, by decide⟩ rfl (Nat.le_of_ble_eq_true rfl) dX4_isPattern_34 (fun r_2 S_2 h => ?_)
    refine cg_if_ne C 42 (by decide) dX4_isPattern_37 (fun c_ => ?_) (fun c_ => ?_)
    · have h := h.1 c_
      obtain ⟨x1_3, e_x1_3⟩ : ∃ z : Int32, z = x1 + nI 1 := ⟨_, rfl⟩
      have h := h x1_3 e_x1_3
      refine cg_iinc C (lv' := [(1, .int x1_3), (0, .ref x0)]) 1 rfl (by rw [e_x1_3]; rfl) (Nat.le_of_ble_eq_true rfl) rfl dX4_isPattern_42 ?_
      refine cg_goto C 21 (by decide) dX4_isPattern_45 ?_
      exact cg_sub [1, 0] rfl (hR21 x0 x1_3 S_2 h)
    · have h := h.2 c_
      refine cg_iconst C (x := nI 0) rfl dX4_isPattern_40 ?_
      refine cg_cast (.int (bI false)) rfl ?_
      exact cg_zret C (bI_nar _) h dX4_isPattern_41 (by decide) (by decide)
set_option maxRecDepth 20000 in
theorem tl_X4_isPattern_21 (C : cC p s m args meth c cX4_isPattern 2 (some .boolean) A D Y tp dp RX4) {post : Int32 → cS → Prop}   (x0 : Nat) (x1 : Int32) (S : cS) (h : k_X4_isPattern_21L post dp  x0 x1 S) : cG p l e (cRm 2 0 0 40) s m args below meth c A D Y 2 (MQ below (cQi post D Y A) args s 0 0 A) 0 0 21 [(0, .ref x0), (1, .int x1)] [] S :=
  h (fun y => cG p l e (cRm 2 0 0 40) s m args below meth c A D Y 2 (MQ below (cQi post D Y A) args s 0 0 A) 0 0 21 [(0, .ref (y.1)), (1, .int (y.2.1))] [] (y.2.2)) (fun y hy => tb_X4_isPattern_21 C   (fun b0 b1 S z => z) (y.1) (y.2.1) (y.2.2) hy)
end S_X4_isPattern
set_option maxHeartbeats 1000000 in
set_option maxRecDepth 20000 in
theorem t_X4_isPattern (l : Launch) (x0 : Nat) (S : cS) (dp : Nat) {P : Int32 → cS → Prop} (h : k_X4_isPattern P dp x0 S) : cMet (cQi P) l yX4_isPattern cX4_isPattern 2 (some .boolean) 2 0 0 40 [.ref x0] S dp := by
  intro D Y tp sz
  refine cg_body (by decide +kernel) (Nat.le_of_ble_eq_true rfl) ?_
  intro p e s m args below meth c C
  generalize va_A (cWd Y S) sz = A at C ⊢
  have C : cC p s m args meth c cX4_isPattern 2 (some .boolean) A D Y tp dp RX4 := C
  refine cg_lv (lv' := [(0, .ref x0)]) rfl ?_
  unfold k_X4_isPattern at h
  refine cg_aload_n C (i := 0) rfl 0 rfl dX4_isPattern_0 ?_
  obtain ⟨hc_1, h⟩ := h
  refine cg_get C (k := 9) (j := 1) (.int (ci S 289 x0)) hc_1.1 hc_1.2 (by decide) rfl (by decide) rfl rfl cWs_wsX90 cl_X4_82 rfl dX4_isPattern_1 ?_
  refine cg_iconst C (x := nI 1) rfl dX4_isPattern_4 ?_
  refine cg_icmp_lt C 17 (by decide) dX4_isPattern_5 (fun c_ => ?_) (fun c_ => ?_)
  · have h := h.1 c_
    refine cg_iconst C (x := nI 0) rfl dX4_isPattern_17 ?_
    refine cg_cast (.int (bI false)) rfl ?_
    exact cg_zret C (bI_nar _) h dX4_isPattern_18 (by decide) (by decide)
  · have h := h.2 c_
    refine cg_aload_n C (i := 0) rfl 0 rfl dX4_isPattern_8 ?_
    obtain ⟨hc_9, h⟩ := h
    refine cg_get C (k := 9) (j := 1) (.int (ci S 289 x0)) hc_9.1 hc_9.2 (by decide) rfl (by decide) rfl rfl cWs_wsX90 cl_X4_82 rfl dX4_isPattern_9 ?_
    refine cg_bipush C (x := nI 12) rfl dX4_isPattern_12 ?_
    refine cg_icmp_le C 19 (by decide) dX4_isPattern_14 (fun c_ => ?_) (fun c_ => ?_)
    · have h := h.1 c_
      refine cg_iconst C (x := nI 0) rfl dX4_isPattern_19 ?_
      refine cg_istore_n C (i := 1) (lv' := [(1, .int ((nI 0))), (0, .ref x0)]) rfl (Nat.le_of_ble_eq_true rfl) rfl dX4_isPattern_20 ?_
      exact cg_sub [1, 0] rfl (tl_X4_isPattern_21 C   x0 (((nI 0))) S h)
    · have h := h.2 c_
      refine cg_iconst C (x := nI 0) rfl dX4_isPattern_17 ?_
      refine cg_cast (.int (bI false)) rfl ?_
      exact cg_zret C (bI_nar _) h dX4_isPattern_18 (by decide) (by decide)
def k_X5_init (Q : cS → Prop) (dp : Nat) (mc ms : Nat) (x0 : Nat) (x1 : Int64) (S : cS) : Prop :=
(∃ n1 : Nat, (nI 4) = nI n1 ∧ n1 < 2 ^ 20 ∧ 0 + 1 ≤ mc ∧ 0 + n1 ≤ ms ∧ (∀ q2 : Nat, q2 ∉ cL S → ∀ S3 : cS, S3 = cNewA S q2 13 n1 → cA S3 x0 5 ∧ (∀ S4 : cS, S4 = cSr S3 161 x0 ((some q2)) → cA S4 x0 5 ∧ (∀ S5 : cS, S5 = cSi S4 162 x0 ((nI 0)) → cA S5 x0 5 ∧ (∀ S6 : cS, S6 = cSi S5 163 x0 ((nI 0)) → cA S6 x0 5 ∧ (∀ S7 : cS, S7 = cSi S6 164 x0 (((-1))) → (∃ n8 : Nat, (nI 4) = nI n8 ∧ n8 < 2 ^ 20 ∧ 0 + 1 + 1 ≤ mc ∧ 0 + n1 + n8 ≤ ms ∧ (∀ q9 : Nat, q9 ∉ cL S7 → ∀ S10 : cS, S10 = cNewA S7 q9 14 n8 → cA S10 x0 5 ∧ (∀ S11 : cS, S11 = cSr S10 165 x0 ((some q9)) → cA S11 x0 5 ∧ (∀ S12 : cS, S12 = cSi S11 166 x0 ((nI 0)) → cA S12 x0 5 ∧ (∀ S13 : cS, S13 = cSi S12 167 x0 ((nI 0)) → cA S13 x0 5 ∧ (∀ S14 : cS, S14 = cSi S13 168 x0 ((nI 0)) → cA S14 x0 5 ∧ (∀ S15 : cS, S15 = cSi S14 169 x0 ((nI 0)) → cA S15 x0 5 ∧ (∀ S16 : cS, S16 = cSw S15 160 x0 x1 → (0 + 1 + 1 ≤ mc ∧ 0 + n1 + n8 ≤ ms) ∧ (Q S16)))))))))))))))
set_option maxHeartbeats 1000000 in
set_option maxRecDepth 20000 in
theorem t_X5_init (l : Launch) (mc ms : Nat) (x0 : Nat) (x1 : Int64) (S : cS) (dp : Nat) {P : cS → Prop} (h : k_X5_init P dp mc ms x0 x1 S) : cMet (cQv P) l yX5_init cX5_init 3 none 1 mc ms 32 [.ref x0, .long x1] S dp := by
  intro D Y tp sz
  refine cg_bodyI (by decide +kernel) (Nat.le_of_ble_eq_true rfl) ?_
  intro p e s m args below meth c C hin
  generalize va_A (cWd Y S) sz = A at C ⊢
  have C : cC p s m args meth c cX5_init 3 none A D Y tp dp RX5 := C
  refine cg_lv (lv' := [(0, .ref x0), (1, .long x1)]) rfl ?_
  unfold k_X5_init at h
  refine cg_aload_n C (i := 0) rfl 0 rfl dX5_init_0 ?_
  refine cg_objInit C co_X5_3 co_i co_c (by decide) (Nat.le_of_ble_eq_true rfl) dX5_init_1 ?_
  refine cg_aload_n C (i := 0) rfl 0 rfl dX5_init_4 ?_
  refine cg_iconst C (x := nI 4) rfl dX5_init_5 ?_
  obtain ⟨n1, hn_1, hn_2, hn_3, hn_4, h⟩ := h
  refine cg_cast (.int (nI n1)) (congrArg Value.int hn_1) ?_
  refine cg_newB C n1 hn_2 ca_byte hn_3 hn_4 dX5_init_6 (fun q2 hf_q2 => ?_)
  have h := h q2 hf_q2
  refine cg_nm (fun S3 e_S3 => ?_)
  have h := h S3 e_S3
  obtain ⟨hc_8, h⟩ := h
  refine cg_putr C (k := 5) (j := 1) (x := (some q2)) (ty := tyX5) (fty := tyX5 1) hc_8.1 hc_8.2 (by decide) rfl (by decide) rfl (by decide) rfl cWs_wsX50 tyX5_ok nmX5 cl_X5_9 rfl rfl rfl rfl rfl dX5_init_8 ?_
  refine cg_nm (fun S4 e_S4 => ?_)
  have h := h S4 e_S4
  refine cg_aload_n C (i := 0) rfl 0 rfl dX5_init_11 ?_
  refine cg_iconst C (x := nI 0) rfl dX5_init_12 ?_
  obtain ⟨hc_13, h⟩ := h
  refine cg_puti C (k := 5) (j := 2) (ty := tyX5) (fty := .int) hc_13.1 hc_13.2 (by decide) rfl (by decide) rfl (by decide) rfl cWs_wsX50 tyX5_ok nmX5 cl_X5_15 rfl rfl rfl rfl rfl dX5_init_13 ?_
  refine cg_nm (fun S5 e_S5 => ?_)
  have h := h S5 e_S5
  refine cg_aload_n C (i := 0) rfl 0 rfl dX5_init_16 ?_
  refine cg_iconst C (x := nI 0) rfl dX5_init_17 ?_
  obtain ⟨hc_18, h⟩ := h
  refine cg_puti C (k := 5) (j := 3) (ty := tyX5) (fty := .int) hc_18.1 hc_18.2 (by decide) rfl (by decide) rfl (by decide) rfl cWs_wsX50 tyX5_ok nmX5 cl_X5_19 rfl rfl rfl rfl rfl dX5_init_18 ?_
  refine cg_nm (fun S6 e_S6 => ?_)
  have h := h S6 e_S6
  refine cg_aload_n C (i := 0) rfl 0 rfl dX5_init_21 ?_
  refine cg_iconst C (x := (-1)) rfl dX5_init_22 ?_
  obtain ⟨hc_23, h⟩ := h
  refine cg_puti C (k := 5) (j := 4) (ty := tyX5) (fty := .int) hc_23.1 hc_23.2 (by decide) rfl (by decide) rfl (by decide) rfl cWs_wsX50 tyX5_ok nmX5 cl_X5_22 rfl rfl rfl rfl rfl dX5_init_23 ?_
  refine cg_nm (fun S7 e_S7 => ?_)
  have h := h S7 e_S7
  refine cg_aload_n C (i := 0) rfl 0 rfl dX5_init_26 ?_
  refine cg_iconst C (x := nI 4) rfl dX5_init_27 ?_
  obtain ⟨n8, hn_1, hn_2, hn_3, hn_4, h⟩ := h
  refine cg_cast (.int (nI n8)) (congrArg Value.int hn_1) ?_
  refine cg_newI C n8 hn_2 ca_int hn_3 hn_4 dX5_init_28 (fun q9 hf_q9 => ?_)
  have h := h q9 hf_q9
  refine cg_nm (fun S10 e_S10 => ?_)
  have h := h S10 e_S10
  obtain ⟨hc_30, h⟩ := h
  refine cg_putrF C (k := 5) (j := 5) (x := (some q9)) (ty := tyX5) (fty := tyX5 5) hc_30.1 hc_30.2 (by decide) rfl (by decide) rfl (by decide) rfl cWs_wsX50 tyX5_ok nmX5 cl_X5_25 rfl rfl hin rfl rfl rfl rfl dX5_init_30 ?_
  refine cg_nm (fun S11 e_S11 => ?_)
  have h := h S11 e_S11
  refine cg_aload_n C (i := 0) rfl 0 rfl dX5_init_33 ?_
  refine cg_iconst C (x := nI 0) rfl dX5_init_34 ?_
  obtain ⟨hc_35, h⟩ := h
  refine cg_puti C (k := 5) (j := 6) (ty := tyX5) (fty := .int) hc_35.1 hc_35.2 (by decide) rfl (by decide) rfl (by decide) rfl cWs_wsX50 tyX5_ok nmX5 cl_X5_29 rfl rfl rfl rfl rfl dX5_init_35 ?_
  refine cg_nm (fun S12 e_S12 => ?_)
  have h := h S12 e_S12
  refine cg_aload_n C (i := 0) rfl 0 rfl dX5_init_38 ?_
  refine cg_iconst C (x := nI 0) rfl dX5_init_39 ?_
  obtain ⟨hc_40, h⟩ := h
  refine cg_puti C (k := 5) (j := 7) (ty := tyX5) (fty := .int) hc_40.1 hc_40.2 (by decide) rfl (by decide) rfl (by decide) rfl cWs_wsX50 tyX5_ok nmX5 cl_X5_32 rfl rfl rfl rfl rfl dX5_init_40 ?_
  refine cg_nm (fun S13 e_S13 => ?_)
  have h := h S13 e_S13
  refine cg_aload_n C (i := 0) rfl 0 rfl dX5_init_43 ?_
  refine cg_iconst C (x := nI 0) rfl dX5_init_44 ?_
  obtain ⟨hc_45, h⟩ := h
  refine cg_puti C (k := 5) (j := 8) (ty := tyX5) (fty := .int) hc_45.1 hc_45.2 (by decide) rfl (by decide) rfl (by decide) rfl cWs_wsX50 tyX5_ok nmX5 cl_X5_35 rfl rfl rfl rfl rfl dX5_init_45 ?_
  refine cg_nm (fun S14 e_S14 => ?_)
  have h := h S14 e_S14
  refine cg_aload_n C (i := 0) rfl 0 rfl dX5_init_48 ?_
  refine cg_iconst C (x := nI 0) rfl dX5_init_49 ?_
  obtain ⟨hc_50, h⟩ := h
  refine cg_puti C (k := 5) (j := 9) (ty := tyX5) (fty := .int) hc_50.1 hc_50.2 (by decide) rfl (by decide) rfl (by decide) rfl cWs_wsX50 tyX5_ok nmX5 cl_X5_38 rfl rfl rfl rfl rfl dX5_init_50 ?_
  refine cg_nm (fun S15 e_S15 => ?_)
  have h := h S15 e_S15
  refine cg_aload_n C (i := 0) rfl 0 rfl dX5_init_53 ?_
  refine cg_lload_n C (i := 1) rfl 1 rfl dX5_init_54 ?_
  obtain ⟨hc_55, h⟩ := h
  refine cg_putwF C (k := 5) (j := 0) (ty := tyX5) (fty := .long) hc_55.1 hc_55.2 (by decide) rfl (by decide) rfl (by decide) rfl cWs_wsX50 tyX5_ok nmX5 cl_X5_41 rfl rfl hin rfl rfl rfl rfl dX5_init_55 ?_
  refine cg_nm (fun S16 e_S16 => ?_)
  have h := h S16 e_S16
  obtain ⟨hb_58, h⟩ := h
  exact cg_vret C h dX5_init_58 hb_58.1 hb_58.2
def k_J7_copyOf_9075b (Q : Nat → cS → Prop) (dp : Nat) (mc ms : Nat) (x0 : Nat) (x1 : Int32) (S : cS) : Prop :=
cA S x0 13 ∧ (((¬ x1 = ((nI (cn S x0))) →
  (∃ n1 : Nat, x1 = nI n1 ∧ n1 < 2 ^ 20 ∧ 0 + 1 ≤ mc ∧ 0 + n1 ≤ ms ∧ (∀ q2 : Nat, q2 ∉ cL S → ∀ S3 : cS, S3 = cNewA S q2 13 n1 → cA S3 x0 13 ∧ ((0 + 1 ≤ mc ∧ 0 + n1 ≤ ms) ∧ (cCp S3 13 x0 ((nI 0)) q2 ((nI 0)) ((if x1 < ((nI (cn S3 x0))) then x1 else ((nI (cn S3 x0))))) ∧ (∀ S4 : cS, S4 = cCpyI S3 x0 ((nI 0)).toNatClampNeg q2 ((nI 0)).toNatClampNeg ((if x1 < ((nI (cn S3 x0))) then x1 else ((nI (cn S3 x0))))).toNatClampNeg → (0 + 1 ≤ mc ∧ 0 + n1 ≤ ms) ∧ (Q q2 S4))))))) ∧
 (x1 = ((nI (cn S x0))) →
  False)))
set_option maxHeartbeats 1000000 in
set_option maxRecDepth 20000 in
theorem t_J7_copyOf_9075b (l : Launch) (mc ms : Nat) (x0 : Nat) (x1 : Int32) (S : cS) (dp : Nat) {P : Nat → cS → Prop} (h : k_J7_copyOf_9075b P dp mc ms x0 x1 S) : cMet (cQr P) l yJ7_copyOf_9075b cJ7_copyOf_9075b 3 (some (.array .byte)) 1 mc ms 18 [.ref x0, .int x1] S dp := by
  intro D Y tp sz
  refine cg_body (by decide +kernel) (Nat.le_of_ble_eq_true rfl) ?_
  intro p e s m args below meth c C
  generalize va_A (cWd Y S) sz = A at C ⊢
  have C : cC p s m args meth c cJ7_copyOf_9075b 3 (some (.array .byte)) A D Y tp dp RJ7 := C
  refine cg_lv (lv' := [(0, .ref x0), (1, .int x1)]) rfl ?_
  unfold k_J7_copyOf_9075b at h
  refine cg_iload_n C (i := 1) rfl 1 rfl dJ7_copyOf_9075b_0 ?_
  refine cg_aload_n C (i := 0) rfl 0 rfl dJ7_copyOf_9075b_1 ?_
  obtain ⟨hc_2, h⟩ := h
  refine cg_alen C hc_2.1 hc_2.2 (by decide) (by decide) dJ7_copyOf_9075b_2 ?_
  refine cg_icmp_ne C 14 (by decide) dJ7_copyOf_9075b_3 (fun c_ => ?_) (fun c_ => ?_)
  · have h := h.1 c_
    refine cg_iload_n C (i := 1) rfl 1 rfl dJ7_copyOf_9075b_14 ?_
    obtain ⟨n1, hn_1, hn_2, hn_3, hn_4, h⟩ := h
    refine cg_cast (.int (nI n1)) (congrArg Value.int hn_1) ?_
    refine cg_newB C n1 hn_2 ca_byte hn_3 hn_4 dJ7_copyOf_9075b_15 (fun q2 hf_q2 => ?_)
    have h := h q2 hf_q2
    refine cg_nm (fun S3 e_S3 => ?_)
    have h := h S3 e_S3
    refine cg_astore_n (lv' := [(2, .ref q2), (0, .ref x0), (1, .int x1)]) C (i := 2) rfl (Nat.le_of_ble_eq_true rfl) rfl dJ7_copyOf_9075b_17 ?_
    refine cg_aload_n C (i := 0) rfl 1 rfl dJ7_copyOf_9075b_18 ?_
    refine cg_iconst C (x := nI 0) rfl dJ7_copyOf_9075b_19 ?_
    refine cg_aload_n C (i := 2) rfl 0 rfl dJ7_copyOf_9075b_20 ?_
    refine cg_iconst C (x := nI 0) rfl dJ7_copyOf_9075b_21 ?_
    refine cg_aload_n C (i := 0) rfl 1 rfl dJ7_copyOf_9075b_22 ?_
    obtain ⟨hc_23, h⟩ := h
    refine cg_alen C hc_23.1 hc_23.2 (by decide) (by decide) dJ7_copyOf_9075b_23 ?_
    refine cg_iload_n C (i := 1) rfl 2 rfl dJ7_copyOf_9075b_24 ?_
    obtain ⟨hc_25, h⟩ := h
    refine cg_mmin C cmmin_J7_304 cmmin_s cmm_i cmmin_c (Nat.le_of_ble_eq_true rfl) (Nat.le_of_ble_eq_true rfl) hc_25.1 hc_25.2 dJ7_copyOf_9075b_25 ?_
    obtain ⟨hc_28, h⟩ := h
    refine cg_copy13 C hc_28 cac_J7_150 (Nat.le_of_ble_eq_true rfl) (Nat.le_of_ble_eq_true rfl) dJ7_copyOf_9075b_28 ?_
    refine cg_nm (fun S4 e_S4 => ?_)
    have h := h S4 e_S4
    refine cg_aload_n C (i := 2) rfl 0 rfl dJ7_copyOf_9075b_31 ?_
    obtain ⟨hb_32, h⟩ := h
    exact cg_aret C rfl (by first | exact Or.inl ⟨_, rfl⟩ | exact Or.inr ⟨_, rfl⟩) h dJ7_copyOf_9075b_32 hb_32.1 hb_32.2
  · have h := h.2 c_
    refine cg_aload_n C (i := 0) rfl 0 rfl dJ7_copyOf_9075b_6 ?_
    exact h.elim
def k_X5_putBits_74 (Q : cS → Prop) (dp : Nat) (mc ms : Nat) (R4 : Nat → Int32 → Int32 → Nat → Nat → cS → Prop) (x0 : Nat) (x1 : Int32) (x3 : Int32) (cd dd : Nat) (S : cS) : Prop :=
cA S x0 5 ∧ (cA S x0 5 ∧ (∀ S4 : cS, S4 = cSi S 162 x0 ((((ci S 162 x0)) + ((nI 1)))) → ∀ x3_5 : Int32, x3_5 = x3 + (-1) → R4 x0 x1 x3_5 cd dd S4))
def k_X5_putBits_43 (Q : cS → Prop) (dp : Nat) (mc ms : Nat) (R4 : Nat → Int32 → Int32 → Nat → Nat → cS → Prop) (x0 : Nat) (x1 : Int32) (x3 : Int32) (x4 : Int32) (cd dd : Nat) (S : cS) : Prop :=
((((((x1 >>> (x3 &&& 31))) &&& ((nI 1)))) = 0 →
  k_X5_putBits_74 Q dp mc ms R4 x0 x1 x3 cd dd S) ∧
 (¬ ((((x1 >>> (x3 &&& 31))) &&& ((nI 1)))) = 0 →
  cA S x0 5 ∧ ((∃ b6 : Nat, cr S 161 x0 = some b6 ∧ (cX S b6 13 x4 ∧ (cA S x0 5 ∧ (cX S b6 13 x4 ∧ (vp_nar .byte ((((((cI S b6 (x4).toNatClampNeg)) ||| ((((((nI 128)) >>> (((((ci S 162 x0)) &&& ((nI 7)))) &&& 31))).toInt8.toInt32)))).toInt8.toInt32)) = ((((((cI S b6 (x4).toNatClampNeg)) ||| ((((((nI 128)) >>> (((((ci S 162 x0)) &&& ((nI 7)))) &&& 31))).toInt8.toInt32)))).toInt8.toInt32)) ∧ (∀ S7 : cS, S7 = cSI S b6 (x4).toNatClampNeg ((((((cI S b6 (x4).toNatClampNeg)) ||| ((((((nI 128)) >>> (((((ci S 162 x0)) &&& ((nI 7)))) &&& 31))).toInt8.toInt32)))).toInt8.toInt32)) → k_X5_putBits_74 Q dp mc ms R4 x0 x1 x3 cd dd S7)))))))))
def k_X5_putBits_4 (Q : cS → Prop) (dp : Nat) (mc ms : Nat) (R4 : Nat → Int32 → Int32 → Nat → Nat → cS → Prop) (x0 : Nat) (x1 : Int32) (x3 : Int32) (cd dd : Nat) (S : cS) : Prop :=
((x3 < 0 →
  (cd ≤ mc ∧ dd ≤ ms) ∧ (Q S)) ∧
 (¬ x3 < 0 →
  cA S x0 5 ∧ (∀ x4_2 : Int32, x4_2 = (((ci S 162 x0)) >>> (((nI 3)) &&& 31)) → cA S x0 5 ∧ ((∃ b3 : Nat, cr S 161 x0 = some b3 ∧ (cA S b3 13 ∧ (((x4_2 < ((nI (cn S b3))) →
    k_X5_putBits_43 Q dp mc ms R4 x0 x1 x3 x4_2 cd dd S) ∧
   (¬ x4_2 < ((nI (cn S b3))) →
    cA S x0 5 ∧ ((∃ b8 : Nat, cr S 161 x0 = some b8 ∧ ((∃ mc9 ms10 : Nat, cd + mc9 ≤ mc ∧ dd + ms10 ≤ ms ∧ (k_J7_copyOf_9075b (fun r_11 S_11 => 
    cA S_11 x0 5 ∧ (∀ S12 : cS, S12 = cSr S_11 161 x0 ((some r_11)) → k_X5_putBits_43 Q dp mc ms R4 x0 x1 x3 x4_2 (cd + mc9) (dd + ms10) S12)) dp mc9 ms10 b8 ((((x4_2 * ((nI 2)))) + ((nI 4)))) S))))))))))))))
def k_X5_putBits_4L (Q : cS → Prop) (dp : Nat) (mc ms : Nat)  (x0 : Nat) (x1 : Int32) (x3 : Int32) (cd dd : Nat) (S : cS) : Prop :=
  lfp (X := Nat × Int32 × Int32 × Nat × Nat × cS) (fun P y => k_X5_putBits_4 Q dp mc ms  (fun b0 b1 b2 b3 b4 S => P (b0, b1, b2, b3, b4, S)) y.1 y.2.1 y.2.2.1 y.2.2.2.1 y.2.2.2.2.1 y.2.2.2.2.2) (x0, x1, x3, cd, dd, S)
def k_X5_putBits (Q : cS → Prop) (dp : Nat) (mc ms : Nat) (x0 : Nat) (x1 : Int32) (x2 : Int32) (S : cS) : Prop :=
∀ x3_1 : Int32, x3_1 = (x2 - ((nI 1))) → k_X5_putBits_4L Q dp mc ms  x0 x1 x3_1 0 0 S
section S_X5_putBits
variable {p : Program} {l : Launch} {e : Env} {s : State} {m : MethodId} {args : Array Value} {below : List Frame} {meth : Method} {c : Code} {A : Nat → Prop} {D : va_G} {Y : cY} {tp dp : Nat}
set_option maxRecDepth 20000 in
theorem tb_X5_putBits_74 {mc ms : Nat} (C : cC p s m args meth c cX5_putBits 5 none A D Y tp dp RX5) {post : cS → Prop} {R4 : Nat → Int32 → Int32 → Nat → Nat → cS → Prop} (hR4 : ∀ (x0 : Nat) (x1 : Int32) (x3 : Int32) (cd dd : Nat) (S : cS), R4 x0 x1 x3 cd dd S → cG p l e (cRm 2 mc ms 40) s m args below meth c A D Y 5 (MQ below (cQv post D Y A) args s mc ms A) cd dd 4 [(0, .ref x0), (1, .int x1), (3, .int x3)] [] S) (x0 : Nat) (x1 : Int32) (x3 : Int32) (cd dd : Nat) (S : cS) (h : k_X5_putBits_74 post dp mc ms R4 x0 x1 x3 cd dd S) : cG p l e (cRm 2 mc ms 40) s m args below meth c A D Y 5 (MQ below (cQv post D Y A) args s mc ms A) cd dd 74 [(0, .ref x0), (1, .int x1), (3, .int x3)] [] S := by
  unfold k_X5_putBits_74 at h
  refine cg_aload_n C (i := 0) rfl 0 rfl dX5_putBits_74 ?_
  refine cg_dup C rfl dX5_putBits_75 ?_
  obtain ⟨hc_76, h⟩ := h
  refine cg_get C (k := 5) (j := 2) (.int (ci S 162 x0)) hc_76.1 hc_76.2 (by decide) rfl (by decide) rfl rfl cWs_wsX50 cl_X5_15 rfl dX5_putBits_76 ?_
  refine cg_iconst C (x := nI 1) rfl dX5_putBits_79 ?_
  refine cg_iadd C dX5_putBits_80 ?_
  obtain ⟨hc_81, h⟩ := h
  refine cg_puti C (k := 5) (j := 2) (ty := tyX5) (fty := .int) hc_81.1 hc_81.2 (by decide) rfl (by decide) rfl (by decide) rfl cWs_wsX50 tyX5_ok nmX5 cl_X5_15 rfl rfl rfl rfl rfl dX5_putBits_81 ?_
  refine cg_nm (fun S4 e_S4 => ?_)
  have h := h S4 e_S4
  obtain ⟨x3_5, e_x3_5⟩ : ∃ z : Int32, z = x3 + (-1) := ⟨_, rfl⟩
  have h := h x3_5 e_x3_5
  refine cg_iinc C (lv' := [(3, .int x3_5), (0, .ref x0), (1, .int x1)]) 2 rfl (by rw [e_x3_5]; rfl) (Nat.le_of_ble_eq_true rfl) rfl dX5_putBits_84 ?_
  refine cg_goto C 4 (by decide) dX5_putBits_87 ?_
  exact cg_sub [1, 2, 0] rfl (hR4 x0 x1 x3_5 cd dd S4 h)
set_option maxRecDepth 20000 in
theorem tb_X5_putBits_43 {mc ms : Nat} (C : cC p s m args meth c cX5_putBits 5 none A D Y tp dp RX5) {post : cS → Prop} {R4 : Nat → Int32 → Int32 → Nat → Nat → cS → Prop} (hR4 : ∀ (x0 : Nat) (x1 : Int32) (x3 : Int32) (cd dd : Nat) (S : cS), R4 x0 x1 x3 cd dd S → cG p l e (cRm 2 mc ms 40) s m args below meth c A D Y 5 (MQ below (cQv post D Y A) args s mc ms A) cd dd 4 [(0, .ref x0), (1, .int x1), (3, .int x3)] [] S) (x0 : Nat) (x1 : Int32) (x3 : Int32) (x4 : Int32) (cd dd : Nat) (S : cS) (h : k_X5_putBits_43 post dp mc ms R4 x0 x1 x3 x4 cd dd S) : cG p l e (cRm 2 mc ms 40) s m args below meth c A D Y 5 (MQ below (cQv post D Y A) args s mc ms A) cd dd 43 [(0, .ref x0), (1, .int x1), (3, .int x3), (4, .int x4)] [] S := by
  unfold k_X5_putBits_43 at h
  refine cg_iload_n C (i := 1) rfl 1 rfl dX5_putBits_43 ?_
  refine cg_iload_n C (i := 3) rfl 2 rfl dX5_putBits_44 ?_
  refine cg_ishr C dX5_putBits_45 ?_
  refine cg_iconst C (x := nI 1) rfl dX5_putBits_46 ?_
  refine cg_iand C dX5_putBits_47 ?_
  refine cg_if_eq C 74 (by decide) dX5_putBits_48 (fun c_ => ?_) (fun c_ => ?_)
  · have h := h.1 c_
    exact cg_sub [0, 1, 2] rfl (tb_X5_putBits_74 C  hR4 x0 x1 x3 cd dd S h)
  · have h := h.2 c_
    refine cg_aload_n C (i := 0) rfl 0 rfl dX5_putBits_51 ?_
    obtain ⟨hc_52, h⟩ := h
    obtain ⟨b6, hb_b6, h⟩ := h
    refine cg_get C (k := 5) (j := 1) (.ref b6) hc_52.1 hc_52.2 (by decide) rfl (by decide) rfl (show cV _ 5 1 x0 = _ from congrArg va_rf hb_b6) cWs_wsX50 cl_X5_9 rfl dX5_putBits_52 ?_
    refine cg_iload C 3 rfl dX5_putBits_55 ?_
    refine cg_dup2 C rfl rfl dX5_putBits_57 ?_
    obtain ⟨hc_58, h⟩ := h
    refine cg_baloadR C hc_58 dX5_putBits_58 ?_
    refine cg_sipush C (x := nI 128) rfl dX5_putBits_59 ?_
    refine cg_aload_n C (i := 0) rfl 0 rfl dX5_putBits_62 ?_
    obtain ⟨hc_63, h⟩ := h
    refine cg_get C (k := 5) (j := 2) (.int (ci S 162 x0)) hc_63.1 hc_63.2 (by decide) rfl (by decide) rfl rfl cWs_wsX50 cl_X5_15 rfl dX5_putBits_63 ?_
    refine cg_bipush C (x := nI 7) rfl dX5_putBits_66 ?_
    refine cg_iand C dX5_putBits_68 ?_
    refine cg_ishr C dX5_putBits_69 ?_
    refine cg_i2b C dX5_putBits_70 ?_
    refine cg_ior C dX5_putBits_71 ?_
    refine cg_i2b C dX5_putBits_72 ?_
    obtain ⟨hc_73, h⟩ := h
    obtain ⟨hz_73, h⟩ := h
    refine cg_bastoreR C hc_73 hz_73 dX5_putBits_73 ?_
    refine cg_nm (fun S7 e_S7 => ?_)
    have h := h S7 e_S7
    exact cg_sub [0, 1, 2] rfl (tb_X5_putBits_74 C  hR4 x0 x1 x3 cd dd S7 h)
set_option maxRecDepth 20000 in
theorem tb_X5_putBits_4 {mc ms : Nat} (C : cC p s m args meth c cX5_putBits 5 none A D Y tp dp RX5) {post : cS → Prop} {R4 : Nat → Int32 → Int32 → Nat → Nat → cS → Prop} (hR4 : ∀ (x0 : Nat) (x1 : Int32) (x3 : Int32) (cd dd : Nat) (S : cS), R4 x0 x1 x3 cd dd S → cG p l e (cRm 2 mc ms 40) s m args below meth c A D Y 5 (MQ below (cQv post D Y A) args s mc ms A) cd dd 4 [(0, .ref x0), (1, .int x1), (3, .int x3)] [] S) (x0 : Nat) (x1 : Int32) (x3 : Int32) (cd dd : Nat) (S : cS) (h : k_X5_putBits_4 post dp mc ms R4 x0 x1 x3 cd dd S) : cG p l e (cRm 2 mc ms 40) s m args below meth c A D Y 5 (MQ below (cQv post D Y A) args s mc ms A) cd dd 4 [(0, .ref x0), (1, .int x1), (3, .int x3)] [] S := by
  unfold k_X5_putBits_4 at h
  refine cg_iload_n C (i := 3) rfl 2 rfl dX5_putBits_4 ?_
  refine cg_if_lt C 90 (by decide) dX5_putBits_5 (fun c_ => ?_) (fun c_ => ?_)
  · have h := h.1 c_
    obtain ⟨hb_90, h⟩ := h
    exact cg_vret C h dX5_putBits_90 hb_90.1 hb_90.2
  · have h := h.2 c_
    refine cg_aload_n C (i := 0) rfl 0 rfl dX5_putBits_8 ?_
    obtain ⟨hc_9, h⟩ := h
    refine cg_get C (k := 5) (j := 2) (.int (ci S 162 x0)) hc_9.1 hc_9.2 (by decide) rfl (by decide) rfl rfl cWs_wsX50 cl_X5_15 rfl dX5_putBits_9 ?_
    refine cg_iconst C (x := nI 3) rfl dX5_putBits_12 ?_
    refine cg_ishr C dX5_putBits_13 ?_
    refine cg_nmI (fun x4_2 e_x4_2 => ?_)
    have h := h x4_2 e_x4_2
    refine cg_istore C (lv' := [(4, .int x4_2), (0, .ref x0), (1, .int x1), (3, .int x3)]) (Nat.le_of_ble_eq_true rfl) rfl dX5_putBits_14 ?_
    refine cg_iload C 0 rfl dX5_putBits_16 ?_
    refine cg_aload_n C (i := 0) rfl 1 rfl dX5_putBits_18 ?_
    obtain ⟨hc_19, h⟩ := h
    obtain ⟨b3, hb_b3, h⟩ := h
    refine cg_get C (k := 5) (j := 1) (.ref b3) hc_19.1 hc_19.2 (by decide) rfl (by decide) rfl (show cV _ 5 1 x0 = _ from congrArg va_rf hb_b3) cWs_wsX50 cl_X5_9 rfl dX5_putBits_19 ?_
    obtain ⟨hc_22, h⟩ := h
    refine cg_alen C hc_22.1 hc_22.2 (by decide) (by decide) dX5_putBits_22 ?_
    refine cg_icmp_lt C 43 (by decide) dX5_putBits_23 (fun c_ => ?_) (fun c_ => ?_)
    · have h := h.1 c_
      exact cg_sub [1, 2, 3, 0] rfl (tb_X5_putBits_43 C  hR4 x0 x1 x3 x4_2 cd dd S h)
    · have h := h.2 c_
      refine cg_aload_n C (i := 0) rfl 1 rfl dX5_putBits_26 ?_
      refine cg_aload_n C (i := 0) rfl 1 rfl dX5_putBits_27 ?_
      obtain ⟨hc_28, h⟩ := h
      obtain ⟨b8, hb_b8, h⟩ := h
      refine cg_get C (k := 5) (j := 1) (.ref b8) hc_28.1 hc_28.2 (by decide) rfl (by decide) rfl (show cV _ 5 1 x0 = _ from congrArg va_rf hb_b8) cWs_wsX50 cl_X5_9 rfl dX5_putBits_28 ?_
      refine cg_iload C 0 rfl dX5_putBits_31 ?_
      refine cg_iconst C (x := nI 2) rfl dX5_putBits_33 ?_
      refine cg_imul C dX5_putBits_34 ?_
      refine cg_iconst C (x := nI 4) rfl dX5_putBits_35 ?_
      refine cg_iadd C dX5_putBits_36 ?_
      obtain ⟨mc9, ms10, hm_1, hm_2, h⟩ := h
      refine cg_callsr C (t_J7_copyOf_9075b l mc9 ms10 b8 ((((x4_2 * ((nI 2)))) + ((nI 4)))) S dp h) cc_X5_67 rfl ⟨by decide, by decide⟩ ⟨hm_1, hm_2⟩ rfl (Nat.le_of_ble_eq_true rfl) dX5_putBits_37 (fun r_11 S_11 h => ?_)
      obtain ⟨hc_40, h⟩ := h
      refine cg_putr C (k := 5) (j := 1) (x := (some r_11)) (ty := tyX5) (fty := tyX5 1) hc_40.1 hc_40.2 (by decide) rfl (by decide) rfl (by decide) rfl cWs_wsX50 tyX5_ok nmX5 cl_X5_9 rfl rfl rfl rfl rfl dX5_putBits_40 ?_
      refine cg_nm (fun S12 e_S12 => ?_)
      have h := h S12 e_S12
      exact cg_sub [1, 2, 3, 0] rfl (tb_X5_putBits_43 C  hR4 x0 x1 x3 x4_2 (cd + mc9) (dd + ms10) S12 h)
set_option maxRecDepth 20000 in
theorem tl_X5_putBits_4 {mc ms : Nat} (C : cC p s m args meth c cX5_putBits 5 none A D Y tp dp RX5) {post : cS → Prop}   (x0 : Nat) (x1 : Int32) (x3 : Int32) (cd dd : Nat) (S : cS) (h : k_X5_putBits_4L post dp mc ms  x0 x1 x3 cd dd S) : cG p l e (cRm 2 mc ms 40) s m args below meth c A D Y 5 (MQ below (cQv post D Y A) args s mc ms A) cd dd 4 [(0, .ref x0), (1, .int x1), (3, .int x3)] [] S :=
  h (fun y => cG p l e (cRm 2 mc ms 40) s m args below meth c A D Y 5 (MQ below (cQv post D Y A) args s mc ms A) (y.2.2.2.1) (y.2.2.2.2.1) 4 [(0, .ref (y.1)), (1, .int (y.2.1)), (3, .int (y.2.2.1))] [] (y.2.2.2.2.2)) (fun y hy => tb_X5_putBits_4 C   (fun b0 b1 b2 b3 b4 S z => z) (y.1) (y.2.1) (y.2.2.1) (y.2.2.2.1) (y.2.2.2.2.1) (y.2.2.2.2.2) hy)
end S_X5_putBits
set_option maxHeartbeats 1000000 in
set_option maxRecDepth 20000 in
theorem t_X5_putBits (l : Launch) (mc ms : Nat) (x0 : Nat) (x1 : Int32) (x2 : Int32) (S : cS) (dp : Nat) {P : cS → Prop} (h : k_X5_putBits P dp mc ms x0 x1 x2 S) : cMet (cQv P) l yX5_putBits cX5_putBits 5 none 2 mc ms 40 [.ref x0, .int x1, .int x2] S dp := by
  intro D Y tp sz
  refine cg_body (by decide +kernel) (Nat.le_of_ble_eq_true rfl) ?_
  intro p e s m args below meth c C
  generalize va_A (cWd Y S) sz = A at C ⊢
  have C : cC p s m args meth c cX5_putBits 5 none A D Y tp dp RX5 := C
  refine cg_lv (lv' := [(0, .ref x0), (1, .int x1), (2, .int x2)]) rfl ?_
  unfold k_X5_putBits at h
  refine cg_iload_n C (i := 2) rfl 2 rfl dX5_putBits_0 ?_
  refine cg_iconst C (x := nI 1) rfl dX5_putBits_1 ?_
  refine cg_isub C dX5_putBits_2 ?_
  refine cg_nmI (fun x3_1 e_x3_1 => ?_)
  have h := h x3_1 e_x3_1
  refine cg_istore_n C (i := 3) (lv' := [(3, .int x3_1), (0, .ref x0), (1, .int x1), (2, .int x2)]) rfl (Nat.le_of_ble_eq_true rfl) rfl dX5_putBits_3 ?_
  exact cg_sub [1, 2, 0] rfl (tl_X5_putBits_4 C   x0 x1 x3_1 0 0 S h)
def k_X5_close_106 (Q : cS → Prop) (dp : Nat) (mc ms : Nat)  (x0 : Nat) (cd dd : Nat) (S : cS) : Prop :=
cA S x0 5 ∧ (∀ S4 : cS, S4 = cSi S 166 x0 ((nI 0)) → (cd ≤ mc ∧ dd ≤ ms) ∧ (Q S4))
def k_X5_close_72 (Q : cS → Prop) (dp : Nat) (mc ms : Nat) (R72 : Nat → Int32 → Int32 → Nat → Nat → cS → Prop) (x0 : Nat) (x2 : Int32) (x3 : Int32) (cd dd : Nat) (S : cS) : Prop :=
cA S x0 5 ∧ (((((ci S 166 x0)) ≤ x3 →
  k_X5_close_106 Q dp mc ms  x0 cd dd S) ∧
 (¬ ((ci S 166 x0)) ≤ x3 →
  cA S x0 5 ∧ ((∃ b5 : Nat, cr S 165 x0 = some b5 ∧ (cA S b5 14 ∧ (((((nI (cn S b5))) ≤ x3 →
    k_X5_close_106 Q dp mc ms  x0 cd dd S) ∧
   (¬ ((nI (cn S b5))) ≤ x3 →
    cA S x0 5 ∧ ((∃ b6 : Nat, cr S 165 x0 = some b6 ∧ (cX S b6 14 x3 ∧ (cA S x0 5 ∧ ((∃ mc7 ms8 : Nat, cd + mc7 ≤ mc ∧ dd + ms8 ≤ ms ∧ (k_X5_putBits (fun S_9 => 
    ∀ x3_10 : Int32, x3_10 = x3 + nI 1 → R72 x0 x2 x3_10 (cd + mc7) (dd + ms8) S_9) dp mc7 ms8 x0 ((cI S b6 (x3).toNatClampNeg)) x2 S))))))))))))))))
def k_X5_close_72L (Q : cS → Prop) (dp : Nat) (mc ms : Nat)  (x0 : Nat) (x2 : Int32) (x3 : Int32) (cd dd : Nat) (S : cS) : Prop :=
  lfp (X := Nat × Int32 × Int32 × Nat × Nat × cS) (fun P y => k_X5_close_72 Q dp mc ms  (fun b0 b1 b2 b3 b4 S => P (b0, b1, b2, b3, b4, S)) y.1 y.2.1 y.2.2.1 y.2.2.2.1 y.2.2.2.2.1 y.2.2.2.2.2) (x0, x2, x3, cd, dd, S)
def k_X5_close_64 (Q : cS → Prop) (dp : Nat) (mc ms : Nat)  (x0 : Nat) (x2 : Int32) (cd dd : Nat) (S : cS) : Prop :=
cA S x0 5 ∧ ((∃ mc1 ms2 : Nat, cd + mc1 ≤ mc ∧ dd + ms2 ≤ ms ∧ (k_X5_putBits (fun S_3 => 
k_X5_close_72L Q dp mc ms  x0 x2 (((nI 0))) (cd + mc1) (dd + ms2) S_3) dp mc1 ms2 x0 x2 ((nI 4)) S)))
def k_X5_close_46 (Q : cS → Prop) (dp : Nat) (mc ms : Nat) (R46 : Nat → Int32 → Int32 → Nat → Nat → cS → Prop) (x0 : Nat) (x1 : Int32) (x2 : Int32) (cd dd : Nat) (S : cS) : Prop :=
((((nI 15)) ≤ x2 →
  k_X5_close_64 Q dp mc ms  x0 x2 cd dd S) ∧
 (¬ ((nI 15)) ≤ x2 →
  ((((x1 >>> (x2 &&& 31))) = 0 →
    k_X5_close_64 Q dp mc ms  x0 x2 cd dd S) ∧
   (¬ ((x1 >>> (x2 &&& 31))) = 0 →
    ∀ x2_11 : Int32, x2_11 = x2 + nI 1 → R46 x0 x1 x2_11 cd dd S))))
def k_X5_close_46L (Q : cS → Prop) (dp : Nat) (mc ms : Nat)  (x0 : Nat) (x1 : Int32) (x2 : Int32) (cd dd : Nat) (S : cS) : Prop :=
  lfp (X := Nat × Int32 × Int32 × Nat × Nat × cS) (fun P y => k_X5_close_46 Q dp mc ms  (fun b0 b1 b2 b3 b4 S => P (b0, b1, b2, b3, b4, S)) y.1 y.2.1 y.2.2.1 y.2.2.2.1 y.2.2.2.2.1 y.2.2.2.2.2) (x0, x1, x2, cd, dd, S)
def k_X5_close_44 (Q : cS → Prop) (dp : Nat) (mc ms : Nat)  (x0 : Nat) (x1 : Int32) (cd dd : Nat) (S : cS) : Prop :=
k_X5_close_46L Q dp mc ms  x0 x1 (((nI 0))) cd dd S
def k_X5_close_12 (Q : cS → Prop) (dp : Nat) (mc ms : Nat) (R12 : Nat → Int32 → Int32 → Nat → Nat → cS → Prop) (x0 : Nat) (x1 : Int32) (x2 : Int32) (cd dd : Nat) (S : cS) : Prop :=
cA S x0 5 ∧ (((((ci S 166 x0)) ≤ x2 →
  k_X5_close_44 Q dp mc ms  x0 x1 cd dd S) ∧
 (¬ ((ci S 166 x0)) ≤ x2 →
  cA S x0 5 ∧ ((∃ b12 : Nat, cr S 165 x0 = some b12 ∧ (cA S b12 14 ∧ (((((nI (cn S b12))) ≤ x2 →
    k_X5_close_44 Q dp mc ms  x0 x1 cd dd S) ∧
   (¬ ((nI (cn S b12))) ≤ x2 →
    cA S x0 5 ∧ ((∃ b13 : Nat, cr S 165 x0 = some b13 ∧ (cX S b13 14 x2 ∧ (∀ x1_14 : Int32, x1_14 = (x1 ||| ((cI S b13 (x2).toNatClampNeg))) → ∀ x2_15 : Int32, x2_15 = x2 + nI 1 → R12 x0 x1_14 x2_15 cd dd S)))))))))))))
def k_X5_close_12L (Q : cS → Prop) (dp : Nat) (mc ms : Nat)  (x0 : Nat) (x1 : Int32) (x2 : Int32) (cd dd : Nat) (S : cS) : Prop :=
  lfp (X := Nat × Int32 × Int32 × Nat × Nat × cS) (fun P y => k_X5_close_12 Q dp mc ms  (fun b0 b1 b2 b3 b4 S => P (b0, b1, b2, b3, b4, S)) y.1 y.2.1 y.2.2.1 y.2.2.2.1 y.2.2.2.2.1 y.2.2.2.2.2) (x0, x1, x2, cd, dd, S)
def k_X5_close (Q : cS → Prop) (dp : Nat) (mc ms : Nat) (x0 : Nat) (S : cS) : Prop :=
cA S x0 5 ∧ (((¬ ((ci S 166 x0)) = 0 →
  k_X5_close_12L Q dp mc ms  x0 (((nI 0))) (((nI 0))) 0 0 S) ∧
 (((ci S 166 x0)) = 0 →
  (0 ≤ mc ∧ 0 ≤ ms) ∧ (Q S))))
section S_X5_close
variable {p : Program} {l : Launch} {e : Env} {s : State} {m : MethodId} {args : Array Value} {below : List Frame} {meth : Method} {c : Code} {A : Nat → Prop} {D : va_G} {Y : cY} {tp dp : Nat}
set_option maxRecDepth 20000 in
theorem tb_X5_close_106 {mc ms : Nat} (C : cC p s m args meth c cX5_close 4 none A D Y tp dp RX5) {post : cS → Prop}   (x0 : Nat) (cd dd : Nat) (S : cS) (h : k_X5_close_106 post dp mc ms  x0 cd dd S) : cG p l e (cRm 3 mc ms 64) s m args below meth c A D Y 4 (MQ below (cQv post D Y A) args s mc ms A) cd dd 106 [(0, .ref x0)] [] S := by
  unfold k_X5_close_106 at h
  refine cg_aload_n C (i := 0) rfl 0 rfl dX5_close_106 ?_
  refine cg_iconst C (x := nI 0) rfl dX5_close_107 ?_
  obtain ⟨hc_108, h⟩ := h
  refine cg_puti C (k := 5) (j := 6) (ty := tyX5) (fty := .int) hc_108.1 hc_108.2 (by decide) rfl (by decide) rfl (by decide) rfl cWs_wsX50 tyX5_ok nmX5 cl_X5_29 rfl rfl rfl rfl rfl dX5_close_108 ?_
  refine cg_nm (fun S4 e_S4 => ?_)
  have h := h S4 e_S4
  obtain ⟨hb_111, h⟩ := h
  exact cg_vret C h dX5_close_111 hb_111.1 hb_111.2
set_option maxRecDepth 20000 in
theorem tb_X5_close_72 {mc ms : Nat} (C : cC p s m args meth c cX5_close 4 none A D Y tp dp RX5) {post : cS → Prop} {R72 : Nat → Int32 → Int32 → Nat → Nat → cS → Prop} (hR72 : ∀ (x0 : Nat) (x2 : Int32) (x3 : Int32) (cd dd : Nat) (S : cS), R72 x0 x2 x3 cd dd S → cG p l e (cRm 3 mc ms 64) s m args below meth c A D Y 4 (MQ below (cQv post D Y A) args s mc ms A) cd dd 72 [(0, .ref x0), (2, .int x2), (3, .int x3)] [] S) (x0 : Nat) (x2 : Int32) (x3 : Int32) (cd dd : Nat) (S : cS) (h : k_X5_close_72 post dp mc ms R72 x0 x2 x3 cd dd S) : cG p l e (cRm 3 mc ms 64) s m args below meth c A D Y 4 (MQ below (cQv post D Y A) args s mc ms A) cd dd 72 [(0, .ref x0), (2, .int x2), (3, .int x3)] [] S := by
  unfold k_X5_close_72 at h
  refine cg_iload_n C (i := 3) rfl 2 rfl dX5_close_72 ?_
  refine cg_aload_n C (i := 0) rfl 0 rfl dX5_close_73 ?_
  obtain ⟨hc_74, h⟩ := h
  refine cg_get C (k := 5) (j := 6) (.int (ci S 166 x0)) hc_74.1 hc_74.2 (by decide) rfl (by decide) rfl rfl cWs_wsX50 cl_X5_29 rfl dX5_close_74 ?_
  refine cg_icmp_ge C 106 (by decide) dX5_close_77 (fun c_ => ?_) (fun c_ => ?_)
  · have h := h.1 c_
    exact cg_sub [0] rfl (tb_X5_close_106 C   x0 cd dd S h)
  · have h := h.2 c_
    refine cg_iload_n C (i := 3) rfl 2 rfl dX5_close_80 ?_
    refine cg_aload_n C (i := 0) rfl 0 rfl dX5_close_81 ?_
    obtain ⟨hc_82, h⟩ := h
    obtain ⟨b5, hb_b5, h⟩ := h
    refine cg_get C (k := 5) (j := 5) (.ref b5) hc_82.1 hc_82.2 (by decide) rfl (by decide) rfl (show cV _ 5 5 x0 = _ from congrArg va_rf hb_b5) cWs_wsX50 cl_X5_25 rfl dX5_close_82 ?_
    obtain ⟨hc_85, h⟩ := h
    refine cg_alen C hc_85.1 hc_85.2 (by decide) (by decide) dX5_close_85 ?_
    refine cg_icmp_ge C 106 (by decide) dX5_close_86 (fun c_ => ?_) (fun c_ => ?_)
    · have h := h.1 c_
      exact cg_sub [0] rfl (tb_X5_close_106 C   x0 cd dd S h)
    · have h := h.2 c_
      refine cg_aload_n C (i := 0) rfl 0 rfl dX5_close_89 ?_
      refine cg_aload_n C (i := 0) rfl 0 rfl dX5_close_90 ?_
      obtain ⟨hc_91, h⟩ := h
      obtain ⟨b6, hb_b6, h⟩ := h
      refine cg_get C (k := 5) (j := 5) (.ref b6) hc_91.1 hc_91.2 (by decide) rfl (by decide) rfl (show cV _ 5 5 x0 = _ from congrArg va_rf hb_b6) cWs_wsX50 cl_X5_25 rfl dX5_close_91 ?_
      refine cg_iload_n C (i := 3) rfl 2 rfl dX5_close_94 ?_
      obtain ⟨hc_95, h⟩ := h
      refine cg_ialoadR C hc_95 dX5_close_95 ?_
      refine cg_iload_n C (i := 2) rfl 1 rfl dX5_close_96 ?_
      obtain ⟨hc_97, h⟩ := h
      obtain ⟨mc7, ms8, hm_1, hm_2, h⟩ := h
      refine cg_callv C (t_X5_putBits l mc7 ms8 x0 ((cI S b6 (x3).toNatClampNeg)) x2 S dp h) cc_X5_63 hc_97.1 hc_97.2 (by decide) rfl rfl ⟨by decide, by decide⟩ ⟨hm_1, hm_2⟩ rfl (Nat.le_of_ble_eq_true rfl) dX5_close_97 (fun S_9 h => ?_)
      obtain ⟨x3_10, e_x3_10⟩ : ∃ z : Int32, z = x3 + nI 1 := ⟨_, rfl⟩
      have h := h x3_10 e_x3_10
      refine cg_iinc C (lv' := [(3, .int x3_10), (0, .ref x0), (2, .int x2)]) 2 rfl (by rw [e_x3_10]; rfl) (Nat.le_of_ble_eq_true rfl) rfl dX5_close_100 ?_
      refine cg_goto C 72 (by decide) dX5_close_103 ?_
      exact cg_sub [1, 2, 0] rfl (hR72 x0 x2 x3_10 (cd + mc7) (dd + ms8) S_9 h)
set_option maxRecDepth 20000 in
theorem tl_X5_close_72 {mc ms : Nat} (C : cC p s m args meth c cX5_close 4 none A D Y tp dp RX5) {post : cS → Prop}   (x0 : Nat) (x2 : Int32) (x3 : Int32) (cd dd : Nat) (S : cS) (h : k_X5_close_72L post dp mc ms  x0 x2 x3 cd dd S) : cG p l e (cRm 3 mc ms 64) s m args below meth c A D Y 4 (MQ below (cQv post D Y A) args s mc ms A) cd dd 72 [(0, .ref x0), (2, .int x2), (3, .int x3)] [] S :=
  h (fun y => cG p l e (cRm 3 mc ms 64) s m args below meth c A D Y 4 (MQ below (cQv post D Y A) args s mc ms A) (y.2.2.2.1) (y.2.2.2.2.1) 72 [(0, .ref (y.1)), (2, .int (y.2.1)), (3, .int (y.2.2.1))] [] (y.2.2.2.2.2)) (fun y hy => tb_X5_close_72 C   (fun b0 b1 b2 b3 b4 S z => z) (y.1) (y.2.1) (y.2.2.1) (y.2.2.2.1) (y.2.2.2.2.1) (y.2.2.2.2.2) hy)
set_option maxRecDepth 20000 in
theorem tb_X5_close_64 {mc ms : Nat} (C : cC p s m args meth c cX5_close 4 none A D Y tp dp RX5) {post : cS → Prop}   (x0 : Nat) (x2 : Int32) (cd dd : Nat) (S : cS) (h : k_X5_close_64 post dp mc ms  x0 x2 cd dd S) : cG p l e (cRm 3 mc ms 64) s m args below meth c A D Y 4 (MQ below (cQv post D Y A) args s mc ms A) cd dd 64 [(0, .ref x0), (2, .int x2)] [] S := by
  unfold k_X5_close_64 at h
  refine cg_aload_n C (i := 0) rfl 0 rfl dX5_close_64 ?_
  refine cg_iload_n C (i := 2) rfl 1 rfl dX5_close_65 ?_
  refine cg_iconst C (x := nI 4) rfl dX5_close_66 ?_
  obtain ⟨hc_67, h⟩ := h
  obtain ⟨mc1, ms2, hm_1, hm_2, h⟩ := h
  refine cg_callv C (t_X5_putBits l mc1 ms2 x0 x2 ((nI 4)) S dp h) cc_X5_63 hc_67.1 hc_67.2 (by decide) rfl rfl ⟨by decide, by decide⟩ ⟨hm_1, hm_2⟩ rfl (Nat.le_of_ble_eq_true rfl) dX5_close_67 (fun S_3 h => ?_)
  refine cg_iconst C (x := nI 0) rfl dX5_close_70 ?_
  refine cg_istore_n C (i := 3) (lv' := [(3, .int ((nI 0))), (0, .ref x0), (2, .int x2)]) rfl (Nat.le_of_ble_eq_true rfl) rfl dX5_close_71 ?_
  exact cg_sub [1, 2, 0] rfl (tl_X5_close_72 C   x0 x2 (((nI 0))) (cd + mc1) (dd + ms2) S_3 h)
set_option maxRecDepth 20000 in
theorem tb_X5_close_46 {mc ms : Nat} (C : cC p s m args meth c cX5_close 4 none A D Y tp dp RX5) {post : cS → Prop} {R46 : Nat → Int32 → Int32 → Nat → Nat → cS → Prop} (hR46 : ∀ (x0 : Nat) (x1 : Int32) (x2 : Int32) (cd dd : Nat) (S : cS), R46 x0 x1 x2 cd dd S → cG p l e (cRm 3 mc ms 64) s m args below meth c A D Y 4 (MQ below (cQv post D Y A) args s mc ms A) cd dd 46 [(0, .ref x0), (1, .int x1), (2, .int x2)] [] S) (x0 : Nat) (x1 : Int32) (x2 : Int32) (cd dd : Nat) (S : cS) (h : k_X5_close_46 post dp mc ms R46 x0 x1 x2 cd dd S) : cG p l e (cRm 3 mc ms 64) s m args below meth c A D Y 4 (MQ below (cQv post D Y A) args s mc ms A) cd dd 46 [(0, .ref x0), (1, .int x1), (2, .int x2)] [] S := by
  unfold k_X5_close_46 at h
  refine cg_iload_n C (i := 2) rfl 2 rfl dX5_close_46 ?_
  refine cg_bipush C (x := nI 15) rfl dX5_close_47 ?_
  refine cg_icmp_ge C 64 (by decide) dX5_close_49 (fun c_ => ?_) (fun c_ => ?_)
  · have h := h.1 c_
    exact cg_sub [0, 2] rfl (tb_X5_close_64 C   x0 x2 cd dd S h)
  · have h := h.2 c_
    refine cg_iload_n C (i := 1) rfl 1 rfl dX5_close_52 ?_
    refine cg_iload_n C (i := 2) rfl 2 rfl dX5_close_53 ?_
    refine cg_ishr C dX5_close_54 ?_
    refine cg_if_eq C 64 (by decide) dX5_close_55 (fun c_ => ?_) (fun c_ => ?_)
    · have h := h.1 c_
      exact cg_sub [0, 2] rfl (tb_X5_close_64 C   x0 x2 cd dd S h)
    · have h := h.2 c_
      obtain ⟨x2_11, e_x2_11⟩ : ∃ z : Int32, z = x2 + nI 1 := ⟨_, rfl⟩
      have h := h x2_11 e_x2_11
      refine cg_iinc C (lv' := [(2, .int x2_11), (0, .ref x0), (1, .int x1)]) 2 rfl (by rw [e_x2_11]; rfl) (Nat.le_of_ble_eq_true rfl) rfl dX5_close_58 ?_
      refine cg_goto C 46 (by decide) dX5_close_61 ?_
      exact cg_sub [1, 2, 0] rfl (hR46 x0 x1 x2_11 cd dd S h)
set_option maxRecDepth 20000 in
theorem tl_X5_close_46 {mc ms : Nat} (C : cC p s m args meth c cX5_close 4 none A D Y tp dp RX5) {post : cS → Prop}   (x0 : Nat) (x1 : Int32) (x2 : Int32) (cd dd : Nat) (S : cS) (h : k_X5_close_46L post dp mc ms  x0 x1 x2 cd dd S) : cG p l e (cRm 3 mc ms 64) s m args below meth c A D Y 4 (MQ below (cQv post D Y A) args s mc ms A) cd dd 46 [(0, .ref x0), (1, .int x1), (2, .int x2)] [] S :=
  h (fun y => cG p l e (cRm 3 mc ms 64) s m args below meth c A D Y 4 (MQ below (cQv post D Y A) args s mc ms A) (y.2.2.2.1) (y.2.2.2.2.1) 46 [(0, .ref (y.1)), (1, .int (y.2.1)), (2, .int (y.2.2.1))] [] (y.2.2.2.2.2)) (fun y hy => tb_X5_close_46 C   (fun b0 b1 b2 b3 b4 S z => z) (y.1) (y.2.1) (y.2.2.1) (y.2.2.2.1) (y.2.2.2.2.1) (y.2.2.2.2.2) hy)
set_option maxRecDepth 20000 in
theorem tb_X5_close_44 {mc ms : Nat} (C : cC p s m args meth c cX5_close 4 none A D Y tp dp RX5) {post : cS → Prop}   (x0 : Nat) (x1 : Int32) (cd dd : Nat) (S : cS) (h : k_X5_close_44 post dp mc ms  x0 x1 cd dd S) : cG p l e (cRm 3 mc ms 64) s m args below meth c A D Y 4 (MQ below (cQv post D Y A) args s mc ms A) cd dd 44 [(0, .ref x0), (1, .int x1)] [] S := by
  unfold k_X5_close_44 at h
  refine cg_iconst C (x := nI 0) rfl dX5_close_44 ?_
  refine cg_istore_n C (i := 2) (lv' := [(2, .int ((nI 0))), (0, .ref x0), (1, .int x1)]) rfl (Nat.le_of_ble_eq_true rfl) rfl dX5_close_45 ?_
  exact cg_sub [1, 2, 0] rfl (tl_X5_close_46 C   x0 x1 (((nI 0))) cd dd S h)
set_option maxRecDepth 20000 in
theorem tb_X5_close_12 {mc ms : Nat} (C : cC p s m args meth c cX5_close 4 none A D Y tp dp RX5) {post : cS → Prop} {R12 : Nat → Int32 → Int32 → Nat → Nat → cS → Prop} (hR12 : ∀ (x0 : Nat) (x1 : Int32) (x2 : Int32) (cd dd : Nat) (S : cS), R12 x0 x1 x2 cd dd S → cG p l e (cRm 3 mc ms 64) s m args below meth c A D Y 4 (MQ below (cQv post D Y A) args s mc ms A) cd dd 12 [(0, .ref x0), (1, .int x1), (2, .int x2)] [] S) (x0 : Nat) (x1 : Int32) (x2 : Int32) (cd dd : Nat) (S : cS) (h : k_X5_close_12 post dp mc ms R12 x0 x1 x2 cd dd S) : cG p l e (cRm 3 mc ms 64) s m args below meth c A D Y 4 (MQ below (cQv post D Y A) args s mc ms A) cd dd 12 [(0, .ref x0), (1, .int x1), (2, .int x2)] [] S := by
  unfold k_X5_close_12 at h
  refine cg_iload_n C (i := 2) rfl 2 rfl dX5_close_12 ?_
  refine cg_aload_n C (i := 0) rfl 0 rfl dX5_close_13 ?_
  obtain ⟨hc_14, h⟩ := h
  refine cg_get C (k := 5) (j := 6) (.int (ci S 166 x0)) hc_14.1 hc_14.2 (by decide) rfl (by decide) rfl rfl cWs_wsX50 cl_X5_29 rfl dX5_close_14 ?_
  refine cg_icmp_ge C 44 (by decide) dX5_close_17 (fun c_ => ?_) (fun c_ => ?_)
  · have h := h.1 c_
    exact cg_sub [0, 1] rfl (tb_X5_close_44 C   x0 x1 cd dd S h)
  · have h := h.2 c_
    refine cg_iload_n C (i := 2) rfl 2 rfl dX5_close_20 ?_
    refine cg_aload_n C (i := 0) rfl 0 rfl dX5_close_21 ?_
    obtain ⟨hc_22, h⟩ := h
    obtain ⟨b12, hb_b12, h⟩ := h
    refine cg_get C (k := 5) (j := 5) (.ref b12) hc_22.1 hc_22.2 (by decide) rfl (by decide) rfl (show cV _ 5 5 x0 = _ from congrArg va_rf hb_b12) cWs_wsX50 cl_X5_25 rfl dX5_close_22 ?_
    obtain ⟨hc_25, h⟩ := h
    refine cg_alen C hc_25.1 hc_25.2 (by decide) (by decide) dX5_close_25 ?_
    refine cg_icmp_ge C 44 (by decide) dX5_close_26 (fun c_ => ?_) (fun c_ => ?_)
    · have h := h.1 c_
      exact cg_sub [0, 1] rfl (tb_X5_close_44 C   x0 x1 cd dd S h)
    · have h := h.2 c_
      refine cg_iload_n C (i := 1) rfl 1 rfl dX5_close_29 ?_
      refine cg_aload_n C (i := 0) rfl 0 rfl dX5_close_30 ?_
      obtain ⟨hc_31, h⟩ := h
      obtain ⟨b13, hb_b13, h⟩ := h
      refine cg_get C (k := 5) (j := 5) (.ref b13) hc_31.1 hc_31.2 (by decide) rfl (by decide) rfl (show cV _ 5 5 x0 = _ from congrArg va_rf hb_b13) cWs_wsX50 cl_X5_25 rfl dX5_close_31 ?_
      refine cg_iload_n C (i := 2) rfl 2 rfl dX5_close_34 ?_
      obtain ⟨hc_35, h⟩ := h
      refine cg_ialoadR C hc_35 dX5_close_35 ?_
      refine cg_ior C dX5_close_36 ?_
      refine cg_nmI (fun x1_14 e_x1_14 => ?_)
      have h := h x1_14 e_x1_14
      refine cg_istore_n C (i := 1) (lv' := [(1, .int x1_14), (0, .ref x0), (2, .int x2)]) rfl (Nat.le_of_ble_eq_true rfl) rfl dX5_close_37 ?_
      obtain ⟨x2_15, e_x2_15⟩ : ∃ z : Int32, z = x2 + nI 1 := ⟨_, rfl⟩
      have h := h x2_15 e_x2_15
      refine cg_iinc C (lv' := [(2, .int x2_15), (1, .int x1_14), (0, .ref x0)]) 2 rfl (by rw [e_x2_15]; rfl) (Nat.le_of_ble_eq_true rfl) rfl dX5_close_38 ?_
      refine cg_goto C 12 (by decide) dX5_close_41 ?_
      exact cg_sub [2, 1, 0] rfl (hR12 x0 x1_14 x2_15 cd dd S h)
set_option maxRecDepth 20000 in
theorem tl_X5_close_12 {mc ms : Nat} (C : cC p s m args meth c cX5_close 4 none A D Y tp dp RX5) {post : cS → Prop}   (x0 : Nat) (x1 : Int32) (x2 : Int32) (cd dd : Nat) (S : cS) (h : k_X5_close_12L post dp mc ms  x0 x1 x2 cd dd S) : cG p l e (cRm 3 mc ms 64) s m args below meth c A D Y 4 (MQ below (cQv post D Y A) args s mc ms A) cd dd 12 [(0, .ref x0), (1, .int x1), (2, .int x2)] [] S :=
  h (fun y => cG p l e (cRm 3 mc ms 64) s m args below meth c A D Y 4 (MQ below (cQv post D Y A) args s mc ms A) (y.2.2.2.1) (y.2.2.2.2.1) 12 [(0, .ref (y.1)), (1, .int (y.2.1)), (2, .int (y.2.2.1))] [] (y.2.2.2.2.2)) (fun y hy => tb_X5_close_12 C   (fun b0 b1 b2 b3 b4 S z => z) (y.1) (y.2.1) (y.2.2.1) (y.2.2.2.1) (y.2.2.2.2.1) (y.2.2.2.2.2) hy)
end S_X5_close
set_option maxHeartbeats 1000000 in
set_option maxRecDepth 20000 in
theorem t_X5_close (l : Launch) (mc ms : Nat) (x0 : Nat) (S : cS) (dp : Nat) {P : cS → Prop} (h : k_X5_close P dp mc ms x0 S) : cMet (cQv P) l yX5_close cX5_close 4 none 3 mc ms 64 [.ref x0] S dp := by
  intro D Y tp sz
  refine cg_body (by decide +kernel) (Nat.le_of_ble_eq_true rfl) ?_
  intro p e s m args below meth c C
  generalize va_A (cWd Y S) sz = A at C ⊢
  have C : cC p s m args meth c cX5_close 4 none A D Y tp dp RX5 := C
  refine cg_lv (lv' := [(0, .ref x0)]) rfl ?_
  unfold k_X5_close at h
  refine cg_aload_n C (i := 0) rfl 0 rfl dX5_close_0 ?_
  obtain ⟨hc_1, h⟩ := h
  refine cg_get C (k := 5) (j := 6) (.int (ci S 166 x0)) hc_1.1 hc_1.2 (by decide) rfl (by decide) rfl rfl cWs_wsX50 cl_X5_29 rfl dX5_close_1 ?_
  refine cg_if_ne C 8 (by decide) dX5_close_4 (fun c_ => ?_) (fun c_ => ?_)
  · have h := h.1 c_
    refine cg_iconst C (x := nI 0) rfl dX5_close_8 ?_
    refine cg_istore_n C (i := 1) (lv' := [(1, .int ((nI 0))), (0, .ref x0)]) rfl (Nat.le_of_ble_eq_true rfl) rfl dX5_close_9 ?_
    refine cg_iconst C (x := nI 0) rfl dX5_close_10 ?_
    refine cg_istore_n C (i := 2) (lv' := [(2, .int ((nI 0))), (1, .int ((nI 0))), (0, .ref x0)]) rfl (Nat.le_of_ble_eq_true rfl) rfl dX5_close_11 ?_
    exact cg_sub [2, 1, 0] rfl (tl_X5_close_12 C   x0 (((nI 0))) (((nI 0))) 0 0 S h)
  · have h := h.2 c_
    obtain ⟨hb_7, h⟩ := h
    exact cg_vret C h dX5_close_7 hb_7.1 hb_7.2
def k_X5_putNumber_32 (Q : cS → Prop) (dp : Nat) (mc ms : Nat)  (x0 : Nat) (cd dd : Nat) (S : cS) : Prop :=
cA S x0 5 ∧ (((¬ ((ci S 166 x0)) = ((nI 4)) →
  (cd ≤ mc ∧ dd ≤ ms) ∧ (Q S)) ∧
 (((ci S 166 x0)) = ((nI 4)) →
  cA S x0 5 ∧ ((∃ mc2 ms3 : Nat, cd + mc2 ≤ mc ∧ dd + ms3 ≤ ms ∧ (k_X5_close (fun S_4 => 
  (cd + mc2 ≤ mc ∧ dd + ms3 ≤ ms) ∧ (Q S_4)) dp mc2 ms3 x0 S))))))
def k_X5_putNumber (Q : cS → Prop) (dp : Nat) (mc ms : Nat) (x0 : Nat) (x1 : Int32) (S : cS) : Prop :=
cA S x0 5 ∧ (cA S x0 5 ∧ ((∃ b1 : Nat, cr S 165 x0 = some b1 ∧ (cA S b1 14 ∧ (((((nI (cn S b1))) ≤ ((ci S 166 x0)) →
  k_X5_putNumber_32 Q dp mc ms  x0 0 0 S) ∧
 (¬ ((nI (cn S b1))) ≤ ((ci S 166 x0)) →
  cA S x0 5 ∧ ((∃ b5 : Nat, cr S 165 x0 = some b5 ∧ (cA S x0 5 ∧ (cX S b5 14 ((ci S 166 x0)) ∧ (∀ S6 : cS, S6 = cSI S b5 ((ci S 166 x0)).toNatClampNeg x1 → cA S6 x0 5 ∧ (cA S6 x0 5 ∧ (∀ S7 : cS, S7 = cSi S6 166 x0 ((((ci S6 166 x0)) + ((nI 1)))) → k_X5_putNumber_32 Q dp mc ms  x0 0 0 S7))))))))))))))
section S_X5_putNumber
variable {p : Program} {l : Launch} {e : Env} {s : State} {m : MethodId} {args : Array Value} {below : List Frame} {meth : Method} {c : Code} {A : Nat → Prop} {D : va_G} {Y : cY} {tp dp : Nat}
set_option maxRecDepth 20000 in
theorem tb_X5_putNumber_32 {mc ms : Nat} (C : cC p s m args meth c cX5_putNumber 2 none A D Y tp dp RX5) {post : cS → Prop}   (x0 : Nat) (cd dd : Nat) (S : cS) (h : k_X5_putNumber_32 post dp mc ms  x0 cd dd S) : cG p l e (cRm 4 mc ms 87) s m args below meth c A D Y 2 (MQ below (cQv post D Y A) args s mc ms A) cd dd 32 [(0, .ref x0)] [] S := by
  unfold k_X5_putNumber_32 at h
  refine cg_aload_n C (i := 0) rfl 0 rfl dX5_putNumber_32 ?_
  obtain ⟨hc_33, h⟩ := h
  refine cg_get C (k := 5) (j := 6) (.int (ci S 166 x0)) hc_33.1 hc_33.2 (by decide) rfl (by decide) rfl rfl cWs_wsX50 cl_X5_29 rfl dX5_putNumber_33 ?_
  refine cg_iconst C (x := nI 4) rfl dX5_putNumber_36 ?_
  refine cg_icmp_ne C 44 (by decide) dX5_putNumber_37 (fun c_ => ?_) (fun c_ => ?_)
  · have h := h.1 c_
    obtain ⟨hb_44, h⟩ := h
    exact cg_vret C h dX5_putNumber_44 hb_44.1 hb_44.2
  · have h := h.2 c_
    refine cg_aload_n C (i := 0) rfl 0 rfl dX5_putNumber_40 ?_
    obtain ⟨hc_41, h⟩ := h
    obtain ⟨mc2, ms3, hm_1, hm_2, h⟩ := h
    refine cg_callv C (t_X5_close l mc2 ms3 x0 S dp h) cc_X5_60 hc_41.1 hc_41.2 (by decide) rfl rfl ⟨by decide, by decide⟩ ⟨hm_1, hm_2⟩ rfl (Nat.le_of_ble_eq_true rfl) dX5_putNumber_41 (fun S_4 h => ?_)
    obtain ⟨hb_44, h⟩ := h
    exact cg_vret C h dX5_putNumber_44 hb_44.1 hb_44.2
end S_X5_putNumber
set_option maxHeartbeats 1000000 in
set_option maxRecDepth 20000 in
theorem t_X5_putNumber (l : Launch) (mc ms : Nat) (x0 : Nat) (x1 : Int32) (S : cS) (dp : Nat) {P : cS → Prop} (h : k_X5_putNumber P dp mc ms x0 x1 S) : cMet (cQv P) l yX5_putNumber cX5_putNumber 2 none 4 mc ms 87 [.ref x0, .int x1] S dp := by
  intro D Y tp sz
  refine cg_body (by decide +kernel) (Nat.le_of_ble_eq_true rfl) ?_
  intro p e s m args below meth c C
  generalize va_A (cWd Y S) sz = A at C ⊢
  have C : cC p s m args meth c cX5_putNumber 2 none A D Y tp dp RX5 := C
  refine cg_lv (lv' := [(0, .ref x0), (1, .int x1)]) rfl ?_
  unfold k_X5_putNumber at h
  refine cg_aload_n C (i := 0) rfl 0 rfl dX5_putNumber_0 ?_
  obtain ⟨hc_1, h⟩ := h
  refine cg_get C (k := 5) (j := 6) (.int (ci S 166 x0)) hc_1.1 hc_1.2 (by decide) rfl (by decide) rfl rfl cWs_wsX50 cl_X5_29 rfl dX5_putNumber_1 ?_
  refine cg_aload_n C (i := 0) rfl 0 rfl dX5_putNumber_4 ?_
  obtain ⟨hc_5, h⟩ := h
  obtain ⟨b1, hb_b1, h⟩ := h
  refine cg_get C (k := 5) (j := 5) (.ref b1) hc_5.1 hc_5.2 (by decide) rfl (by decide) rfl (show cV _ 5 5 x0 = _ from congrArg va_rf hb_b1) cWs_wsX50 cl_X5_25 rfl dX5_putNumber_5 ?_
  obtain ⟨hc_8, h⟩ := h
  refine cg_alen C hc_8.1 hc_8.2 (by decide) (by decide) dX5_putNumber_8 ?_
  refine cg_icmp_ge C 32 (by decide) dX5_putNumber_9 (fun c_ => ?_) (fun c_ => ?_)
  · have h := h.1 c_
    exact cg_sub [0] rfl (tb_X5_putNumber_32 C   x0 0 0 S h)
  · have h := h.2 c_
    refine cg_aload_n C (i := 0) rfl 0 rfl dX5_putNumber_12 ?_
    obtain ⟨hc_13, h⟩ := h
    obtain ⟨b5, hb_b5, h⟩ := h
    refine cg_get C (k := 5) (j := 5) (.ref b5) hc_13.1 hc_13.2 (by decide) rfl (by decide) rfl (show cV _ 5 5 x0 = _ from congrArg va_rf hb_b5) cWs_wsX50 cl_X5_25 rfl dX5_putNumber_13 ?_
    refine cg_aload_n C (i := 0) rfl 0 rfl dX5_putNumber_16 ?_
    obtain ⟨hc_17, h⟩ := h
    refine cg_get C (k := 5) (j := 6) (.int (ci S 166 x0)) hc_17.1 hc_17.2 (by decide) rfl (by decide) rfl rfl cWs_wsX50 cl_X5_29 rfl dX5_putNumber_17 ?_
    refine cg_iload_n C (i := 1) rfl 1 rfl dX5_putNumber_20 ?_
    obtain ⟨hc_21, h⟩ := h
    refine cg_iastoreR C hc_21 dX5_putNumber_21 ?_
    refine cg_nm (fun S6 e_S6 => ?_)
    have h := h S6 e_S6
    refine cg_aload_n C (i := 0) rfl 0 rfl dX5_putNumber_22 ?_
    refine cg_dup C rfl dX5_putNumber_23 ?_
    obtain ⟨hc_24, h⟩ := h
    refine cg_get C (k := 5) (j := 6) (.int (ci S6 166 x0)) hc_24.1 hc_24.2 (by decide) rfl (by decide) rfl rfl cWs_wsX50 cl_X5_29 rfl dX5_putNumber_24 ?_
    refine cg_iconst C (x := nI 1) rfl dX5_putNumber_27 ?_
    refine cg_iadd C dX5_putNumber_28 ?_
    obtain ⟨hc_29, h⟩ := h
    refine cg_puti C (k := 5) (j := 6) (ty := tyX5) (fty := .int) hc_29.1 hc_29.2 (by decide) rfl (by decide) rfl (by decide) rfl cWs_wsX50 tyX5_ok nmX5 cl_X5_29 rfl rfl rfl rfl rfl dX5_putNumber_29 ?_
    refine cg_nm (fun S7 e_S7 => ?_)
    have h := h S7 e_S7
    exact cg_sub [0] rfl (tb_X5_putNumber_32 C   x0 0 0 S7 h)
def k_X5_putDocument_56 (Q : cS → Prop) (dp : Nat) (mc ms : Nat) (R27 : Nat → Int32 → Int32 → Int32 → Int32 → Nat → Nat → cS → Prop) (x0 : Nat) (x1 : Int32) (x2 : Int32) (x3 : Int32) (x4 : Int32) (cd dd : Nat) (S : cS) : Prop :=
∀ x4_11 : Int32, x4_11 = x4 + nI 1 → R27 x0 x1 x2 x3 x4_11 cd dd S
def k_X5_putDocument_27 (Q : cS → Prop) (dp : Nat) (mc ms : Nat) (R27 : Nat → Int32 → Int32 → Int32 → Int32 → Nat → Nat → cS → Prop) (x0 : Nat) (x1 : Int32) (x2 : Int32) (x3 : Int32) (x4 : Int32) (cd dd : Nat) (S : cS) : Prop :=
((((nI 20)) ≤ x4 →
  cA S x0 5 ∧ (∀ S9 : cS, S9 = cSi S 164 x0 x1 → cA S9 x0 5 ∧ (cA S9 x0 5 ∧ (∀ S10 : cS, S10 = cSi S9 163 x0 ((((ci S9 163 x0)) + ((nI 1)))) → (cd ≤ mc ∧ dd ≤ ms) ∧ (Q S10))))) ∧
 (¬ ((nI 20)) ≤ x4 →
  ((((((x2 >>> (x4 &&& 31))) &&& ((nI 1)))) = 0 →
    k_X5_putDocument_56 Q dp mc ms R27 x0 x1 x2 x3 x4 cd dd S) ∧
   (¬ ((((x2 >>> (x4 &&& 31))) &&& ((nI 1)))) = 0 →
    cA S x0 5 ∧ ((∃ mc12 ms13 : Nat, cd + mc12 ≤ mc ∧ dd + ms13 ≤ ms ∧ (k_X5_putNumber (fun S_14 => 
    k_X5_putDocument_56 Q dp mc ms R27 x0 x1 x2 x4 x4 (cd + mc12) (dd + ms13) S_14) dp mc12 ms13 x0 ((((x4 - x3)) - ((nI 1)))) S)))))))
def k_X5_putDocument_27L (Q : cS → Prop) (dp : Nat) (mc ms : Nat)  (x0 : Nat) (x1 : Int32) (x2 : Int32) (x3 : Int32) (x4 : Int32) (cd dd : Nat) (S : cS) : Prop :=
  lfp (X := Nat × Int32 × Int32 × Int32 × Int32 × Nat × Nat × cS) (fun P y => k_X5_putDocument_27 Q dp mc ms  (fun b0 b1 b2 b3 b4 b5 b6 S => P (b0, b1, b2, b3, b4, b5, b6, S)) y.1 y.2.1 y.2.2.1 y.2.2.2.1 y.2.2.2.2.1 y.2.2.2.2.2.1 y.2.2.2.2.2.2.1 y.2.2.2.2.2.2.2) (x0, x1, x2, x3, x4, cd, dd, S)
def k_X5_putDocument (Q : cS → Prop) (dp : Nat) (mc ms : Nat) (x0 : Nat) (x1 : Int32) (x2 : Int32) (S : cS) : Prop :=
cA S x0 5 ∧ (cA S x0 5 ∧ ((∃ mc1 ms2 : Nat, 0 + mc1 ≤ mc ∧ 0 + ms2 ≤ ms ∧ (k_X5_putNumber (fun S_3 => 
(0 + mc1 ≤ mc ∧ 0 + ms2 ≤ ms) ∧ (k_J6_bitCount_0f7a4 (fun r_4 S_4 => 
cA S_4 x0 5 ∧ ((∃ mc5 ms6 : Nat, 0 + mc1 + mc5 ≤ mc ∧ 0 + ms2 + ms6 ≤ ms ∧ (k_X5_putNumber (fun S_7 => 
∀ x3_8 : Int32, x3_8 = ((-1)) → k_X5_putDocument_27L Q dp mc ms  x0 x1 x2 x3_8 (((nI 0))) (0 + mc1 + mc5) (0 + ms2 + ms6) S_7) dp mc5 ms6 x0 ((r_4 - ((nI 1)))) S_4)))) dp x2 S_3)) dp mc1 ms2 x0 ((((x1 - ((ci S 164 x0)))) - ((nI 1)))) S))))
section S_X5_putDocument
variable {p : Program} {l : Launch} {e : Env} {s : State} {m : MethodId} {args : Array Value} {below : List Frame} {meth : Method} {c : Code} {A : Nat → Prop} {D : va_G} {Y : cY} {tp dp : Nat}
set_option maxRecDepth 20000 in
theorem tb_X5_putDocument_56 {mc ms : Nat} (C : cC p s m args meth c cX5_putDocument 5 none A D Y tp dp RX5) {post : cS → Prop} {R27 : Nat → Int32 → Int32 → Int32 → Int32 → Nat → Nat → cS → Prop} (hR27 : ∀ (x0 : Nat) (x1 : Int32) (x2 : Int32) (x3 : Int32) (x4 : Int32) (cd dd : Nat) (S : cS), R27 x0 x1 x2 x3 x4 cd dd S → cG p l e (cRm 5 mc ms 108) s m args below meth c A D Y 5 (MQ below (cQv post D Y A) args s mc ms A) cd dd 27 [(0, .ref x0), (1, .int x1), (2, .int x2), (3, .int x3), (4, .int x4)] [] S) (x0 : Nat) (x1 : Int32) (x2 : Int32) (x3 : Int32) (x4 : Int32) (cd dd : Nat) (S : cS) (h : k_X5_putDocument_56 post dp mc ms R27 x0 x1 x2 x3 x4 cd dd S) : cG p l e (cRm 5 mc ms 108) s m args below meth c A D Y 5 (MQ below (cQv post D Y A) args s mc ms A) cd dd 56 [(0, .ref x0), (1, .int x1), (2, .int x2), (3, .int x3), (4, .int x4)] [] S := by
  unfold k_X5_putDocument_56 at h
  obtain ⟨x4_11, e_x4_11⟩ : ∃ z : Int32, z = x4 + nI 1 := ⟨_, rfl⟩
  have h := h x4_11 e_x4_11
  refine cg_iinc C (lv' := [(4, .int x4_11), (0, .ref x0), (1, .int x1), (2, .int x2), (3, .int x3)]) 4 rfl (by rw [e_x4_11]; rfl) (Nat.le_of_ble_eq_true rfl) rfl dX5_putDocument_56 ?_
  refine cg_goto C 27 (by decide) dX5_putDocument_59 ?_
  exact cg_sub [1, 2, 3, 4, 0] rfl (hR27 x0 x1 x2 x3 x4_11 cd dd S h)
set_option maxRecDepth 20000 in
theorem tb_X5_putDocument_27 {mc ms : Nat} (C : cC p s m args meth c cX5_putDocument 5 none A D Y tp dp RX5) {post : cS → Prop} {R27 : Nat → Int32 → Int32 → Int32 → Int32 → Nat → Nat → cS → Prop} (hR27 : ∀ (x0 : Nat) (x1 : Int32) (x2 : Int32) (x3 : Int32) (x4 : Int32) (cd dd : Nat) (S : cS), R27 x0 x1 x2 x3 x4 cd dd S → cG p l e (cRm 5 mc ms 108) s m args below meth c A D Y 5 (MQ below (cQv post D Y A) args s mc ms A) cd dd 27 [(0, .ref x0), (1, .int x1), (2, .int x2), (3, .int x3), (4, .int x4)] [] S) (x0 : Nat) (x1 : Int32) (x2 : Int32) (x3 : Int32) (x4 : Int32) (cd dd : Nat) (S : cS) (h : k_X5_putDocument_27 post dp mc ms R27 x0 x1 x2 x3 x4 cd dd S) : cG p l e (cRm 5 mc ms 108) s m args below meth c A D Y 5 (MQ below (cQv post D Y A) args s mc ms A) cd dd 27 [(0, .ref x0), (1, .int x1), (2, .int x2), (3, .int x3), (4, .int x4)] [] S := by
  unfold k_X5_putDocument_27 at h
  refine cg_iload C 4 rfl dX5_putDocument_27 ?_
  refine cg_bipush C (x := nI 20) rfl dX5_putDocument_29 ?_
  refine cg_icmp_ge C 62 (by decide) dX5_putDocument_31 (fun c_ => ?_) (fun c_ => ?_)
  · have h := h.1 c_
    refine cg_aload_n C (i := 0) rfl 0 rfl dX5_putDocument_62 ?_
    refine cg_iload_n C (i := 1) rfl 1 rfl dX5_putDocument_63 ?_
    obtain ⟨hc_64, h⟩ := h
    refine cg_puti C (k := 5) (j := 4) (ty := tyX5) (fty := .int) hc_64.1 hc_64.2 (by decide) rfl (by decide) rfl (by decide) rfl cWs_wsX50 tyX5_ok nmX5 cl_X5_22 rfl rfl rfl rfl rfl dX5_putDocument_64 ?_
    refine cg_nm (fun S9 e_S9 => ?_)
    have h := h S9 e_S9
    refine cg_aload_n C (i := 0) rfl 0 rfl dX5_putDocument_67 ?_
    refine cg_dup C rfl dX5_putDocument_68 ?_
    obtain ⟨hc_69, h⟩ := h
    refine cg_get C (k := 5) (j := 3) (.int (ci S9 163 x0)) hc_69.1 hc_69.2 (by decide) rfl (by decide) rfl rfl cWs_wsX50 cl_X5_19 rfl dX5_putDocument_69 ?_
    refine cg_iconst C (x := nI 1) rfl dX5_putDocument_72 ?_
    refine cg_iadd C dX5_putDocument_73 ?_
    obtain ⟨hc_74, h⟩ := h
    refine cg_puti C (k := 5) (j := 3) (ty := tyX5) (fty := .int) hc_74.1 hc_74.2 (by decide) rfl (by decide) rfl (by decide) rfl cWs_wsX50 tyX5_ok nmX5 cl_X5_19 rfl rfl rfl rfl rfl dX5_putDocument_74 ?_
    refine cg_nm (fun S10 e_S10 => ?_)
    have h := h S10 e_S10
    obtain ⟨hb_77, h⟩ := h
    exact cg_vret C h dX5_putDocument_77 hb_77.1 hb_77.2
  · have h := h.2 c_
    refine cg_iload_n C (i := 2) rfl 2 rfl dX5_putDocument_34 ?_
    refine cg_iload C 4 rfl dX5_putDocument_35 ?_
    refine cg_ishr C dX5_putDocument_37 ?_
    refine cg_iconst C (x := nI 1) rfl dX5_putDocument_38 ?_
    refine cg_iand C dX5_putDocument_39 ?_
    refine cg_if_eq C 56 (by decide) dX5_putDocument_40 (fun c_ => ?_) (fun c_ => ?_)
    · have h := h.1 c_
      exact cg_sub [0, 1, 2, 3, 4] rfl (tb_X5_putDocument_56 C  hR27 x0 x1 x2 x3 x4 cd dd S h)
    · have h := h.2 c_
      refine cg_aload_n C (i := 0) rfl 0 rfl dX5_putDocument_43 ?_
      refine cg_iload C 4 rfl dX5_putDocument_44 ?_
      refine cg_iload_n C (i := 3) rfl 3 rfl dX5_putDocument_46 ?_
      refine cg_isub C dX5_putDocument_47 ?_
      refine cg_iconst C (x := nI 1) rfl dX5_putDocument_48 ?_
      refine cg_isub C dX5_putDocument_49 ?_
      obtain ⟨hc_50, h⟩ := h
      obtain ⟨mc12, ms13, hm_1, hm_2, h⟩ := h
      refine cg_callv C (t_X5_putNumber l mc12 ms13 x0 ((((x4 - x3)) - ((nI 1)))) S dp h) cc_X5_51 hc_50.1 hc_50.2 (by decide) rfl rfl ⟨by decide, by decide⟩ ⟨hm_1, hm_2⟩ rfl (Nat.le_of_ble_eq_true rfl) dX5_putDocument_50 (fun S_14 h => ?_)
      refine cg_iload C 4 rfl dX5_putDocument_53 ?_
      refine cg_istore_n C (i := 3) (lv' := [(3, .int x4), (0, .ref x0), (1, .int x1), (2, .int x2), (4, .int x4)]) rfl (Nat.le_of_ble_eq_true rfl) rfl dX5_putDocument_55 ?_
      exact cg_sub [1, 2, 3, 0, 4] rfl (tb_X5_putDocument_56 C  hR27 x0 x1 x2 x4 x4 (cd + mc12) (dd + ms13) S_14 h)
set_option maxRecDepth 20000 in
theorem tl_X5_putDocument_27 {mc ms : Nat} (C : cC p s m args meth c cX5_putDocument 5 none A D Y tp dp RX5) {post : cS → Prop}   (x0 : Nat) (x1 : Int32) (x2 : Int32) (x3 : Int32) (x4 : Int32) (cd dd : Nat) (S : cS) (h : k_X5_putDocument_27L post dp mc ms  x0 x1 x2 x3 x4 cd dd S) : cG p l e (cRm 5 mc ms 108) s m args below meth c A D Y 5 (MQ below (cQv post D Y A) args s mc ms A) cd dd 27 [(0, .ref x0), (1, .int x1), (2, .int x2), (3, .int x3), (4, .int x4)] [] S :=
  h (fun y => cG p l e (cRm 5 mc ms 108) s m args below meth c A D Y 5 (MQ below (cQv post D Y A) args s mc ms A) (y.2.2.2.2.2.1) (y.2.2.2.2.2.2.1) 27 [(0, .ref (y.1)), (1, .int (y.2.1)), (2, .int (y.2.2.1)), (3, .int (y.2.2.2.1)), (4, .int (y.2.2.2.2.1))] [] (y.2.2.2.2.2.2.2)) (fun y hy => tb_X5_putDocument_27 C   (fun b0 b1 b2 b3 b4 b5 b6 S z => z) (y.1) (y.2.1) (y.2.2.1) (y.2.2.2.1) (y.2.2.2.2.1) (y.2.2.2.2.2.1) (y.2.2.2.2.2.2.1) (y.2.2.2.2.2.2.2) hy)
end S_X5_putDocument
set_option maxHeartbeats 1000000 in
set_option maxRecDepth 20000 in
theorem t_X5_putDocument (l : Launch) (mc ms : Nat) (x0 : Nat) (x1 : Int32) (x2 : Int32) (S : cS) (dp : Nat) {P : cS → Prop} (h : k_X5_putDocument P dp mc ms x0 x1 x2 S) : cMet (cQv P) l yX5_putDocument cX5_putDocument 5 none 5 mc ms 108 [.ref x0, .int x1, .int x2] S dp := by
  intro D Y tp sz
  refine cg_body (by decide +kernel) (Nat.le_of_ble_eq_true rfl) ?_
  intro p e s m args below meth c C
  generalize va_A (cWd Y S) sz = A at C ⊢
  have C : cC p s m args meth c cX5_putDocument 5 none A D Y tp dp RX5 := C
  refine cg_lv (lv' := [(0, .ref x0), (1, .int x1), (2, .int x2)]) rfl ?_
  unfold k_X5_putDocument at h
  refine cg_aload_n C (i := 0) rfl 0 rfl dX5_putDocument_0 ?_
  refine cg_iload_n C (i := 1) rfl 1 rfl dX5_putDocument_1 ?_
  refine cg_aload_n C (i := 0) rfl 0 rfl dX5_putDocument_2 ?_
  obtain ⟨hc_3, h⟩ := h
  refine cg_get C (k := 5) (j := 4) (.int (ci S 164 x0)) hc_3.1 hc_3.2 (by decide) rfl (by decide) rfl rfl cWs_wsX50 cl_X5_22 rfl dX5_putDocument_3 ?_
  refine cg_isub C dX5_putDocument_6 ?_
  refine cg_iconst C (x := nI 1) rfl dX5_putDocument_7 ?_
  refine cg_isub C dX5_putDocument_8 ?_
  obtain ⟨hc_9, h⟩ := h
  obtain ⟨mc1, ms2, hm_1, hm_2, h⟩ := h
  refine cg_callv C (t_X5_putNumber l mc1 ms2 x0 ((((x1 - ((ci S 164 x0)))) - ((nI 1)))) S dp h) cc_X5_51 hc_9.1 hc_9.2 (by decide) rfl rfl ⟨by decide, by decide⟩ ⟨hm_1, hm_2⟩ rfl (Nat.le_of_ble_eq_true rfl) dX5_putDocument_9 (fun S_3 h => ?_)
  refine cg_aload_n C (i := 0) rfl 0 rfl dX5_putDocument_12 ?_
  refine cg_iload_n C (i := 2) rfl 2 rfl dX5_putDocument_13 ?_
  obtain ⟨hb_14, h⟩ := h
  refine cg_callsi C (t_J6_bitCount_0f7a4 l x2 S_3 dp h) cc_X5_55 rfl ⟨by decide, by decide⟩ hb_14 rfl (Nat.le_of_ble_eq_true rfl) dX5_putDocument_14 (fun r_4 S_4 h => ?_)
  simp only [Nat.add_zero]
  refine cg_iconst C (x := nI 1) rfl dX5_putDocument_17 ?_
  refine cg_isub C dX5_putDocument_18 ?_
  obtain ⟨hc_19, h⟩ := h
  obtain ⟨mc5, ms6, hm_1, hm_2, h⟩ := h
  refine cg_callv C (t_X5_putNumber l mc5 ms6 x0 ((r_4 - ((nI 1)))) S_4 dp h) cc_X5_51 hc_19.1 hc_19.2 (by decide) rfl rfl ⟨by decide, by decide⟩ ⟨hm_1, hm_2⟩ rfl (Nat.le_of_ble_eq_true rfl) dX5_putDocument_19 (fun S_7 h => ?_)
  refine cg_iconst C (x := (-1)) rfl dX5_putDocument_22 ?_
  refine cg_nmI (fun x3_8 e_x3_8 => ?_)
  have h := h x3_8 e_x3_8
  refine cg_istore_n C (i := 3) (lv' := [(3, .int x3_8), (0, .ref x0), (1, .int x1), (2, .int x2)]) rfl (Nat.le_of_ble_eq_true rfl) rfl dX5_putDocument_23 ?_
  refine cg_iconst C (x := nI 0) rfl dX5_putDocument_24 ?_
  refine cg_istore C (lv' := [(4, .int ((nI 0))), (3, .int x3_8), (0, .ref x0), (1, .int x1), (2, .int x2)]) (Nat.le_of_ble_eq_true rfl) rfl dX5_putDocument_25 ?_
  exact cg_sub [2, 3, 4, 1, 0] rfl (tl_X5_putDocument_27 C   x0 x1 x2 x3_8 (((nI 0))) (0 + mc1 + mc5) (0 + ms2 + ms6) S_7 h)
def k_Jxa1e45_init_da8c8 (Q : cS → Prop) (dp : Nat) (x0 : Nat) (S : cS) : Prop :=
Q S
set_option maxHeartbeats 1000000 in
set_option maxRecDepth 20000 in
theorem t_Jxa1e45_init_da8c8 (l : Launch) (x0 : Nat) (S : cS) (dp : Nat) {P : cS → Prop} (h : k_Jxa1e45_init_da8c8 P dp x0 S) : cMet (cQv P) l yJxa1e45_init_da8c8 cJxa1e45_init_da8c8 1 none 1 0 0 32 [.ref x0] S dp := by
  intro D Y tp sz
  refine cg_bodyI (by decide +kernel) (Nat.le_of_ble_eq_true rfl) ?_
  intro p e s m args below meth c C hin
  generalize va_A (cWd Y S) sz = A at C ⊢
  have C : cC p s m args meth c cJxa1e45_init_da8c8 1 none A D Y tp dp RJxa1e45 := C
  refine cg_lv (lv' := [(0, .ref x0)]) rfl ?_
  unfold k_Jxa1e45_init_da8c8 at h
  refine cg_aload_n C (i := 0) rfl 0 rfl dJxa1e45_init_da8c8_0 ?_
  refine cg_objInit C co_Jxa1e45_1 co_i co_c (by decide) (Nat.le_of_ble_eq_true rfl) dJxa1e45_init_da8c8_1 ?_
  exact cg_vret C h dJxa1e45_init_da8c8_4 (by decide) (by decide)
def k_Jxc12de_init_da8c8 (Q : cS → Prop) (dp : Nat) (x0 : Nat) (S : cS) : Prop :=
k_Jxa1e45_init_da8c8 (fun S_1 => 
cA S_1 x0 12 ∧ (∀ S2 : cS, S2 = cSi S_1 384 x0 ((nI 0)) → Q S2)) dp x0 S
set_option maxHeartbeats 1000000 in
set_option maxRecDepth 20000 in
theorem t_Jxc12de_init_da8c8 (l : Launch) (x0 : Nat) (S : cS) (dp : Nat) {P : cS → Prop} (h : k_Jxc12de_init_da8c8 P dp x0 S) : cMet (cQv P) l yJxc12de_init_da8c8 cJxc12de_init_da8c8 1 none 2 0 0 52 [.ref x0] S dp := by
  intro D Y tp sz
  refine cg_bodyI (by decide +kernel) (Nat.le_of_ble_eq_true rfl) ?_
  intro p e s m args below meth c C hin
  generalize va_A (cWd Y S) sz = A at C ⊢
  have C : cC p s m args meth c cJxc12de_init_da8c8 1 none A D Y tp dp RJxc12de := C
  refine cg_lv (lv' := [(0, .ref x0)]) rfl ?_
  unfold k_Jxc12de_init_da8c8 at h
  refine cg_aload_n C (i := 0) rfl 0 rfl dJxc12de_init_da8c8_0 ?_
  refine cg_callI C (t_Jxa1e45_init_da8c8 l x0 S dp h) cz_Jxc12de_1 rfl ⟨by decide, by decide⟩ ⟨by decide, by decide⟩ rfl (Nat.le_of_ble_eq_true rfl) dJxc12de_init_da8c8_1 (fun S_1 h => ?_)
  refine cg_aload_n C (i := 0) rfl 0 rfl dJxc12de_init_da8c8_4 ?_
  refine cg_iconst C (x := nI 0) rfl dJxc12de_init_da8c8_5 ?_
  obtain ⟨hc_6, h⟩ := h
  refine cg_putiS C (k := 12) (j := 0) (ty := tyJx4a65c) (fty := .int) hc_6.1 hc_6.2 (by decide) rfl (by decide) rfl (by decide) rfl cWs_wsJx4a65c0 tyJx4a65c_ok nmJx4a65c cl_modA (Or.inl rfl) rfl rfl rfl rfl dJxc12de_init_da8c8_6 ?_
  refine cg_nm (fun S2 e_S2 => ?_)
  have h := h S2 e_S2
  exact cg_vret C h dJxc12de_init_da8c8_9 (by decide) (by decide)
def k_Jx4a65c_init_da8c8 (Q : cS → Prop) (dp : Nat) (x0 : Nat) (S : cS) : Prop :=
k_Jxc12de_init_da8c8 (fun S_1 => 
cA S_1 x0 12 ∧ (∀ S2 : cS, S2 = cSr S_1 385 x0 ((some dp)) → Q S2)) dp x0 S
set_option maxHeartbeats 1000000 in
set_option maxRecDepth 20000 in
theorem t_Jx4a65c_init_da8c8 (l : Launch) (x0 : Nat) (S : cS) (dp : Nat) {P : cS → Prop} (h : k_Jx4a65c_init_da8c8 P dp x0 S) : cMet (cQv P) l yJx4a65c_init_da8c8 cJx4a65c_init_da8c8 1 none 3 0 0 72 [.ref x0] S dp := by
  intro D Y tp sz
  refine cg_bodyI (by decide +kernel) (Nat.le_of_ble_eq_true rfl) ?_
  intro p e s m args below meth c C hin
  generalize va_A (cWd Y S) sz = A at C ⊢
  have C : cC p s m args meth c cJx4a65c_init_da8c8 1 none A D Y tp dp RJx4a65c := C
  refine cg_lv (lv' := [(0, .ref x0)]) rfl ?_
  unfold k_Jx4a65c_init_da8c8 at h
  refine cg_aload_n C (i := 0) rfl 0 rfl dJx4a65c_init_da8c8_0 ?_
  refine cg_callI C (t_Jxc12de_init_da8c8 l x0 S dp h) cz_Jx4a65c_1 rfl ⟨by decide, by decide⟩ ⟨by decide, by decide⟩ rfl (Nat.le_of_ble_eq_true rfl) dJx4a65c_init_da8c8_1 (fun S_1 h => ?_)
  refine cg_aload_n C (i := 0) rfl 0 rfl dJx4a65c_init_da8c8_4 ?_
  refine cg_dflt C cl_dflt_39 dJx4a65c_init_da8c8_5 ?_
  obtain ⟨hc_8, h⟩ := h
  refine cg_putr C (k := 12) (j := 1) (x := (some dp)) (ty := tyJx4a65c) (fty := tyJx4a65c 1) hc_8.1 hc_8.2 (by decide) rfl (by decide) rfl (by decide) rfl cWs_wsJx4a65c0 tyJx4a65c_ok nmJx4a65c cl_Jx4a65c_9 rfl rfl rfl rfl rfl dJx4a65c_init_da8c8_8 ?_
  refine cg_nm (fun S2 e_S2 => ?_)
  have h := h S2 e_S2
  exact cg_vret C h dJx4a65c_init_da8c8_11 (by decide) (by decide)
def k_X6_init (Q : cS → Prop) (dp : Nat) (mc ms : Nat) (x0 : Nat) (S : cS) : Prop :=
(0 + 1 ≤ mc ∧ 0 + 3 ≤ ms) ∧ (∀ q1 : Nat, q1 ∉ cL S → ∀ S2 : cS, S2 = cNew S q1 12 → (0 + 1 ≤ mc ∧ 0 + 3 ≤ ms) ∧ (k_Jx4a65c_init_da8c8 (fun S_3 => 
cA S_3 x0 6 ∧ (∀ S4 : cS, S4 = cSr S_3 192 x0 ((some q1)) → (0 + 1 + 1 ≤ mc ∧ 0 + 3 + 3 ≤ ms) ∧ (∀ q5 : Nat, q5 ∉ cL S4 → ∀ S6 : cS, S6 = cNew S4 q5 12 → (0 + 1 + 1 ≤ mc ∧ 0 + 3 + 3 ≤ ms) ∧ (k_Jx4a65c_init_da8c8 (fun S_7 => 
cA S_7 x0 6 ∧ (∀ S8 : cS, S8 = cSr S_7 193 x0 ((some q5)) → (∃ n9 : Nat, (nI 8) = nI n9 ∧ n9 < 2 ^ 20 ∧ 0 + 1 + 1 + 1 ≤ mc ∧ 0 + 3 + 3 + n9 ≤ ms ∧ (∀ q10 : Nat, q10 ∉ cL S8 → ∀ S11 : cS, S11 = cNewA S8 q10 14 n9 → cA S11 x0 6 ∧ (∀ S12 : cS, S12 = cSr S11 194 x0 ((some q10)) → cA S12 x0 6 ∧ (∀ S13 : cS, S13 = cSi S12 195 x0 ((nI 0)) → (∃ n14 : Nat, (nI 8) = nI n14 ∧ n14 < 2 ^ 20 ∧ 0 + 1 + 1 + 1 + 1 ≤ mc ∧ 0 + 3 + 3 + n9 + n14 ≤ ms ∧ (∀ q15 : Nat, q15 ∉ cL S13 → ∀ S16 : cS, S16 = cNewA S13 q15 14 n14 → cA S16 x0 6 ∧ (∀ S17 : cS, S17 = cSr S16 196 x0 ((some q15)) → (0 + 1 + 1 + 1 + 1 ≤ mc ∧ 0 + 3 + 3 + n9 + n14 ≤ ms) ∧ (Q S17)))))))))) dp q5 S6)))) dp q1 S2))
set_option maxHeartbeats 1000000 in
set_option maxRecDepth 20000 in
theorem t_X6_init (l : Launch) (mc ms : Nat) (x0 : Nat) (S : cS) (dp : Nat) {P : cS → Prop} (h : k_X6_init P dp mc ms x0 S) : cMet (cQv P) l yX6_init cX6_init 1 none 4 mc ms 92 [.ref x0] S dp := by
  intro D Y tp sz
  refine cg_bodyI (by decide +kernel) (Nat.le_of_ble_eq_true rfl) ?_
  intro p e s m args below meth c C hin
  generalize va_A (cWd Y S) sz = A at C ⊢
  have C : cC p s m args meth c cX6_init 1 none A D Y tp dp RX6 := C
  refine cg_lv (lv' := [(0, .ref x0)]) rfl ?_
  unfold k_X6_init at h
  refine cg_aload_n C (i := 0) rfl 0 rfl dX6_init_0 ?_
  refine cg_objInit C co_X6_3 co_i co_c (by decide) (Nat.le_of_ble_eq_true rfl) dX6_init_1 ?_
  refine cg_aload_n C (i := 0) rfl 0 rfl dX6_init_4 ?_
  obtain ⟨hc_5, h⟩ := h
  refine cg_new C (k := 12) (N := 3) (fs := [.int 0, .null, .int 0]) (by decide) rfl cWs_wsJx4a65c0 tyJx4a65c_ok cn_X6_9 ci_Jx4a65c ct_Jx4a65c (fun j_ hj_ => by rcases (show j_ = 0 ∨ j_ = 1 ∨ j_ = 2 by omega) with rfl | rfl | rfl <;> rfl) rfl hc_5.1 hc_5.2 dX6_init_5 (fun q1 hf_q1 => ?_)
  have h := h q1 hf_q1
  refine cg_nm (fun S2 e_S2 => ?_)
  have h := h S2 e_S2
  refine cg_dup C rfl dX6_init_8 ?_
  obtain ⟨hb_9, h⟩ := h
  refine cg_callI C (t_Jx4a65c_init_da8c8 l q1 S2 dp h) cz_X6_11 rfl ⟨by decide, by decide⟩ hb_9 rfl (Nat.le_of_ble_eq_true rfl) dX6_init_9 (fun S_3 h => ?_)
  simp only [Nat.add_zero]
  obtain ⟨hc_12, h⟩ := h
  refine cg_putrF C (k := 6) (j := 0) (x := (some q1)) (ty := tyX6) (fty := tyX6 0) hc_12.1 hc_12.2 (by decide) rfl (by decide) rfl (by decide) rfl cWs_wsX60 tyX6_ok nmX6 cl_X6_12 rfl rfl hin rfl rfl rfl rfl dX6_init_12 ?_
  refine cg_nm (fun S4 e_S4 => ?_)
  have h := h S4 e_S4
  refine cg_aload_n C (i := 0) rfl 0 rfl dX6_init_15 ?_
  obtain ⟨hc_16, h⟩ := h
  refine cg_new C (k := 12) (N := 3) (fs := [.int 0, .null, .int 0]) (by decide) rfl cWs_wsJx4a65c0 tyJx4a65c_ok cn_X6_9 ci_Jx4a65c ct_Jx4a65c (fun j_ hj_ => by rcases (show j_ = 0 ∨ j_ = 1 ∨ j_ = 2 by omega) with rfl | rfl | rfl <;> rfl) rfl hc_16.1 hc_16.2 dX6_init_16 (fun q5 hf_q5 => ?_)
  have h := h q5 hf_q5
  refine cg_nm (fun S6 e_S6 => ?_)
  have h := h S6 e_S6
  refine cg_dup C rfl dX6_init_19 ?_
  obtain ⟨hb_20, h⟩ := h
  refine cg_callI C (t_Jx4a65c_init_da8c8 l q5 S6 dp h) cz_X6_11 rfl ⟨by decide, by decide⟩ hb_20 rfl (Nat.le_of_ble_eq_true rfl) dX6_init_20 (fun S_7 h => ?_)
  simp only [Nat.add_zero]
  obtain ⟨hc_23, h⟩ := h
  refine cg_putrF C (k := 6) (j := 1) (x := (some q5)) (ty := tyX6) (fty := tyX6 1) hc_23.1 hc_23.2 (by decide) rfl (by decide) rfl (by decide) rfl cWs_wsX60 tyX6_ok nmX6 cl_X6_18 rfl rfl hin rfl rfl rfl rfl dX6_init_23 ?_
  refine cg_nm (fun S8 e_S8 => ?_)
  have h := h S8 e_S8
  refine cg_aload_n C (i := 0) rfl 0 rfl dX6_init_26 ?_
  refine cg_bipush C (x := nI 8) rfl dX6_init_27 ?_
  obtain ⟨n9, hn_1, hn_2, hn_3, hn_4, h⟩ := h
  refine cg_cast (.int (nI n9)) (congrArg Value.int hn_1) ?_
  refine cg_newI C n9 hn_2 ca_int hn_3 hn_4 dX6_init_29 (fun q10 hf_q10 => ?_)
  have h := h q10 hf_q10
  refine cg_nm (fun S11 e_S11 => ?_)
  have h := h S11 e_S11
  obtain ⟨hc_31, h⟩ := h
  refine cg_putrF C (k := 6) (j := 2) (x := (some q10)) (ty := tyX6) (fty := tyX6 2) hc_31.1 hc_31.2 (by decide) rfl (by decide) rfl (by decide) rfl cWs_wsX60 tyX6_ok nmX6 cl_X6_21 rfl rfl hin rfl rfl rfl rfl dX6_init_31 ?_
  refine cg_nm (fun S12 e_S12 => ?_)
  have h := h S12 e_S12
  refine cg_aload_n C (i := 0) rfl 0 rfl dX6_init_34 ?_
  refine cg_iconst C (x := nI 0) rfl dX6_init_35 ?_
  obtain ⟨hc_36, h⟩ := h
  refine cg_puti C (k := 6) (j := 3) (ty := tyX6) (fty := .int) hc_36.1 hc_36.2 (by decide) rfl (by decide) rfl (by decide) rfl cWs_wsX60 tyX6_ok nmX6 cl_X6_25 rfl rfl rfl rfl rfl dX6_init_36 ?_
  refine cg_nm (fun S13 e_S13 => ?_)
  have h := h S13 e_S13
  refine cg_aload_n C (i := 0) rfl 0 rfl dX6_init_39 ?_
  refine cg_bipush C (x := nI 8) rfl dX6_init_40 ?_
  obtain ⟨n14, hn_1, hn_2, hn_3, hn_4, h⟩ := h
  refine cg_cast (.int (nI n14)) (congrArg Value.int hn_1) ?_
  refine cg_newI C n14 hn_2 ca_int hn_3 hn_4 dX6_init_42 (fun q15 hf_q15 => ?_)
  have h := h q15 hf_q15
  refine cg_nm (fun S16 e_S16 => ?_)
  have h := h S16 e_S16
  obtain ⟨hc_44, h⟩ := h
  refine cg_putrF C (k := 6) (j := 4) (x := (some q15)) (ty := tyX6) (fty := tyX6 4) hc_44.1 hc_44.2 (by decide) rfl (by decide) rfl (by decide) rfl cWs_wsX60 tyX6_ok nmX6 cl_X6_29 rfl rfl hin rfl rfl rfl rfl dX6_init_44 ?_
  refine cg_nm (fun S17 e_S17 => ?_)
  have h := h S17 e_S17
  obtain ⟨hb_47, h⟩ := h
  exact cg_vret C h dX6_init_47 hb_47.1 hb_47.2
def k_X6_putLeaf_56 (Q : Int32 → cS → Prop) (dp : Nat) (mc ms : Nat)  (x0 : Nat) (cd dd : Nat) (S : cS) : Prop :=
cA S x0 6 ∧ ((cd ≤ mc ∧ dd ≤ ms) ∧ (Q ((ci S 195 x0)) S))
def k_X6_putLeaf (Q : Int32 → cS → Prop) (dp : Nat) (mc ms : Nat) (x0 : Nat) (x1 : Nat) (S : cS) : Prop :=
cA S x0 6 ∧ (cA S x0 6 ∧ ((∃ b1 : Nat, cr S 194 x0 = some b1 ∧ (cA S b1 14 ∧ (((((nI (cn S b1))) ≤ ((ci S 195 x0)) →
  k_X6_putLeaf_56 Q dp mc ms  x0 0 0 S) ∧
 (¬ ((nI (cn S b1))) ≤ ((ci S 195 x0)) →
  cA S x0 6 ∧ ((∃ b2 : Nat, cr S 194 x0 = some b2 ∧ (cA S x0 6 ∧ (cA S x0 6 ∧ ((∃ b3 : Nat, cr S 192 x0 = some b3 ∧ (cA S b3 12 ∧ ((0 ≤ mc ∧ 0 ≤ ms) ∧ (k_Jx4a65c_size_8abf5 (fun r_4 S_4 => 
  cX S_4 b2 14 ((ci S 195 x0)) ∧ (∀ S5 : cS, S5 = cSI S_4 b2 ((ci S 195 x0)).toNatClampNeg r_4 → cA S5 x0 6 ∧ (cA S5 x0 6 ∧ (∀ S6 : cS, S6 = cSi S5 195 x0 ((((ci S5 195 x0)) + ((nI 1)))) → cA S6 x0 6 ∧ ((∃ b7 : Nat, cr S6 192 x0 = some b7 ∧ (cA S6 b7 12 ∧ ((∃ mc8 ms9 : Nat, 0 + mc8 ≤ mc ∧ 0 + ms9 ≤ ms ∧ (k_Jx4a65c_add_9ea2d (fun r_10 S_10 => 
  cA S_10 x0 6 ∧ ((∃ b11 : Nat, cr S_10 193 x0 = some b11 ∧ (cA S_10 b11 12 ∧ ((∃ mc12 ms13 : Nat, 0 + mc8 + mc12 ≤ mc ∧ 0 + ms9 + ms13 ≤ ms ∧ (k_Jx4a65c_add_9ea2d (fun r_14 S_14 => 
  k_X6_putLeaf_56 Q dp mc ms  x0 (0 + mc8 + mc12) (0 + ms9 + ms13) S_14) dp mc12 ms13 b11 x1 S_10))))))) dp mc8 ms9 b7 x1 S6)))))))))) dp b3 S))))))))))))))))
section S_X6_putLeaf
variable {p : Program} {l : Launch} {e : Env} {s : State} {m : MethodId} {args : Array Value} {below : List Frame} {meth : Method} {c : Code} {A : Nat → Prop} {D : va_G} {Y : cY} {tp dp : Nat}
set_option maxRecDepth 20000 in
theorem tb_X6_putLeaf_56 {mc ms : Nat} (C : cC p s m args meth c cX6_putLeaf 2 (some .int) A D Y tp dp RX6) {post : Int32 → cS → Prop}   (x0 : Nat) (cd dd : Nat) (S : cS) (h : k_X6_putLeaf_56 post dp mc ms  x0 cd dd S) : cG p l e (cRm 8 mc ms 188) s m args below meth c A D Y 2 (MQ below (cQi post D Y A) args s mc ms A) cd dd 56 [(0, .ref x0)] [] S := by
  unfold k_X6_putLeaf_56 at h
  refine cg_aload_n C (i := 0) rfl 0 rfl dX6_putLeaf_56 ?_
  obtain ⟨hc_57, h⟩ := h
  refine cg_get C (k := 6) (j := 3) (.int (ci S 195 x0)) hc_57.1 hc_57.2 (by decide) rfl (by decide) rfl rfl cWs_wsX60 cl_X6_25 rfl dX6_putLeaf_57 ?_
  obtain ⟨hb_60, h⟩ := h
  exact cg_iret C h dX6_putLeaf_60 hb_60.1 hb_60.2
end S_X6_putLeaf
set_option maxHeartbeats 1000000 in
set_option maxRecDepth 20000 in
theorem t_X6_putLeaf (l : Launch) (mc ms : Nat) (x0 : Nat) (x1 : Nat) (S : cS) (dp : Nat) {P : Int32 → cS → Prop} (h : k_X6_putLeaf P dp mc ms x0 x1 S) : cMet (cQi P) l yX6_putLeaf cX6_putLeaf 2 (some .int) 8 mc ms 188 [.ref x0, .ref x1] S dp := by
  intro D Y tp sz
  refine cg_body (by decide +kernel) (Nat.le_of_ble_eq_true rfl) ?_
  intro p e s m args below meth c C
  generalize va_A (cWd Y S) sz = A at C ⊢
  have C : cC p s m args meth c cX6_putLeaf 2 (some .int) A D Y tp dp RX6 := C
  refine cg_lv (lv' := [(0, .ref x0), (1, .ref x1)]) rfl ?_
  unfold k_X6_putLeaf at h
  refine cg_aload_n C (i := 0) rfl 0 rfl dX6_putLeaf_0 ?_
  obtain ⟨hc_1, h⟩ := h
  refine cg_get C (k := 6) (j := 3) (.int (ci S 195 x0)) hc_1.1 hc_1.2 (by decide) rfl (by decide) rfl rfl cWs_wsX60 cl_X6_25 rfl dX6_putLeaf_1 ?_
  refine cg_aload_n C (i := 0) rfl 0 rfl dX6_putLeaf_4 ?_
  obtain ⟨hc_5, h⟩ := h
  obtain ⟨b1, hb_b1, h⟩ := h
  refine cg_get C (k := 6) (j := 2) (.ref b1) hc_5.1 hc_5.2 (by decide) rfl (by decide) rfl (show cV _ 6 2 x0 = _ from congrArg va_rf hb_b1) cWs_wsX60 cl_X6_21 rfl dX6_putLeaf_5 ?_
  obtain ⟨hc_8, h⟩ := h
  refine cg_alen C hc_8.1 hc_8.2 (by decide) (by decide) dX6_putLeaf_8 ?_
  refine cg_icmp_ge C 56 (by decide) dX6_putLeaf_9 (fun c_ => ?_) (fun c_ => ?_)
  · have h := h.1 c_
    exact cg_sub [0] rfl (tb_X6_putLeaf_56 C   x0 0 0 S h)
  · have h := h.2 c_
    refine cg_aload_n C (i := 0) rfl 0 rfl dX6_putLeaf_12 ?_
    obtain ⟨hc_13, h⟩ := h
    obtain ⟨b2, hb_b2, h⟩ := h
    refine cg_get C (k := 6) (j := 2) (.ref b2) hc_13.1 hc_13.2 (by decide) rfl (by decide) rfl (show cV _ 6 2 x0 = _ from congrArg va_rf hb_b2) cWs_wsX60 cl_X6_21 rfl dX6_putLeaf_13 ?_
    refine cg_aload_n C (i := 0) rfl 0 rfl dX6_putLeaf_16 ?_
    obtain ⟨hc_17, h⟩ := h
    refine cg_get C (k := 6) (j := 3) (.int (ci S 195 x0)) hc_17.1 hc_17.2 (by decide) rfl (by decide) rfl rfl cWs_wsX60 cl_X6_25 rfl dX6_putLeaf_17 ?_
    refine cg_aload_n C (i := 0) rfl 0 rfl dX6_putLeaf_20 ?_
    obtain ⟨hc_21, h⟩ := h
    obtain ⟨b3, hb_b3, h⟩ := h
    refine cg_get C (k := 6) (j := 0) (.ref b3) hc_21.1 hc_21.2 (by decide) rfl (by decide) rfl (show cV _ 6 0 x0 = _ from congrArg va_rf hb_b3) cWs_wsX60 cl_X6_12 rfl dX6_putLeaf_21 ?_
    obtain ⟨hc_24, h⟩ := h
    obtain ⟨hb_24, h⟩ := h
    refine cg_calli C (t_Jx4a65c_size_8abf5 l b3 S dp h) cc_X6_32 hc_24.1 hc_24.2 (by decide) rfl rfl ⟨by decide, by decide⟩ hb_24 rfl (Nat.le_of_ble_eq_true rfl) dX6_putLeaf_24 (fun r_4 S_4 h => ?_)
    simp only [Nat.add_zero]
    obtain ⟨hc_27, h⟩ := h
    refine cg_iastoreR C hc_27 dX6_putLeaf_27 ?_
    refine cg_nm (fun S5 e_S5 => ?_)
    have h := h S5 e_S5
    refine cg_aload_n C (i := 0) rfl 0 rfl dX6_putLeaf_28 ?_
    refine cg_dup C rfl dX6_putLeaf_29 ?_
    obtain ⟨hc_30, h⟩ := h
    refine cg_get C (k := 6) (j := 3) (.int (ci S5 195 x0)) hc_30.1 hc_30.2 (by decide) rfl (by decide) rfl rfl cWs_wsX60 cl_X6_25 rfl dX6_putLeaf_30 ?_
    refine cg_iconst C (x := nI 1) rfl dX6_putLeaf_33 ?_
    refine cg_iadd C dX6_putLeaf_34 ?_
    obtain ⟨hc_35, h⟩ := h
    refine cg_puti C (k := 6) (j := 3) (ty := tyX6) (fty := .int) hc_35.1 hc_35.2 (by decide) rfl (by decide) rfl (by decide) rfl cWs_wsX60 tyX6_ok nmX6 cl_X6_25 rfl rfl rfl rfl rfl dX6_putLeaf_35 ?_
    refine cg_nm (fun S6 e_S6 => ?_)
    have h := h S6 e_S6
    refine cg_aload_n C (i := 0) rfl 0 rfl dX6_putLeaf_38 ?_
    obtain ⟨hc_39, h⟩ := h
    obtain ⟨b7, hb_b7, h⟩ := h
    refine cg_get C (k := 6) (j := 0) (.ref b7) hc_39.1 hc_39.2 (by decide) rfl (by decide) rfl (show cV _ 6 0 x0 = _ from congrArg va_rf hb_b7) cWs_wsX60 cl_X6_12 rfl dX6_putLeaf_39 ?_
    refine cg_aload_n C (i := 1) rfl 1 rfl dX6_putLeaf_42 ?_
    obtain ⟨hc_43, h⟩ := h
    obtain ⟨mc8, ms9, hm_1, hm_2, h⟩ := h
    refine cg_calli C (t_Jx4a65c_add_9ea2d l mc8 ms9 b7 x1 S6 dp h) cc_X6_36 hc_43.1 hc_43.2 (by decide) rfl rfl ⟨by decide, by decide⟩ ⟨hm_1, hm_2⟩ rfl (Nat.le_of_ble_eq_true rfl) dX6_putLeaf_43 (fun r_10 S_10 h => ?_)
    refine cg_pop C rfl dX6_putLeaf_46 ?_
    refine cg_aload_n C (i := 0) rfl 0 rfl dX6_putLeaf_47 ?_
    obtain ⟨hc_48, h⟩ := h
    obtain ⟨b11, hb_b11, h⟩ := h
    refine cg_get C (k := 6) (j := 1) (.ref b11) hc_48.1 hc_48.2 (by decide) rfl (by decide) rfl (show cV _ 6 1 x0 = _ from congrArg va_rf hb_b11) cWs_wsX60 cl_X6_18 rfl dX6_putLeaf_48 ?_
    refine cg_aload_n C (i := 1) rfl 1 rfl dX6_putLeaf_51 ?_
    obtain ⟨hc_52, h⟩ := h
    obtain ⟨mc12, ms13, hm_1, hm_2, h⟩ := h
    refine cg_calli C (t_Jx4a65c_add_9ea2d l mc12 ms13 b11 x1 S_10 dp h) cc_X6_36 hc_52.1 hc_52.2 (by decide) rfl rfl ⟨by decide, by decide⟩ ⟨hm_1, hm_2⟩ rfl (Nat.le_of_ble_eq_true rfl) dX6_putLeaf_52 (fun r_14 S_14 h => ?_)
    refine cg_pop C rfl dX6_putLeaf_55 ?_
    exact cg_sub [0] rfl (tb_X6_putLeaf_56 C   x0 (0 + mc8 + mc12) (0 + ms9 + ms13) S_14 h)
def k_X6_putGroup_35 (Q : Int32 → cS → Prop) (dp : Nat) (mc ms : Nat)  (x0 : Nat) (cd dd : Nat) (S : cS) : Prop :=
cA S x0 6 ∧ ((cd ≤ mc ∧ dd ≤ ms) ∧ (Q ((ci S 195 x0)) S))
def k_X6_putGroup (Q : Int32 → cS → Prop) (dp : Nat) (mc ms : Nat) (x0 : Nat) (x1 : Nat) (S : cS) : Prop :=
cA S x1 4 ∧ (cA S x0 6 ∧ (((((ci S 195 x0)) < ((ci S 132 x1)) →
  k_X6_putGroup_35 Q dp mc ms  x0 0 0 S) ∧
 (¬ ((ci S 195 x0)) < ((ci S 132 x1)) →
  cA S x0 6 ∧ (cA S x1 4 ∧ (cA S x0 6 ∧ (∀ S1 : cS, S1 = cSi S 195 x0 ((((ci S 195 x0)) - ((((ci S 132 x1)) - ((nI 1)))))) → cA S1 x0 6 ∧ ((∃ b2 : Nat, cr S1 192 x0 = some b2 ∧ (cA S1 b2 12 ∧ ((∃ mc3 ms4 : Nat, 0 + mc3 ≤ mc ∧ 0 + ms4 ≤ ms ∧ (k_Jx4a65c_add_9ea2d (fun r_5 S_5 => 
  k_X6_putGroup_35 Q dp mc ms  x0 (0 + mc3) (0 + ms4) S_5) dp mc3 ms4 b2 x1 S1)))))))))))))
section S_X6_putGroup
variable {p : Program} {l : Launch} {e : Env} {s : State} {m : MethodId} {args : Array Value} {below : List Frame} {meth : Method} {c : Code} {A : Nat → Prop} {D : va_G} {Y : cY} {tp dp : Nat}
set_option maxRecDepth 20000 in
theorem tb_X6_putGroup_35 {mc ms : Nat} (C : cC p s m args meth c cX6_putGroup 2 (some .int) A D Y tp dp RX6) {post : Int32 → cS → Prop}   (x0 : Nat) (cd dd : Nat) (S : cS) (h : k_X6_putGroup_35 post dp mc ms  x0 cd dd S) : cG p l e (cRm 8 mc ms 188) s m args below meth c A D Y 2 (MQ below (cQi post D Y A) args s mc ms A) cd dd 35 [(0, .ref x0)] [] S := by
  unfold k_X6_putGroup_35 at h
  refine cg_aload_n C (i := 0) rfl 0 rfl dX6_putGroup_35 ?_
  obtain ⟨hc_36, h⟩ := h
  refine cg_get C (k := 6) (j := 3) (.int (ci S 195 x0)) hc_36.1 hc_36.2 (by decide) rfl (by decide) rfl rfl cWs_wsX60 cl_X6_25 rfl dX6_putGroup_36 ?_
  obtain ⟨hb_39, h⟩ := h
  exact cg_iret C h dX6_putGroup_39 hb_39.1 hb_39.2
end S_X6_putGroup
set_option maxHeartbeats 1000000 in
set_option maxRecDepth 20000 in
theorem t_X6_putGroup (l : Launch) (mc ms : Nat) (x0 : Nat) (x1 : Nat) (S : cS) (dp : Nat) {P : Int32 → cS → Prop} (h : k_X6_putGroup P dp mc ms x0 x1 S) : cMet (cQi P) l yX6_putGroup cX6_putGroup 2 (some .int) 8 mc ms 188 [.ref x0, .ref x1] S dp := by
  intro D Y tp sz
  refine cg_body (by decide +kernel) (Nat.le_of_ble_eq_true rfl) ?_
  intro p e s m args below meth c C
  generalize va_A (cWd Y S) sz = A at C ⊢
  have C : cC p s m args meth c cX6_putGroup 2 (some .int) A D Y tp dp RX6 := C
  refine cg_lv (lv' := [(0, .ref x0), (1, .ref x1)]) rfl ?_
  unfold k_X6_putGroup at h
  refine cg_aload_n C (i := 1) rfl 1 rfl dX6_putGroup_0 ?_
  obtain ⟨hc_1, h⟩ := h
  refine cg_get C (k := 4) (j := 4) (.int (ci S 132 x1)) hc_1.1 hc_1.2 (by decide) rfl (by decide) rfl rfl cWs_wsX40 cl_X6_40 rfl dX6_putGroup_1 ?_
  refine cg_aload_n C (i := 0) rfl 0 rfl dX6_putGroup_4 ?_
  obtain ⟨hc_5, h⟩ := h
  refine cg_get C (k := 6) (j := 3) (.int (ci S 195 x0)) hc_5.1 hc_5.2 (by decide) rfl (by decide) rfl rfl cWs_wsX60 cl_X6_25 rfl dX6_putGroup_5 ?_
  refine cg_icmp_gt C 35 (by decide) dX6_putGroup_8 (fun c_ => ?_) (fun c_ => ?_)
  · have h := h.1 c_
    exact cg_sub [0] rfl (tb_X6_putGroup_35 C   x0 0 0 S h)
  · have h := h.2 c_
    refine cg_aload_n C (i := 0) rfl 0 rfl dX6_putGroup_11 ?_
    refine cg_dup C rfl dX6_putGroup_12 ?_
    obtain ⟨hc_13, h⟩ := h
    refine cg_get C (k := 6) (j := 3) (.int (ci S 195 x0)) hc_13.1 hc_13.2 (by decide) rfl (by decide) rfl rfl cWs_wsX60 cl_X6_25 rfl dX6_putGroup_13 ?_
    refine cg_aload_n C (i := 1) rfl 1 rfl dX6_putGroup_16 ?_
    obtain ⟨hc_17, h⟩ := h
    refine cg_get C (k := 4) (j := 4) (.int (ci S 132 x1)) hc_17.1 hc_17.2 (by decide) rfl (by decide) rfl rfl cWs_wsX40 cl_X6_40 rfl dX6_putGroup_17 ?_
    refine cg_iconst C (x := nI 1) rfl dX6_putGroup_20 ?_
    refine cg_isub C dX6_putGroup_21 ?_
    refine cg_isub C dX6_putGroup_22 ?_
    obtain ⟨hc_23, h⟩ := h
    refine cg_puti C (k := 6) (j := 3) (ty := tyX6) (fty := .int) hc_23.1 hc_23.2 (by decide) rfl (by decide) rfl (by decide) rfl cWs_wsX60 tyX6_ok nmX6 cl_X6_25 rfl rfl rfl rfl rfl dX6_putGroup_23 ?_
    refine cg_nm (fun S1 e_S1 => ?_)
    have h := h S1 e_S1
    refine cg_aload_n C (i := 0) rfl 0 rfl dX6_putGroup_26 ?_
    obtain ⟨hc_27, h⟩ := h
    obtain ⟨b2, hb_b2, h⟩ := h
    refine cg_get C (k := 6) (j := 0) (.ref b2) hc_27.1 hc_27.2 (by decide) rfl (by decide) rfl (show cV _ 6 0 x0 = _ from congrArg va_rf hb_b2) cWs_wsX60 cl_X6_12 rfl dX6_putGroup_27 ?_
    refine cg_aload_n C (i := 1) rfl 1 rfl dX6_putGroup_30 ?_
    obtain ⟨hc_31, h⟩ := h
    obtain ⟨mc3, ms4, hm_1, hm_2, h⟩ := h
    refine cg_calli C (t_Jx4a65c_add_9ea2d l mc3 ms4 b2 x1 S1 dp h) cc_X6_36 hc_31.1 hc_31.2 (by decide) rfl rfl ⟨by decide, by decide⟩ ⟨hm_1, hm_2⟩ rfl (Nat.le_of_ble_eq_true rfl) dX6_putGroup_31 (fun r_5 S_5 h => ?_)
    refine cg_pop C rfl dX6_putGroup_34 ?_
    exact cg_sub [0] rfl (tb_X6_putGroup_35 C   x0 (0 + mc3) (0 + ms4) S_5 h)
def k_X6_setLastAside_37 (Q : cS → Prop) (dp : Nat) (R37 : Nat → Int32 → cS → Prop) (x0 : Nat) (x1 : Int32) (S : cS) : Prop :=
cA S x0 6 ∧ ((∃ b4 : Nat, cr S 192 x0 = some b4 ∧ (cA S b4 12 ∧ (k_Jx4a65c_size_8abf5 (fun r_5 S_5 => 
((r_5 ≤ x1 →
  Q S_5) ∧
 (¬ r_5 ≤ x1 →
  cA S_5 x0 6 ∧ ((∃ b6 : Nat, cr S_5 192 x0 = some b6 ∧ (cA S_5 b6 12 ∧ (k_Jx4a65c_get_915e3 (fun r_7 S_7 => 
  cA S_7 r_7 4 ∧ (cA S_7 r_7 4 ∧ (∀ S8 : cS, S8 = cSi S_7 133 r_7 ((bI true)) → ∀ x1_9 : Int32, x1_9 = x1 + nI 1 → R37 x0 x1_9 S8))) dp b6 x1 S_5))))))) dp b4 S))))
def k_X6_setLastAside_37L (Q : cS → Prop) (dp : Nat)  (x0 : Nat) (x1 : Int32) (S : cS) : Prop :=
  lfp (X := Nat × Int32 × cS) (fun P y => k_X6_setLastAside_37 Q dp  (fun b0 b1 S => P (b0, b1, S)) y.1 y.2.1 y.2.2) (x0, x1, S)
def k_X6_setLastAside (Q : cS → Prop) (dp : Nat) (x0 : Nat) (S : cS) : Prop :=
cA S x0 6 ∧ (((((ci S 195 x0)) < ((nI 1)) →
  Q S) ∧
 (¬ ((ci S 195 x0)) < ((nI 1)) →
  cA S x0 6 ∧ (cA S x0 6 ∧ ((∃ b1 : Nat, cr S 194 x0 = some b1 ∧ (cA S b1 14 ∧ (((((ci S 195 x0)) ≤ ((nI (cn S b1))) →
    cA S x0 6 ∧ ((∃ b2 : Nat, cr S 194 x0 = some b2 ∧ (cA S x0 6 ∧ (cX S b2 14 ((((ci S 195 x0)) - ((nI 1)))) ∧ (∀ x1_3 : Int32, x1_3 = (if ((cI S b2 ((((ci S 195 x0)) - ((nI 1)))).toNatClampNeg)) < ((nI 0)) then ((nI 0)) else ((cI S b2 ((((ci S 195 x0)) - ((nI 1)))).toNatClampNeg))) → k_X6_setLastAside_37L Q dp  x0 x1_3 S)))))) ∧
   (¬ ((ci S 195 x0)) ≤ ((nI (cn S b1))) →
    Q S))))))))))
section S_X6_setLastAside
variable {p : Program} {l : Launch} {e : Env} {s : State} {m : MethodId} {args : Array Value} {below : List Frame} {meth : Method} {c : Code} {A : Nat → Prop} {D : va_G} {Y : cY} {tp dp : Nat}
set_option maxRecDepth 20000 in
theorem tb_X6_setLastAside_37 (C : cC p s m args meth c cX6_setLastAside 2 none A D Y tp dp RX6) {post : cS → Prop} {R37 : Nat → Int32 → cS → Prop} (hR37 : ∀ (x0 : Nat) (x1 : Int32) (S : cS), R37 x0 x1 S → cG p l e (cRm 3 0 0 64) s m args below meth c A D Y 2 (MQ below (cQv post D Y A) args s 0 0 A) 0 0 37 [(0, .ref x0), (1, .int x1)] [] S) (x0 : Nat) (x1 : Int32) (S : cS) (h : k_X6_setLastAside_37 post dp R37 x0 x1 S) : cG p l e (cRm 3 0 0 64) s m args below meth c A D Y 2 (MQ below (cQv post D Y A) args s 0 0 A) 0 0 37 [(0, .ref x0), (1, .int x1)] [] S := by
  unfold k_X6_setLastAside_37 at h
  refine cg_iload_n C (i := 1) rfl 1 rfl dX6_setLastAside_37 ?_
  refine cg_aload_n C (i := 0) rfl 0 rfl dX6_setLastAside_38 ?_
  obtain ⟨hc_39, h⟩ := h
  obtain ⟨b4, hb_b4, h⟩ := h
  refine cg_get C (k := 6) (j := 0) (.ref b4) hc_39.1 hc_39.2 (by decide) rfl (by decide) rfl (show cV _ 6 0 x0 = _ from congrArg va_rf hb_b4) cWs_wsX60 cl_X6_12 rfl dX6_setLastAside_39 ?_
  obtain ⟨hc_42, h⟩ := h
  refine cg_calli C (t_Jx4a65c_size_8abf5 l b4 S dp h) cc_X6_32 hc_42.1 hc_42.2 (by decide) rfl rfl ⟨by decide, by decide⟩ ⟨by decide, by decide⟩ rfl (Nat.le_of_ble_eq_true rfl) dX6_setLastAside_42 (fun r_5 S_5 h => ?_)
  refine cg_icmp_ge C 69 (by decide) dX6_setLastAside_45 (fun c_ => ?_) (fun c_ => ?_)
  · have h := h.1 c_
    exact cg_vret C h dX6_setLastAside_69 (by decide) (by decide)
  · have h := h.2 c_
    refine cg_aload_n C (i := 0) rfl 0 rfl dX6_setLastAside_48 ?_
    obtain ⟨hc_49, h⟩ := h
    obtain ⟨b6, hb_b6, h⟩ := h
    refine cg_get C (k := 6) (j := 0) (.ref b6) hc_49.1 hc_49.2 (by decide) rfl (by decide) rfl (show cV _ 6 0 x0 = _ from congrArg va_rf hb_b6) cWs_wsX60 cl_X6_12 rfl dX6_setLastAside_49 ?_
    refine cg_iload_n C (i := 1) rfl 1 rfl dX6_setLastAside_52 ?_
    obtain ⟨hc_53, h⟩ := h
    refine cg_callr C (t_Jx4a65c_get_915e3 l b6 x1 S_5 dp h) cc_X6_49 hc_53.1 hc_53.2 (by decide) rfl rfl ⟨by decide, by decide⟩ ⟨by decide, by decide⟩ rfl (Nat.le_of_ble_eq_true rfl) dX6_setLastAside_53 (fun r_7 S_7 h => ?_)
    obtain ⟨hc_56, h⟩ := h
    refine cg_ccast C (k := 4) hc_56.1 hc_56.2 (by decide) rfl cnc_X6_41 dX6_setLastAside_56 ?_
    refine cg_iconst C (x := nI 1) rfl dX6_setLastAside_59 ?_
    obtain ⟨hc_60, h⟩ := h
    refine cg_cast (.int (bI true)) rfl ?_
    refine cg_puti C (k := 4) (j := 5) (ty := tyX4) (fty := .boolean) hc_60.1 hc_60.2 (by decide) rfl (by decide) rfl (by decide) rfl cWs_wsX40 tyX4_ok nmX4 cl_X6_53 rfl rfl rfl (bI_nar _) (bI_fit _) dX6_setLastAside_60 ?_
    refine cg_nm (fun S8 e_S8 => ?_)
    have h := h S8 e_S8
    obtain ⟨x1_9, e_x1_9⟩ : ∃ z : Int32, z = x1 + nI 1 := ⟨_, rfl⟩
    have h := h x1_9 e_x1_9
    refine cg_iinc C (lv' := [(1, .int x1_9), (0, .ref x0)]) 1 rfl (by rw [e_x1_9]; rfl) (Nat.le_of_ble_eq_true rfl) rfl dX6_setLastAside_63 ?_
    refine cg_goto C 37 (by decide) dX6_setLastAside_66 ?_
    exact cg_sub [1, 0] rfl (hR37 x0 x1_9 S8 h)
set_option maxRecDepth 20000 in
theorem tl_X6_setLastAside_37 (C : cC p s m args meth c cX6_setLastAside 2 none A D Y tp dp RX6) {post : cS → Prop}   (x0 : Nat) (x1 : Int32) (S : cS) (h : k_X6_setLastAside_37L post dp  x0 x1 S) : cG p l e (cRm 3 0 0 64) s m args below meth c A D Y 2 (MQ below (cQv post D Y A) args s 0 0 A) 0 0 37 [(0, .ref x0), (1, .int x1)] [] S :=
  h (fun y => cG p l e (cRm 3 0 0 64) s m args below meth c A D Y 2 (MQ below (cQv post D Y A) args s 0 0 A) 0 0 37 [(0, .ref (y.1)), (1, .int (y.2.1))] [] (y.2.2)) (fun y hy => tb_X6_setLastAside_37 C   (fun b0 b1 S z => z) (y.1) (y.2.1) (y.2.2) hy)
end S_X6_setLastAside
set_option maxHeartbeats 1000000 in
set_option maxRecDepth 20000 in
theorem t_X6_setLastAside (l : Launch) (x0 : Nat) (S : cS) (dp : Nat) {P : cS → Prop} (h : k_X6_setLastAside P dp x0 S) : cMet (cQv P) l yX6_setLastAside cX6_setLastAside 2 none 3 0 0 64 [.ref x0] S dp := by
  intro D Y tp sz
  refine cg_body (by decide +kernel) (Nat.le_of_ble_eq_true rfl) ?_
  intro p e s m args below meth c C
  generalize va_A (cWd Y S) sz = A at C ⊢
  have C : cC p s m args meth c cX6_setLastAside 2 none A D Y tp dp RX6 := C
  refine cg_lv (lv' := [(0, .ref x0)]) rfl ?_
  unfold k_X6_setLastAside at h
  refine cg_aload_n C (i := 0) rfl 0 rfl dX6_setLastAside_0 ?_
  obtain ⟨hc_1, h⟩ := h
  refine cg_get C (k := 6) (j := 3) (.int (ci S 195 x0)) hc_1.1 hc_1.2 (by decide) rfl (by decide) rfl rfl cWs_wsX60 cl_X6_25 rfl dX6_setLastAside_1 ?_
  refine cg_iconst C (x := nI 1) rfl dX6_setLastAside_4 ?_
  refine cg_icmp_lt C 20 (by decide) dX6_setLastAside_5 (fun c_ => ?_) (fun c_ => ?_)
  · have h := h.1 c_
    exact cg_vret C h dX6_setLastAside_20 (by decide) (by decide)
  · have h := h.2 c_
    refine cg_aload_n C (i := 0) rfl 0 rfl dX6_setLastAside_8 ?_
    obtain ⟨hc_9, h⟩ := h
    refine cg_get C (k := 6) (j := 3) (.int (ci S 195 x0)) hc_9.1 hc_9.2 (by decide) rfl (by decide) rfl rfl cWs_wsX60 cl_X6_25 rfl dX6_setLastAside_9 ?_
    refine cg_aload_n C (i := 0) rfl 0 rfl dX6_setLastAside_12 ?_
    obtain ⟨hc_13, h⟩ := h
    obtain ⟨b1, hb_b1, h⟩ := h
    refine cg_get C (k := 6) (j := 2) (.ref b1) hc_13.1 hc_13.2 (by decide) rfl (by decide) rfl (show cV _ 6 2 x0 = _ from congrArg va_rf hb_b1) cWs_wsX60 cl_X6_21 rfl dX6_setLastAside_13 ?_
    obtain ⟨hc_16, h⟩ := h
    refine cg_alen C hc_16.1 hc_16.2 (by decide) (by decide) dX6_setLastAside_16 ?_
    refine cg_icmp_le C 21 (by decide) dX6_setLastAside_17 (fun c_ => ?_) (fun c_ => ?_)
    · have h := h.1 c_
      refine cg_aload_n C (i := 0) rfl 0 rfl dX6_setLastAside_21 ?_
      obtain ⟨hc_22, h⟩ := h
      obtain ⟨b2, hb_b2, h⟩ := h
      refine cg_get C (k := 6) (j := 2) (.ref b2) hc_22.1 hc_22.2 (by decide) rfl (by decide) rfl (show cV _ 6 2 x0 = _ from congrArg va_rf hb_b2) cWs_wsX60 cl_X6_21 rfl dX6_setLastAside_22 ?_
      refine cg_aload_n C (i := 0) rfl 0 rfl dX6_setLastAside_25 ?_
      obtain ⟨hc_26, h⟩ := h
      refine cg_get C (k := 6) (j := 3) (.int (ci S 195 x0)) hc_26.1 hc_26.2 (by decide) rfl (by decide) rfl rfl cWs_wsX60 cl_X6_25 rfl dX6_setLastAside_26 ?_
      refine cg_iconst C (x := nI 1) rfl dX6_setLastAside_29 ?_
      refine cg_isub C dX6_setLastAside_30 ?_
      obtain ⟨hc_31, h⟩ := h
      refine cg_ialoadR C hc_31 dX6_setLastAside_31 ?_
      refine cg_iconst C (x := nI 0) rfl dX6_setLastAside_32 ?_
      refine cg_mmax C cmmax_X6_43 cmmax_s cmm_i cmmax_c (Nat.le_of_ble_eq_true rfl) (Nat.le_of_ble_eq_true rfl) (by decide) (by decide) dX6_setLastAside_33 ?_
      refine cg_nmI (fun x1_3 e_x1_3 => ?_)
      have h := h x1_3 e_x1_3
      refine cg_istore_n C (i := 1) (lv' := [(1, .int x1_3), (0, .ref x0)]) rfl (Nat.le_of_ble_eq_true rfl) rfl dX6_setLastAside_36 ?_
      exact cg_sub [1, 0] rfl (tl_X6_setLastAside_37 C   x0 x1_3 S h)
    · have h := h.2 c_
      exact cg_vret C h dX6_setLastAside_20 (by decide) (by decide)
